/-! the law's turns: a round begins, a dash -/
section Z
variable {n R pt P C : Nat} {Λ : s3_T} {π : Nat → Nat} {σ Ω : sg_T}
theorem s_cnt (h : RQ n R 1 P C σ Ω) {b : Nat} (hb : b ≤ 8) (b1 : σ 0 4 = nI b) (b2 : Ω 4 8 = nI b) : fX2_countHidingSpots σ = some (nI (cn_ (gb_ σ n b) 16)) := by
  have h5 := rq_r5 (RQ_ri h)
  have key : ∀ d i f, i + d = 16 → d < f → lX2_countHidingSpots_4 f (nI (cn_ (gb_ σ n b) i)) (nI i) σ = some (nI (cn_ (gb_ σ n b) 16)) := by
    intro d
    induction d with
    | zero =>
      intro i f hi hf
      obtain ⟨f, rfl⟩ : ∃ g, f = g + 1 := ⟨f - 1, by omega⟩
      have hi : i = 16 := by omega
      subst hi
      rw [lX2_countHidingSpots_4, if_pos (show (16 : Int32) ≤ nI 16 by decide)]
    | succ d ih =>
      intro i f hi hf
      obtain ⟨f, rfl⟩ : ∃ g, f = g + 1 := ⟨f - 1, by omega⟩
      have hin : i < 16 := by omega
      rw [lX2_countHidingSpots_4, if_neg (gt_16 hin), nI_1]
      rcases z_open h5 hin hb b1 (by show zq_ R σ Ω 8 = nI b; rw [zq_l (by decide)]; exact b2) with ⟨g1, g2, g3, -⟩ | ⟨g1, g3, -⟩
      · rw [ob_ g3, if_neg n10, nI_1, ← cn_1 (P := gb_ σ n b) (gb_i.mpr ⟨g1, g2⟩)]
        exact ih (i + 1) f (by omega) (by omega)
      · rw [ob_ g3, if_pos p00, ← cn_n (P := gb_ σ n b) (i := i) (fun z => g1 (gb_i.mp z))]
        exact ih (i + 1) f (by omega) (by omega)
  exact key 16 0 70 (by omega) (by omega)
theorem s_423 (h : RQ n R 1 P C σ Ω) (hno : ∀ p, p < 8 → σ 7 p = NO) {b : Nat} (hb : b ≤ 8) (b2 : Ω 4 8 = nI b) (a6 a10 a11 a13 : Int32) : lL_law_423 70 a6 a10 a11 a13 0 0 Λ π Ω = some (nI (cn_ (gb_ σ n b) 16)) := by
  have hri := RQ_ri h
  have hn := hri.2.1.1
  have key : ∀ d i f, i + d = 16 → d < f → lL_law_423 f a6 a10 a11 a13 (nI (cn_ (gb_ σ n b) i)) (nI i) Λ π Ω = some (nI (cn_ (gb_ σ n b) 16)) := by
    intro d
    induction d with
    | zero =>
      intro i f hi hf
      obtain ⟨f, rfl⟩ : ∃ g, f = g + 1 := ⟨f - 1, by omega⟩
      have hi : i = 16 := by omega
      subst hi
      rw [lL_law_423, if_pos (show (16 : Int32) ≤ nI 16 by decide)]
    | succ d ih =>
      intro i f hi hf
      obtain ⟨f, rfl⟩ : ∃ g, f = g + 1 := ⟨f - 1, by omega⟩
      have hin : i < 16 := by omega
      have c0 : cn_ (at_ σ i) n = 0 := cn_0.mpr (fun p hp => by
        unfold at_
        rw [hno p (by omega)]
        exact decide_eq_false (fun w => nI_NO (by omega) w.symm))
      rw [lL_law_423, if_neg (gt_16 hin), nI_1]
      rcases a_good hri hb b2 hin with ⟨g1, g2⟩ | ⟨g1, g2⟩
      · rw [ob_ g2, if_neg n10, Option.bind_some, nI_1, ← cn_1 (P := gb_ σ n b) (gb_i.mpr ⟨g1, by omega⟩)]
        exact ih (i + 1) f (by omega) (by omega)
      · rw [ob_ g2, if_pos p00, Option.bind_some, Int32.add_zero, ← cn_n (P := gb_ σ n b) (i := i) (fun z => g1 (gb_i.mp z).1)]
        exact ih (i + 1) f (by omega) (by omega)
  exact key 16 0 70 (by omega) (by omega)
theorem b_start (hk : rk_ Λ π) (h : RQ n R 0 P C (Λ 0) Ω) (hn2 : 2 ≤ n) (a6 c : Int32) {k : Nat} (hkn : k < n) : OK_ n R P C (bL_law_364 a6 c (nI k) Λ π Ω) := by
  obtain ⟨hf, hn5, hb⟩ := h
  obtain ⟨hR, hr0, hs, ⟨t1, t2, t3, t4, t5, t6⟩, hp, hm, hh⟩ := id hf
  have hn := hr0.1
  have hk8 : k < 8 := by omega
  have no := hp.2.2.1 rfl
  have z2 : Λ 0 0 2 = 0 := hr0.2.2.2.2.2.2.1
  obtain ⟨r, hr, er⟩ := a_low (c >>> ((12 : Int32) &&& 31)) (m := 8) (by decide) (by decide)
  have er : fL_low (c >>> ((12 : Int32) &&& 31)) (8 : Int32) = some (nI r) := er
  obtain ⟨b, hbd⟩ : ∃ b, b = 1 + r := ⟨_, rfl⟩
  have eb : (1 : Int32) + nI r = nI b := by rw [hbd, show (1 : Int32) = nI 1 from rfl, nI_add]
  obtain ⟨F, hF⟩ : ∃ F, F = sg_u (sg_u (sg_u (Λ 0 0) 2 1) 3 (nI k)) 4 (nI b) := ⟨_, rfl⟩
  have F4 : F 4 = nI b := by rw [hF, sg_us]
  have F3 : F 3 = nI k := by rw [hF, sg_un _ _ (by decide), sg_us]
  have F2 : F 2 = nI 1 := by rw [hF, sg_un _ _ (by decide), sg_un _ _ (by decide), sg_us]; rfl
  have Fo : ∀ i, i ≠ 2 → i ≠ 3 → i ≠ 4 → F i = Λ 0 0 i := fun i h1 h2 h3 => by rw [hF, sg_un _ _ h3, sg_un _ _ h2, sg_un _ _ h1]
  obtain ⟨G, hG⟩ : ∃ G, G = upd (upd (upd (upd (Ω 4) 6 1) 7 (nI k)) 8 (nI b)) 9 0 := ⟨_, rfl⟩
  have G9 : G 9 = 0 := by rw [hG, up_s]
  have G8 : G 8 = nI b := by rw [hG, up_n _ _ (by decide), up_s]
  have G7 : G 7 = nI k := by rw [hG, up_n _ _ (by decide), up_n _ _ (by decide), up_s]
  have G6 : G 6 = nI 1 := by rw [hG, up_n _ _ (by decide), up_n _ _ (by decide), up_n _ _ (by decide), up_s]; rfl
  have G10 : G 10 = Ω 4 10 := by rw [hG, up_n _ _ (by decide), up_n _ _ (by decide), up_n _ _ (by decide), up_n _ _ (by decide)]
  have Go : ∀ i, i < 6 → G i = Ω 4 i := fun i hi => by rw [hG, up_n _ _ (by omega), up_n _ _ (by omega), up_n _ _ (by omega), up_n _ _ (by omega)]
  have x1 : Ω 1 (6 * k + 1) = Λ 0 3 k := hm k hk8 1 (by decide)
  obtain ⟨s0, hs0⟩ : ∃ s0, s0 = sg_a (Λ 0) 0 F := ⟨_, rfl⟩
  have s03 : s0 3 = Λ 0 3 := by rw [hs0, sg_an _ _ (by decide)]
  obtain ⟨σ', hσ'⟩ : ∃ σ', σ' = sg_a s0 3 (upd (Λ 0 3) k (Λ 0 3 k + 1)) := ⟨_, rfl⟩
  obtain ⟨Ω', hΩ'⟩ : ∃ Ω', Ω' = sg_a (sg_a Ω 4 G) 1 (upd (Ω 1) (6 * k + 1) (Λ 0 3 k + 1)) := ⟨_, rfl⟩
  have o1 : Ω' 1 = upd (Ω 1) (6 * k + 1) (Λ 0 3 k + 1) := by rw [hΩ', sg_as]
  have o2 : Ω' 2 = Ω 2 := by rw [hΩ', sg_an _ _ (by decide), sg_an _ _ (by decide)]
  have o3 : Ω' 3 = Ω 3 := by rw [hΩ', sg_an _ _ (by decide), sg_an _ _ (by decide)]
  have o4 : Ω' 4 = G := by rw [hΩ', sg_an _ _ (by decide), sg_as]
  have rt1 : rf_ n R 1 s0 (Ω 1) (Ω 2) (Ω 3) G := by
    refine rf_t hf (by decide) (fun j hj => by rw [hs0, sg_an _ _ (by omega)]) ?_ ?_ ?_ Go G6 ?_ (fun z => absurd z (by decide))
    · rw [hs0, sg_as, Fo 0 (by decide) (by decide) (by decide)]
    · rw [hs0, sg_as, Fo 1 (by decide) (by decide) (by decide)]
    · rw [hs0, sg_as]; exact F2
    · unfold rt_
      rw [hs0, sg_as, F3, F4, G7, G8, G9, G10, Fo 5 (by decide) (by decide) (by decide), Fo 6 (by decide) (by decide) (by decide)]
      exact ⟨fun q => absurd q (by decide), fun _ => ⟨k, b, hkn, by omega, by omega, rfl, rfl, rfl, rfl⟩, fun q => absurd q (by decide), fun _ => t4 (by decide), fun _ => rfl, t6⟩
  have hx : RQ n R 1 P C σ' Ω' := by
    have e : σ' = sg_a s0 (2 + 1) (upd (s0 (2 + 1)) k (Λ 0 3 k + 1)) := by rw [hσ', show 2 + 1 = 3 from rfl, s03]
    refine ⟨?_, ?_, ?_⟩
    · rw [o1, o2, o3, o4, e]
      exact rf_p rt1 (sg_an _ _ (by decide)) (sg_an _ _ (by decide)) (sg_an _ _ (by decide)) (sg_an _ _ (by decide)) (pq_add rt1.2.2.2.2.1 hkn (by decide) _) (mf_add rt1.2.2.2.2.2.1 hk8 (by decide) _)
    · rw [o1, e]
      refine nf_add ?_ (by decide) _ _
      rw [hs0]
      exact nf_o hn5 (by decide) _
    · rw [hσ', hs0]
      exact bd_o (bd_o hb (by decide) (by decide) (by decide) _) (by decide) (by decide) (by decide) _
  have no' : ∀ p, p < 8 → σ' 7 p = NO := fun p hp => by rw [hσ', hs0, sg_an _ _ (by decide), sg_an _ _ (by decide)]; exact no p hp
  have q4 : σ' 0 4 = nI b := by rw [hσ', sg_an _ _ (by decide), hs0, sg_as]; exact F4
  have g8 : Ω' 4 8 = nI b := by rw [o4]; exact G8
  have cc := s_cnt hx (show b ≤ 8 by omega) q4 g8
  have z2' : σ' 0 2 = nI 1 := by rw [hσ', sg_an _ _ (by decide), hs0, sg_as]; exact F2
  -- the calls
  have h1 : fX2_moveSeeker 1 (Λ 0) = some (-10003, Λ 0) := by
    unfold fX2_moveSeeker
    rw [if_neg (by decide), if_pos (by decide), z2, if_neg (by decide)]
  have h2 : fX2_beginSeeking (Λ 0) = some (-10003, Λ 0) := by
    unfold fX2_beginSeeking
    rw [z2, if_neg (by decide)]
  have h3 : fX2_beginRound (nI k) (nI b) (Λ 0) = some (nI (cn_ (gb_ σ' n b) 16), σ') := by
    unfold fX2_beginRound
    rw [ob_ (z_pl1 hr0 hkn), if_neg n10, if_neg (by rw [show (1 : Int32) = nI 1 from rfl, nI_ltI (by omega) (by decide)]; omega), if_pos (by rw [show (8 : Int32) = nI 8 from rfl, nI_leI (by omega) (by decide)]; omega), if_pos z2, if_pos (by rw [hr0.2.2.1, show (2 : Int32) = nI 2 from rfl, nI_leI (by decide) (by omega)]; omega), ox_ hk8 (by decide), cl_ (by omega)]
    simp only [sg_aa]
    rw [← hF, ← hs0, ← hσ', ob_ cc]
  have h4 : fX2_beginRound (nI k) 1 σ' = some (-10003, σ') := by
    unfold fX2_beginRound
    rw [ob_ (z_pl1 (σ := σ') (Ω := Ω') hx.1.2.1 hkn), if_neg n10, if_neg (by decide), if_pos (by decide), z2', if_neg (by decide)]
  have h5 : fX2_addPlayer σ' = some (-10003, σ') := by
    unfold fX2_addPlayer
    rw [z2', if_neg (by decide)]
  obtain ⟨Λ1, π1, a1, a2, a3⟩ := rk_op (fX2_moveSeeker 1) hk h1
  have a1 : fX7_walk 1 Λ π = some (-10003, Λ1, π1) := a1
  obtain ⟨Λ2, π2, b1, b2, b3⟩ := rk_op fX2_beginSeeking a3 (by rw [a2]; exact h2)
  have b1 : fX7_seek Λ1 π1 = some (-10003, Λ2, π2) := b1
  obtain ⟨Λ3, π3, c1, c2, c3⟩ := rk_op (fX2_beginRound (nI k) (nI b)) b3 (by rw [b2]; exact h3)
  have c1 : fX7_start (nI k) (nI b) Λ2 π2 = some (nI (cn_ (gb_ σ' n b) 16), Λ3, π3) := c1
  obtain ⟨Λ4, π4, d1, d2, d3⟩ := rk_op (fX2_beginRound (nI k) 1) c3 (by rw [c2]; exact h4)
  have d1 : fX7_start (nI k) 1 Λ3 π3 = some (-10003, Λ4, π4) := d1
  obtain ⟨Λ5, π5, e1, e2, e3⟩ := rk_op fX2_addPlayer d3 (by rw [d2]; exact h5)
  have e1 : fX7_join Λ4 π4 = some (-10003, Λ5, π5) := e1
  refine ⟨Λ5, π5, Ω', R, 1, ?_, e3, by omega, by rw [e2]; exact hx⟩
  unfold bL_law_364
  rw [ob_ er, eb, o6_1 hk8, c6_1 hk8, x1]
  simp only [sg_aa, k_6, k_7, k_8, k_9]
  rw [← hG, ← hΩ', ob_ (s_423 hx no' (show b ≤ 8 by omega) g8 a6 (nI k) _ _), ob_ a1, if_pos rfl, ob_ b1, if_pos rfl, ob_ c1, if_pos rfl, ob_ d1, if_pos rfl, ob_ e1, if_pos rfl]
/-- a dash -/
theorem b_dash (hk : rk_ Λ π) (h : RQ n R 2 P C (Λ 0) Ω) (hR1 : R + 1 < 2 ^ 30) (hP : P ≤ 800000) (a6 : Int32) {k : Nat} (hkn : k < n) : OK_ n R (P + 30) (C + 1) (bL_law_1186 a6 (nI k) Λ π Ω) := by
  have h5 := rq_r5 (RQ_ri h)
  obtain ⟨hf, hn5, hb⟩ := h
  obtain ⟨hR, hr0, hs, ⟨t1, t2, t3, t4, t5, t6⟩, hp, hm, hh⟩ := id hf
  have hn := hr0.1
  have hk8 : k < 8 := by omega
  obtain ⟨sk, b, hsk, hb1, hb2, s3, z7, s4, z8⟩ := t2 (by decide)
  have hsk8 : sk < 8 := by omega
  obtain ⟨a, ha, a5, a9⟩ := t3 rfl
  have b2 : Λ 0 0 2 = 2 := hr0.2.2.2.2.2.2.1
  have xo : Ω 1 (6 * k + 5) = hq_ (Λ 0 7 k) := hn5 k hk8
  have hid := z_hid h5 hkn
  unfold bL_law_1186
  rw [k_7, z7, k_9, a9]
  simp only [o6_5 hk8, c6_5 hk8, xo]
  rcases hq_0 hp hk8 with ⟨q, y⟩ | ⟨s, s1, s2, es, q, y⟩
  · have hF : fX2_dashHome (nI k) (Λ 0) = some (-10003, Λ 0) := by
      unfold fX2_dashHome
      rw [ob_ (z_pl1 hr0 hkn), if_neg n10, if_pos b2, ob_ hid, if_pos q, if_pos p00]
    obtain ⟨Λ', π', e1, e2, e3⟩ := rk_op (fX2_dashHome (nI k)) hk hF
    have e1 : fX7_dash (nI k) Λ π = some (-10003, Λ', π') := e1
    refine ⟨Λ', π', Ω, R, 2, ?_, e3, by omega, by rw [e2]; exact RQ_m ⟨hf, hn5, hb⟩ (by omega) (by omega)⟩
    rw [y, if_pos (show (-1 : Int32) ≤ 0 by decide), Option.bind_some, if_pos p00, Option.bind_some, if_pos p00, Option.bind_some, if_pos p00, Option.bind_some, ob_ e1, if_pos p00, Option.bind_some, if_pos rfl, if_pos p00]
  · rw [if_neg q] at hid
    have d1 := ds_8 s s2 0 (by decide)
    have d2 := ds_8 a ha 0 (by decide)
    have ke : es_ (Λ 0) a k = true ↔ ds s 0 < ds a 0 := by
      unfold es_
      rw [bo_, es, cl_ (by omega)]
      exact ⟨fun z => z.2, fun z => ⟨by rw [← es]; exact q, z⟩⟩
    have esc := c_esc h5 ha a5 hkn
    rw [y, if_neg (nI_nle (by omega) (by omega)), Option.bind_some, if_neg n10, ob_ (a_ap0 s2), ob_ (a_ap0 ha)]
    -- the end of the round, or not
    have fin : ∀ (σ1 Ω1 : sg_T) (r : Int32), RQ n R 2 (P + 3) C σ1 Ω1 → (∀ σ', fX2_endRoundIfNobodyIsHidden σ1 = some σ' → fX2_dashHome (nI k) (Λ 0) = some (r, σ')) → ∃ (Λ' : s3_T) (π' : Nat → Nat), fX7_dash (nI k) Λ π = some (r, Λ', π') ∧ OK_ n R (P + 30) (C + 1) ((fL_hidden Ω1).bind fun r_26 => (if r_26 = 0 then ((fL_end Ω1).bind fun Ω29 => (some (Λ', π', Ω29))) else (some (Λ', π', Ω1)))) := by
      intro σ1 Ω1 r hx hd
      rcases e_endE hx hR1 with ⟨g1, σ', Ω', g2, g3, g4⟩ | ⟨v, v1, g1, g2⟩
      · obtain ⟨Λ', π', e1, e2, e3⟩ := rk_op (fX2_dashHome (nI k)) hk (hd _ g2)
        refine ⟨Λ', π', e1, Λ', π', Ω', R + 1, 0, ?_, e3, Nat.le_refl _, by rw [e2]; exact RQ_m g4 (by omega) (by omega)⟩
        rw [ob_ g1, if_pos p00, ob_ g3]
      · obtain ⟨Λ', π', e1, e2, e3⟩ := rk_op (fX2_dashHome (nI k)) hk (hd _ g2)
        refine ⟨Λ', π', e1, Λ', π', Ω1, R, 2, ?_, e3, by omega, by rw [e2]; exact RQ_m hx (by omega) (by omega)⟩
        rw [ob_ g1, if_neg v1]
    have mk : ∀ (g j : Nat) (v : Int32), g < n → (j = 2 ∨ j = 4) → -3 ≤ v.toInt → v.toInt ≤ 3 → RQ n R 2 (P + 3) C (sf_ (Λ 0) k g j v) (sg_a Ω 1 (gf_ (Ω 1) k g j v)) := by
      intro g j v hg hj v1 v2
      obtain ⟨x1, x2, x3⟩ := e_gain hf hn5 hb (by omega) hkn hg hj v1 v2
      refine ⟨?_, ?_, x3⟩
      · rw [sg_as, sg_an _ _ (show 2 ≠ 1 by decide), sg_an _ _ (show 3 ≠ 1 by decide), sg_an _ _ (show 4 ≠ 1 by decide)]
        exact x1
      · rw [sg_as]; exact x2
    by_cases c : nI (ds a 0) ≤ nI (ds s 0)
    · rw [if_pos c, Option.bind_some, if_pos p00, Option.bind_some]
      rw [nI_leI (by omega) (by omega)] at c
      rw [if_neg (fun z => by have := ke.mp z; omega)] at esc
      obtain ⟨Λ', π', e1, e2⟩ := fin _ _ 0 (mk sk 2 1 hsk (Or.inl rfl) (by decide) (by decide)) (fun σ' hσ => by
        unfold fX2_dashHome
        rw [ob_ (z_pl1 hr0 hkn), if_neg n10, if_pos b2, ob_ hid, if_neg n10, ob_ esc, if_pos p00, e_find hf hkn hsk s3, ob_ hσ, Option.bind_some])
      simp only [o6_0 hsk8, c6_0 hsk8, if_neg n10, if_true, Option.bind_some, o6_2 hsk8, c6_2 hsk8, sg_aa]
      rw [ob_ e1, if_pos rfl]
      exact e2
    · rw [if_neg c, Option.bind_some, if_neg n10, Option.bind_some]
      rw [nI_leI (by omega) (by omega)] at c
      rw [if_pos (ke.mpr (by omega))] at esc
      obtain ⟨Λ', π', e1, e2⟩ := fin _ _ 1 (mk k 4 3 hkn (Or.inr rfl) (by decide) (by decide)) (fun σ' hσ => by
        unfold fX2_dashHome
        rw [ob_ (z_pl1 hr0 hkn), if_neg n10, if_pos b2, ob_ hid, if_neg n10, ob_ esc, if_neg n10, ob_ (e_escape hk8 3), ob_ hσ])
      simp only [o6_0 hk8, c6_0 hk8, if_neg n10, Option.bind_some, o6_4 hk8, c6_4 hk8, sg_aa]
      rw [ob_ e1, if_pos rfl]
      exact e2
end Z
