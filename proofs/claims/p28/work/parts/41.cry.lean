/-! the law's turns: a cry -/
section Z
variable {n R pt P C : Nat} {Λ : s3_T} {π : Nat → Nat} {σ Ω : sg_T} {f1 f2 f3 f4 : Nat → Int32}
/-- a find at a spot -/
theorem e_spot (h : rf_ n R pt σ f1 f2 f3 f4) (h2 : nf_ σ f1) (hb : bd_ P C σ) {t : Nat} (ht : t < 16) : ∃ (σ' : sg_T) (q : Int32), fX2_countFindOfSpot (nI t) σ = some σ' ∧ (if upd f2 t (f2 t + 1) t < f4 1 then (some (f3 (2 * t))) else (some (1 : Int32))) = some q ∧ rf_ n R pt σ' f1 (upd f2 t (f2 t + 1)) (upd f3 (2 * t) q) f4 ∧ nf_ σ' f1 ∧ bd_ P (C + 1) σ' ∧ σ' 0 = σ 0 := by
  obtain ⟨hR, hr0, hs, hrt, hp, hm, hh⟩ := h
  have e1 : f4 1 = σ 1 1 := hs.1.2.1
  obtain ⟨g8, g9⟩ := hh t ht
  obtain ⟨s8, hs8⟩ : ∃ s8, s8 = sg_a σ 8 (upd (σ 8) t (σ 8 t + 1)) := ⟨_, rfl⟩
  have r8 : s8 8 = upd (σ 8) t (σ 8 t + 1) := by rw [hs8, sg_as]
  have ro : ∀ j, j ≠ 8 → s8 j = σ j := fun j hj => by rw [hs8, sg_an _ _ hj]
  have b8 : bd_ P (C + 1) s8 := by rw [hs8]; exact bd_8 hb t
  have base : ∀ (σ' : sg_T) (q : Int32), (∀ j, j < 8 → σ' j = σ j) → σ' 8 = s8 8 → bd_ P (C + 1) σ' → (∀ s, s < 16 → hf_ R σ' (upd f2 t (f2 t + 1)) (upd f3 (2 * t) q) s) → rf_ n R pt σ' f1 (upd f2 t (f2 t + 1)) (upd f3 (2 * t) q) f4 ∧ nf_ σ' f1 ∧ bd_ P (C + 1) σ' ∧ σ' 0 = σ 0 := by
    intro σ' q k1 k2 k3 k4
    refine ⟨⟨hR, ?_, ?_, ?_, pq_c hp (fun j _ h => k1 j h), mf_c hm (fun j _ h => k1 j h), k4⟩, fun p hp => by rw [k1 7 (by decide)]; exact h2 p hp, k3, k1 0 (by decide)⟩
    · unfold r0_ at hr0 ⊢
      rw [k1 0 (by decide)]; exact hr0
    · unfold rs_ at hs ⊢
      rw [k1 1 (by decide)]; exact hs
    · unfold rt_ at hrt ⊢
      rw [k1 0 (by decide)]; exact hrt
  have far : ∀ (σ' : sg_T) (q : Int32), σ' 8 = s8 8 → (∀ s, s ≠ t → σ' 9 s = σ 9 s) → ∀ s, s < 16 → s ≠ t → hf_ R σ' (upd f2 t (f2 t + 1)) (upd f3 (2 * t) q) s := by
    intro σ' q k1 k2 s hs hst
    have := hh s hs
    unfold hf_ at this ⊢
    rw [k1, r8, k2 s hst, up_n _ _ hst, up_n _ _ hst, up_n _ _ (by omega), up_n _ _ (by omega)]
    exact this
  have z8 : fX5_isRetired (nI t) s8 = some (if σ 9 t = -1 then 0 else 1) := by
    unfold fX5_isRetired
    rw [ob_ (z_isS ht), if_neg n10, ox_ ht (by decide), cl_ (by omega), ro 9 (by decide)]
    by_cases q : σ 9 t = -1
    · rw [if_pos q, if_pos q]
    · rw [if_neg q, if_neg q]
  have cf : fX2_countFindOfSpot (nI t) σ = (if σ 8 t + 1 < σ 1 1 then some s8 else ((fX5_isRetired (nI t) s8).bind fun r_3 => (if r_3 = 0 then (some (sg_a s8 9 (upd (σ 9) t (0 : Int32)))) else (some s8)))) := by
    unfold fX2_countFindOfSpot
    rw [ox_ ht (by decide), cl_ (by omega), k_1, up_s, ← hs8]
  rw [up_s, g8, e1, cf]
  rw [← g8]
  by_cases c : f2 t + 1 < σ 1 1
  · rw [if_pos c, if_pos c]
    refine ⟨s8, f3 (2 * t), rfl, rfl, base s8 _ (fun j hj => ro j (by omega)) rfl b8 (fun s hs => ?_)⟩
    by_cases q : s = t
    · subst q
      rw [fa_upd_same rfl]
      refine ⟨by rw [r8, up_s, up_s, g8], ?_⟩
      rw [ro 9 (by decide)]
      exact g9
    · exact far s8 _ rfl (fun s _ => by rw [ro 9 (by decide)]) s hs q
  · rw [if_neg c, if_neg c, ob_ z8]
    rcases g9 with ⟨a1, a2, a3⟩ | ⟨u, hu, a1, a2, a3⟩
    · rw [if_pos a1, if_pos p00]
      refine ⟨_, 1, rfl, rfl, base _ _ (fun j hj => by rw [sg_an _ _ (by omega), ro j (by omega)]) (sg_an _ _ (by decide)) (bd_o b8 (by decide) (by decide) (by decide) _) (fun s hs => ?_)⟩
      by_cases q : s = t
      · subst q
        refine ⟨by rw [sg_an _ _ (by decide), r8, up_s, up_s, g8], Or.inr ⟨0, Nat.zero_le _, by rw [sg_as, up_s]; rfl, up_s _ _ _, ?_⟩⟩
        rw [up_n _ _ (by omega), a3]
        rfl
      · exact far _ _ (sg_an _ _ (by decide)) (fun s hs => by rw [sg_as, up_n _ _ hs]) s hs q
    · rw [if_neg (show ¬ σ 9 t = -1 by rw [a1]; exact nI_m1 (by omega)), if_neg n10]
      refine ⟨s8, 1, rfl, rfl, base s8 _ (fun j hj => ro j (by omega)) rfl b8 (fun s hs => ?_)⟩
      by_cases q : s = t
      · subst q
        rw [fa_upd_same a2]
        refine ⟨by rw [r8, up_s, up_s, g8], ?_⟩
        rw [ro 9 (by decide)]
        exact Or.inr ⟨u, hu, a1, a2, a3⟩
      · exact far s8 _ rfl (fun s _ => by rw [ro 9 (by decide)]) s hs q
theorem b_cry (hk : rk_ Λ π) (h : RQ n R 2 P C (Λ 0) Ω) (hR1 : R + 1 < 2 ^ 30) (hP : P ≤ 800000) (hC : C ≤ 800000) (a6 c : Int32) {u k : Nat} (hu : u < 16) (hkn : k < n) : OK_ n R (P + 30) (C + 1) (bL_law_803 a6 c (nI u) (nI k) Λ π Ω) := by
  have h5 := rq_r5 (RQ_ri h)
  obtain ⟨hf, hn5, hb⟩ := h
  obtain ⟨hR, hr0, ⟨⟨u0, u1, u2, u3⟩, ⟨q, hq, q1⟩, hs1⟩, ⟨t1, t2, t3, t4, t5, t6⟩, hp, hm, hh⟩ := id hf
  have q0 : Ω 4 0 = nI q := u0.trans q1
  have hn := hr0.1
  have hk8 : k < 8 := by omega
  obtain ⟨sk, b, hsk, hb1, hb2, s3, z7, s4, z8⟩ := t2 (by decide)
  have hsk8 : sk < 8 := by omega
  obtain ⟨a, ha, a5, a9⟩ := t3 rfl
  have b2 : Λ 0 0 2 = 2 := hr0.2.2.2.2.2.2.1
  have xo : Ω 1 (6 * k + 5) = hq_ (Λ 0 7 k) := hn5 k hk8
  obtain ⟨r, hr, er⟩ := a_low (c >>> ((13 : Int32) &&& 31)) (m := 3) (by decide) (by decide)
  have er : fL_low (c >>> ((13 : Int32) &&& 31)) (3 : Int32) = some (nI r) := er
  obtain ⟨t, ht, et⟩ : ∃ t, t < 16 ∧ (if nI r = 0 then (some (nI u)) else (if 0 ≤ hq_ (Λ 0 7 k) then (some (hq_ (Λ 0 7 k))) else (some (nI u)))) = some (nI t) := by
    by_cases z : nI r = 0
    · exact ⟨u, hu, if_pos z⟩
    · rw [if_neg z]
      rcases hq_0 hp hk8 with ⟨w, y⟩ | ⟨s, s1, s2, es, w, y⟩
      · exact ⟨u, hu, by rw [y, if_neg (by decide)]⟩
      · exact ⟨s, s2, by rw [y, if_pos (nI_pos' (by omega))]⟩
  have d8 := ds_8 a ha t ht
  unfold bL_law_803
  rw [ob_ er, k_7, z7, k_9, a9, k_0, q0]
  simp only [o6_5 hk8, c6_5 hk8, xo]
  rw [ob_ et]
  simp only [o6_0 hsk8, c6_0 hsk8, o6_2 hsk8, c6_2 hsk8, o6_3 hsk8, c6_3 hsk8, o8_ ht, o2_0 ht, c2_0 ht, cl_ (show t < 2 ^ 31 by omega), k_1, k_3, k_10, sg_aa]
  have pre : ∀ x, (if nI k = nI sk then some (-10003, Λ 0) else (if nI q < nI (ds a t) then some (-10003, Λ 0) else (if Λ 0 7 k = nI t then ((fX2_countFindOfSpot (nI t) (Λ 0)).bind fun σ14 => ((fX2_findPlayer (nI k) (2 : Int32) σ14).bind fun σ16 => (some ((1 : Int32), σ16)))) else ((fX2_countFalseCry (Λ 0)).bind fun σ18 => (some ((0 : Int32), σ18)))))) = x → fX2_cryName (nI k) (nI t) (Λ 0) = x := by
    intro x e
    unfold fX2_cryName
    rw [ob_ (z_pl1 hr0 hkn), if_neg n10, ob_ (z_isS ht), if_neg n10, if_pos b2, s3, ob_ (z_sees ha a5 q1 ht), ox_ hk8 (by decide), cl_ (by omega)]
    by_cases c1 : nI k = nI sk
    · rw [if_pos c1] at e ⊢
      exact e
    · rw [if_neg c1] at e ⊢
      by_cases c2 : nI q < nI (ds a t)
      · rw [if_pos c2] at e
        rw [if_pos c2, if_pos p00]
        exact e
      · rw [if_neg c2] at e
        rw [if_neg c2, if_neg n10]
        exact e
  -- can he be cried at all?
  obtain ⟨can, hcan⟩ : ∃ can : Prop, can = (¬ nI k = nI sk ∧ ¬ nI q < nI (ds a t)) := ⟨_, rfl⟩
  by_cases hc : can
  · -- he can
    obtain ⟨c1, c2⟩ : ¬ nI k = nI sk ∧ ¬ nI q < nI (ds a t) := by rw [← hcan]; exact hc
    have q8 : (if nI k = nI sk then (some (0 : Int32)) else ((fL_apart (nI t) (nI a)).bind fun r_75 => (if nI q < r_75 then (some (0 : Int32)) else (some (1 : Int32))))) = some 1 := by
      rw [if_neg c1, ob_ (a_ap t ht a ha), ds_c t ht a ha, if_neg c2]
    rw [ob_ q8, if_neg n10]
    by_cases c3 : Λ 0 7 k = nI t
    · -- found
      have c3' : hq_ (Λ 0 7 k) = nI t := (hq_e ht).mpr c3
      rw [if_pos c3', Option.bind_some, if_neg n10]
      obtain ⟨σ14, q68, w1, w2, w3, w4, w5, w6⟩ := e_spot hf hn5 hb ht
      rw [ob_ w2]
      obtain ⟨x1, x2, x3⟩ := e_gain w3 w4 w5 (by omega) hkn hsk (Or.inl rfl) (v := 2) (by decide) (by decide)
      obtain ⟨Ω1, hΩ1⟩ : ∃ Ω1, Ω1 = sg_a (sg_a (sg_a Ω 1 (gf_ (Ω 1) k sk 2 2)) 2 (upd (Ω 2) t (Ω 2 t + 1))) 3 (upd (Ω 3) (2 * t) q68) := ⟨_, rfl⟩
      have hx : RQ n R 2 (P + 3) (C + 1) (sf_ σ14 k sk 2 2) Ω1 := by
        have o1 : Ω1 1 = gf_ (Ω 1) k sk 2 2 := by rw [hΩ1, sg_an _ _ (by decide), sg_an _ _ (by decide), sg_as]
        have o2 : Ω1 2 = upd (Ω 2) t (Ω 2 t + 1) := by rw [hΩ1, sg_an _ _ (by decide), sg_as]
        have o3 : Ω1 3 = upd (Ω 3) (2 * t) q68 := by rw [hΩ1, sg_as]
        have o4 : Ω1 4 = Ω 4 := by rw [hΩ1, sg_an _ _ (by decide), sg_an _ _ (by decide), sg_an _ _ (by decide)]
        refine ⟨?_, ?_, x3⟩
        · rw [o1, o2, o3, o4]; exact x1
        · rw [o1]; exact x2
      have cry : ∀ σ', fX2_endRoundIfNobodyIsHidden (sf_ σ14 k sk 2 2) = some σ' → fX2_cryName (nI k) (nI t) (Λ 0) = some (1, σ') := fun σ' hσ => by
        refine pre _ ?_
        rw [if_neg c1, if_neg c2, if_pos c3, ob_ w1, e_find w3 hkn hsk (by rw [w6]; exact s3), ob_ hσ, Option.bind_some]
      have g8 : sg_a (sg_a (sg_a Ω 1 (upd (upd (upd (Ω 1) (6 * k + 5) (-1)) (6 * sk) (upd (Ω 1) (6 * k + 5) (-1) (6 * sk) + 2)) (6 * sk + 2) (upd (upd (Ω 1) (6 * k + 5) (-1)) (6 * sk) (upd (Ω 1) (6 * k + 5) (-1) (6 * sk) + 2) (6 * sk + 2) + 1))) 2 (upd (Ω 2) t (Ω 2 t + 1))) 3 (upd (Ω 3) (2 * t) q68) = Ω1 := by
        rw [hΩ1]
        rfl
      rw [g8, Option.bind_some]
      rcases e_endE hx hR1 with ⟨g1, σ', Ω', g2, g3, g4⟩ | ⟨v, v1, g1, g2⟩
      · obtain ⟨Λ', π', e1, e2, e3⟩ := rk_op (fX2_cryName (nI k) (nI t)) hk (cry _ g2)
        have e1 : fX7_cry (nI k) (nI t) Λ π = some (1, Λ', π') := e1
        refine ⟨Λ', π', Ω', R + 1, 0, ?_, e3, Nat.le_refl _, by rw [e2]; exact RQ_m g4 (by omega) (by omega)⟩
        rw [ob_ e1, if_neg n10, if_neg n10, Option.bind_some, if_pos rfl, if_neg n10, if_neg n10, ob_ g1, if_pos p00, ob_ g3, Option.bind_some]
      · obtain ⟨Λ', π', e1, e2, e3⟩ := rk_op (fX2_cryName (nI k) (nI t)) hk (cry _ g2)
        have e1 : fX7_cry (nI k) (nI t) Λ π = some (1, Λ', π') := e1
        refine ⟨Λ', π', Ω1, R, 2, ?_, e3, by omega, by rw [e2]; exact RQ_m hx (by omega) (by omega)⟩
        rw [ob_ e1, if_neg n10, if_neg n10, Option.bind_some, if_pos rfl, if_neg n10, if_neg n10, ob_ g1, if_neg v1, Option.bind_some]
    · -- a false cry
      have c3' : ¬ hq_ (Λ 0 7 k) = nI t := fun z => c3 ((hq_e ht).mp z)
      rw [if_neg c3', Option.bind_some, if_pos p00, if_neg n10, Option.bind_some]
      have x0 : Ω 1 (6 * sk) = Λ 0 2 sk := hm sk hsk8 0 (by decide)
      obtain ⟨s0, hs0⟩ : ∃ s0, s0 = sg_a (Λ 0) 0 (sg_u (Λ 0 0) 6 (Λ 0 0 6 + 1)) := ⟨_, rfl⟩
      have r2 : s0 2 = Λ 0 2 := by rw [hs0, sg_an _ _ (by decide)]
      have r5 : s0 5 = Λ 0 5 := by rw [hs0, sg_an _ _ (by decide)]
      have r1 : s0 1 = Λ 0 1 := by rw [hs0, sg_an _ _ (by decide)]
      obtain ⟨s2, hs2⟩ : ∃ s2, s2 = sg_a s0 2 (upd (s0 2) sk (s0 2 sk + -1)) := ⟨_, rfl⟩
      have p5 : s2 5 = Λ 0 5 := by rw [hs2, sg_an _ _ (by decide), r5]
      obtain ⟨σ1, hσ1⟩ : ∃ σ1, σ1 = sg_a s2 5 (upd (s2 5) sk (s2 5 sk + 1)) := ⟨_, rfl⟩
      obtain ⟨A, hA⟩ : ∃ A, A = upd (Ω 1) (6 * sk) (Ω 1 (6 * sk) - 1) := ⟨_, rfl⟩
      obtain ⟨Ω1, hΩ1⟩ : ∃ Ω1, Ω1 = sg_a (sg_a Ω 1 (upd A (6 * sk + 3) (A (6 * sk + 3) + 1))) 4 (upd (Ω 4) 10 (Ω 4 10 + 1)) := ⟨_, rfl⟩
      have o1 : Ω1 1 = upd A (6 * sk + 3) (A (6 * sk + 3) + 1) := by rw [hΩ1, sg_an _ _ (by decide), sg_as]
      have o2 : Ω1 2 = Ω 2 := by rw [hΩ1, sg_an _ _ (by decide), sg_an _ _ (by decide)]
      have o3 : Ω1 3 = Ω 3 := by rw [hΩ1, sg_an _ _ (by decide), sg_an _ _ (by decide)]
      have o4 : Ω1 4 = upd (Ω 4) 10 (Ω 4 10 + 1) := by rw [hΩ1, sg_as]
      have rt1 : rf_ n R 2 s0 (Ω 1) (Ω 2) (Ω 3) (upd (Ω 4) 10 (Ω 4 10 + 1)) := by
        refine rf_t hf (by decide) (fun j hj => by rw [hs0, sg_an _ _ (by omega)]) ?_ ?_ ?_ (fun i hi => up_n _ _ (by omega)) (by rw [up_n _ _ (by decide)]; exact hr0.2.2.2.2.2.2.2) ?_ (fun z => absurd z (by decide))
        · rw [hs0, sg_as, sg_un _ _ (by decide)]
        · rw [hs0, sg_as, sg_un _ _ (by decide)]
        · rw [hs0, sg_as, sg_un _ _ (by decide)]; exact b2
        · unfold rt_
          rw [hs0, sg_as, sg_un _ _ (by decide), sg_un _ _ (by decide), sg_un _ _ (by decide), sg_us, up_n _ _ (by decide), up_n _ _ (by decide), up_n _ _ (by decide), up_s, t6]
          exact ⟨t1, t2, t3, fun z => absurd rfl z, fun z => absurd z (by decide), rfl⟩
      have m0 : mf_ s0 (Ω 1) := rt1.2.2.2.2.2.1
      have m2 : mf_ s2 A := by
        rw [hs2, hA, x0, ← r2, Int32.sub_eq_add_neg]
        exact mf_add m0 (j := 0) hsk8 (by decide) _
      have y3 : A (6 * sk + 3) = s2 5 sk := m2 sk hsk8 3 (by decide)
      have n0 : nf_ s0 (Ω 1) := by rw [hs0]; exact nf_o hn5 (by decide) _
      have n2 : nf_ s2 A := by
        rw [hs2, hA]
        exact nf_add n0 (j := 0) (by decide) _ _
      have hx : RQ n R 2 (P + 3) (C + 1) σ1 Ω1 := by
        refine ⟨?_, ?_, ?_⟩
        · rw [o1, o2, o3, o4, y3]
          refine rf_p rt1 ?_ ?_ ?_ ?_ ?_ ?_
          · rw [hσ1, sg_an _ _ (by decide), hs2, sg_an _ _ (by decide)]
          · rw [hσ1, sg_an _ _ (by decide), hs2, sg_an _ _ (by decide)]
          · rw [hσ1, sg_an _ _ (by decide), hs2, sg_an _ _ (by decide)]
          · rw [hσ1, sg_an _ _ (by decide), hs2, sg_an _ _ (by decide)]
          · rw [hσ1, hs2]
            exact pq_add (pq_add rt1.2.2.2.2.1 (j := 0) hsk (by decide) _) (j := 3) hsk (by decide) _
          · rw [hσ1]
            exact mf_add m2 (j := 3) hsk8 (by decide) _
        · rw [o1, hσ1]
          exact nf_add n2 (j := 3) (by decide) _ _
        · rw [hσ1]
          refine bd_5 ?_ (by omega) sk
          rw [hs2]
          refine bd_2 ?_ (by omega) sk (by decide) (by decide)
          rw [hs0]
          exact bd_o hb (by decide) (by decide) (by decide) _
      have ip : fX5_isPlayer (nI sk) s0 = some 1 := z_pl1 (σ := s0) (Ω := sg_a Ω 4 (upd (Ω 4) 10 (Ω 4 10 + 1))) (by rw [sg_as]; exact rt1.2.1) hsk
      have cfc : fX2_countFalseCry (Λ 0) = (if Λ 0 0 6 + 1 < Λ 0 1 3 then some σ1 else ((fX2_letAllEscape σ1).bind fun σ11 => ((fX2_endRound σ11).bind fun σ13 => (some σ13)))) := by
        unfold fX2_countFalseCry
        rw [s3, ← hs0, ob_ ip, if_neg n10, ox_ hsk8 (by decide), cl_ (by omega), k_3]
        have e : sg_a (sg_a s0 2 (upd (Λ 0 2) sk (Λ 0 2 sk + -1))) 5 (upd (Λ 0 5) sk (Λ 0 5 sk + 1)) = σ1 := by rw [hσ1, p5, hs2, r2]
        rw [e]
      have q10 : Ω1 4 10 = Λ 0 0 6 + 1 := by rw [o4, up_s, t6]
      have q3 : Ω1 4 3 = Λ 0 1 3 := by rw [o4, up_n _ _ (by decide)]; exact u3
      have g8 : sg_a (sg_a Ω 1 (upd (upd (Ω 1) (6 * sk) (Ω 1 (6 * sk) - 1)) (6 * sk + 3) (upd (Ω 1) (6 * sk) (Ω 1 (6 * sk) - 1) (6 * sk + 3) + 1))) 4 (upd (Ω 4) 10 (Ω 4 10 + 1)) = Ω1 := by
        rw [hΩ1, hA]
      rw [g8]
      by_cases c4 : Λ 0 0 6 + 1 < Λ 0 1 3
      · have cry : fX2_cryName (nI k) (nI t) (Λ 0) = some (0, σ1) := pre _ (by rw [if_neg c1, if_neg c2, if_neg c3, cfc, if_pos c4, Option.bind_some])
        obtain ⟨Λ', π', e1, e2, e3⟩ := rk_op (fX2_cryName (nI k) (nI t)) hk cry
        have e1 : fX7_cry (nI k) (nI t) Λ π = some (0, Λ', π') := e1
        refine ⟨Λ', π', Ω1, R, 2, ?_, e3, by omega, by rw [e2]; exact RQ_m hx (by omega) (by omega)⟩
        rw [ob_ e1, if_neg n10, if_pos p00, Option.bind_some, if_pos rfl, if_neg n10, if_pos p00, if_pos (show Ω1 4 10 < Ω1 4 3 by rw [q10, q3]; exact c4), Option.bind_some]
      · obtain ⟨σ2, Ω2, g1, g2, g3, g4, g5⟩ := e_all (Λ := Λ) (π := π) a6 1 n 0 70 70 (by omega) (by omega) (by omega) (P + 3) σ1 Ω1 (by omega) hx.1 hx.2.2 (fun p hp => absurd hp (Nat.not_lt_zero p)) (fun p _ hp => hx.2.1 p hp)
        have g1 : fX2_letAllEscape σ1 = some σ2 := g1
        obtain ⟨σ', Ω', j1, j2, j3⟩ := e_end g3 g5 hR1 g4
        have cry : fX2_cryName (nI k) (nI t) (Λ 0) = some (0, σ') := pre _ (by rw [if_neg c1, if_neg c2, if_neg c3, cfc, if_neg c4, ob_ g1, ob_ j1, Option.bind_some])
        obtain ⟨Λ', π', e1, e2, e3⟩ := rk_op (fX2_cryName (nI k) (nI t)) hk cry
        have e1 : fX7_cry (nI k) (nI t) Λ π = some (0, Λ', π') := e1
        obtain ⟨σ2', Ω2', g1', g2', g3', g4', g5'⟩ := e_all (Λ := Λ') (π := π') a6 1 n 0 70 70 (by omega) (by omega) (by omega) (P + 3) σ1 Ω1 (by omega) hx.1 hx.2.2 (fun p hp => absurd hp (Nat.not_lt_zero p)) (fun p _ hp => hx.2.1 p hp)
        have g2' : lL_law_1081 70 a6 1 0 Λ' π' Ω1 = some Ω2' := g2'
        have s22 : σ2' = σ2 := Option.some.inj (g1'.symm.trans g1)
        subst s22
        obtain ⟨σ3, Ω3, j1', j2', j3'⟩ := e_end g3' g5' hR1 g4'
        have s33 : σ3 = σ' := Option.some.inj (j1'.symm.trans j1)
        subst s33
        refine ⟨Λ', π', Ω3, R + 1, 0, ?_, e3, Nat.le_refl _, by rw [e2]; exact RQ_m j3' (by omega) (by omega)⟩
        rw [ob_ e1, if_neg n10, if_pos p00, Option.bind_some, if_pos rfl, if_neg n10, if_pos p00, if_neg (show ¬ Ω1 4 10 < Ω1 4 3 by rw [q10, q3]; exact c4), ob_ g2', ob_ j2', Option.bind_some]
  · -- he can't
    have q8 : (if nI k = nI sk then (some (0 : Int32)) else ((fL_apart (nI t) (nI a)).bind fun r_75 => (if nI q < r_75 then (some (0 : Int32)) else (some (1 : Int32))))) = some 0 := by
      by_cases c1 : nI k = nI sk
      · rw [if_pos c1]
      · by_cases c2 : nI q < nI (ds a t)
        · rw [if_neg c1, ob_ (a_ap t ht a ha), ds_c t ht a ha, if_pos c2]
        · exact absurd (by rw [hcan]; exact ⟨c1, c2⟩) hc
    have hF : fX2_cryName (nI k) (nI t) (Λ 0) = some (-10003, Λ 0) := by
      refine pre _ ?_
      by_cases c1 : nI k = nI sk
      · rw [if_pos c1]
      · by_cases c2 : nI q < nI (ds a t)
        · rw [if_neg c1, if_pos c2]
        · exact absurd (by rw [hcan]; exact ⟨c1, c2⟩) hc
    obtain ⟨Λ', π', e1, e2, e3⟩ := rk_op (fX2_cryName (nI k) (nI t)) hk hF
    have e1 : fX7_cry (nI k) (nI t) Λ π = some (-10003, Λ', π') := e1
    refine ⟨Λ', π', Ω, R, 2, ?_, e3, by omega, by rw [e2]; exact RQ_m ⟨hf, hn5, hb⟩ (by omega) (by omega)⟩
    rw [ob_ q8, if_pos p00, Option.bind_some, if_pos p00, if_pos p00, Option.bind_some, ob_ e1, if_pos p00, Option.bind_some, if_pos rfl, if_pos p00, if_pos p00, Option.bind_some]
end Z
