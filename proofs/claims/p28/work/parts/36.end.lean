/-! the end of a round, on both sides -/
def e5_ (f : Nat → Int32) (i : Nat) : Nat → Int32 := fun k => if k % 6 = 5 ∧ k / 6 < i then -1 else f k
theorem e5_0 (f : Nat → Int32) : e5_ f 0 = f := by
  funext k
  unfold e5_
  rw [if_neg (by omega)]
theorem e5_1 (f : Nat → Int32) (i : Nat) : upd (e5_ f i) (6 * i + 5) (-1) = e5_ f (i + 1) := by
  funext k
  by_cases q : k = 6 * i + 5
  · subst q
    rw [up_s]
    unfold e5_
    rw [if_pos (by omega)]
  · rw [up_n _ _ q]
    unfold e5_
    by_cases c : k % 6 = 5 ∧ k / 6 < i
    · rw [if_pos c, if_pos (by omega)]
    · rw [if_neg c, if_neg (by omega)]
theorem e_20 (Ω : sg_T) : ∀ d i f, i + d = 8 → d < f → lL_end_20 f (nI i) (sg_a Ω 1 (e5_ (Ω 1) i)) = some (sg_a Ω 1 (e5_ (Ω 1) 8)) := by
  intro d
  induction d with
  | zero =>
    intro i f hi hf
    obtain ⟨f, rfl⟩ : ∃ g, f = g + 1 := ⟨f - 1, by omega⟩
    have hi : i = 8 := by omega
    subst hi
    rw [lL_end_20, if_pos (show (8 : Int32) ≤ nI 8 by decide)]
  | succ d ih =>
    intro i f hi hf
    obtain ⟨f, rfl⟩ : ∃ g, f = g + 1 := ⟨f - 1, by omega⟩
    have hin : i < 8 := by omega
    rw [lL_end_20, if_neg (gt_8 hin), o6_5 hin, c6_5 hin, sg_as, sg_aa, e5_1, nI_1]
    exact ih (i + 1) f (by omega) (by omega)
theorem e_46 {R r : Nat} (hR : R + 1 < 2 ^ 30) (hr : r ≤ 9) : ∀ (d i f : Nat), i + d = 16 → d < f → ∀ (σ Ω : sg_T), σ 1 2 = nI r → Ω 4 2 = nI r → (∀ s, s < i → hf_ (R + 1) σ (Ω 2) (Ω 3) s) → (∀ s, i ≤ s → s < 16 → hf_ R σ (Ω 2) (Ω 3) s) →
    ∃ (σ' Ω' : sg_T), lX2_endRound_43 f (nI i) σ = some σ' ∧ lL_end_46 f (nI i) Ω = some Ω' ∧ (∀ j, j < 8 → σ' j = σ j) ∧ (∀ j, j ≠ 2 → j ≠ 3 → Ω' j = Ω j) ∧ (∀ s, s < 16 → hf_ (R + 1) σ' (Ω' 2) (Ω' 3) s) ∧ (∀ s, σ' 8 s = σ 8 s ∨ σ' 8 s = 0) := by
  intro d
  induction d with
  | zero =>
    intro i f hi hf σ Ω h1 h2 h4 h5
    obtain ⟨f, rfl⟩ : ∃ g, f = g + 1 := ⟨f - 1, by omega⟩
    have hi : i = 16 := by omega
    subst hi
    rw [lX2_endRound_43, lL_end_46, if_pos (show (16 : Int32) ≤ nI 16 by decide), if_pos (show (16 : Int32) ≤ nI 16 by decide)]
    exact ⟨σ, Ω, rfl, rfl, fun _ _ => rfl, fun _ _ _ => rfl, h4, fun _ => Or.inl rfl⟩
  | succ d ih =>
    intro i f hi hf σ Ω h1 h2 h4 h5
    obtain ⟨f, rfl⟩ : ∃ g, f = g + 1 := ⟨f - 1, by omega⟩
    have hin : i < 16 := by omega
    have q1 : fX5_isRetired (nI i) σ = some (if σ 9 i = -1 then 0 else 1) := by
      unfold fX5_isRetired
      rw [ob_ (z_isS hin), if_neg (by decide), ox_ hin (by decide), cl_ (by omega)]
      by_cases q : σ 9 i = -1
      · rw [if_pos q, if_pos q]
      · rw [if_neg q, if_neg q]
    have keep : ∀ σ1 Ω1 : sg_T, (∀ j, j < 8 → σ1 j = σ j) → (∀ s, s ≠ i → σ1 8 s = σ 8 s ∧ σ1 9 s = σ 9 s) → (∀ j, j ≠ 2 → j ≠ 3 → Ω1 j = Ω j) → (∀ s, s ≠ i → Ω1 2 s = Ω 2 s ∧ Ω1 3 (2 * s) = Ω 3 (2 * s) ∧ Ω1 3 (2 * s + 1) = Ω 3 (2 * s + 1)) → hf_ (R + 1) σ1 (Ω1 2) (Ω1 3) i → (∀ s, σ1 8 s = σ 8 s ∨ σ1 8 s = 0) →
        ∃ (σ' Ω' : sg_T), lX2_endRound_43 f (nI (i + 1)) σ1 = some σ' ∧ lL_end_46 f (nI (i + 1)) Ω1 = some Ω' ∧ (∀ j, j < 8 → σ' j = σ j) ∧ (∀ j, j ≠ 2 → j ≠ 3 → Ω' j = Ω j) ∧ (∀ s, s < 16 → hf_ (R + 1) σ' (Ω' 2) (Ω' 3) s) ∧ (∀ s, σ' 8 s = σ 8 s ∨ σ' 8 s = 0) := by
      intro σ1 Ω1 k1 k2 k3 k4 k5 k6
      have mv : ∀ (R0 s : Nat), s ≠ i → hf_ R0 σ (Ω 2) (Ω 3) s → hf_ R0 σ1 (Ω1 2) (Ω1 3) s := fun R0 s hs z => by
        unfold hf_ at z ⊢
        rw [(k2 s hs).1, (k2 s hs).2, (k4 s hs).1, (k4 s hs).2.1, (k4 s hs).2.2]
        exact z
      obtain ⟨σ', Ω', g1, g2, g3, g4, g5, g6⟩ := ih (i + 1) f (by omega) (by omega) σ1 Ω1 (by rw [k1 1 (by decide)]; exact h1) (by rw [k3 4 (by decide) (by decide)]; exact h2) (fun s hs => by
        by_cases q : s = i
        · subst q; exact k5
        · exact mv _ s q (h4 s (by omega))) (fun s hs hs2 => mv _ s (by omega) (h5 s (by omega) hs2))
      refine ⟨σ', Ω', g1, g2, fun j hj => (g3 j hj).trans (k1 j hj), fun j h1 h2 => (g4 j h1 h2).trans (k3 j h1 h2), g5, fun s => ?_⟩
      rcases g6 s with z | z
      · rcases k6 s with y | y
        · exact Or.inl (z.trans y)
        · exact Or.inr (z.trans y)
      · exact Or.inr z
    have tw : 2 * i ≠ 2 * i + 1 := by omega
    obtain ⟨f8, hh⟩ := h5 i (Nat.le_refl i) hin
    rw [lX2_endRound_43, lL_end_46, if_neg (gt_16 hin), if_neg (gt_16 hin), ob_ q1, o2_1 hin, o2_0 hin, c2_1 hin, c2_0 hin, cl_ (show i < 2 ^ 31 by omega), k_2, h2, nI_1, o8_ hin]
    rcases hh with ⟨a1, a2, a3⟩ | ⟨t, ht, a1, a2, a3⟩
    · have hA : upd (Ω 3) (2 * i + 1) (Ω 3 (2 * i + 1) + Ω 3 (2 * i)) = Ω 3 := fa_upd_same (by rw [a2, Int32.add_zero])
      rw [if_pos a1, if_pos p00, hA, a2, if_neg (show ¬ (0 : Int32) = 1 by decide), Option.bind_some, sg_ai]
      exact keep σ Ω (fun _ _ => rfl) (fun _ _ => ⟨rfl, rfl⟩) (fun _ _ _ => rfl) (fun _ _ => ⟨rfl, rfl, rfl⟩) ⟨f8, Or.inl ⟨a1, a2, a3⟩⟩ (fun _ => Or.inl rfl)
    · have n1 : ¬ σ 9 i = -1 := by rw [a1]; exact nI_m1 (by omega)
      have rs : fX2_restSpot (nI i) σ = (if nI r = 0 then some (sg_a σ 9 (upd (σ 9) i (nI (t + 1)))) else if nI (t + 1) < nI r then some (sg_a σ 9 (upd (σ 9) i (nI (t + 1)))) else some (sg_a (sg_a (sg_a σ 9 (upd (σ 9) i (nI (t + 1)))) 9 (upd (upd (σ 9) i (nI (t + 1))) i (-1))) 8 (upd (σ 8) i 0))) := by
        unfold fX2_restSpot
        rw [ox_ hin (by decide), cl_ (by omega), show (2 : Int32).toNatClampNeg = 2 from rfl, h1, a1, nI_1, up_s]
      rw [a2, a3, nI_1, up_n _ _ tw, a2, up_s, if_pos (rfl : (1 : Int32) = 1), if_neg n1, if_neg n10, rs]
      have stay : ∃ (σ' Ω' : sg_T), lX2_endRound_43 f (nI (i + 1)) (sg_a σ 9 (upd (σ 9) i (nI (t + 1)))) = some σ' ∧ lL_end_46 f (nI (i + 1)) (sg_a Ω 3 (upd (Ω 3) (2 * i + 1) (nI (t + 1)))) = some Ω' ∧ (∀ j, j < 8 → σ' j = σ j) ∧ (∀ j, j ≠ 2 → j ≠ 3 → Ω' j = Ω j) ∧ (∀ s, s < 16 → hf_ (R + 1) σ' (Ω' 2) (Ω' 3) s) ∧ (∀ s, σ' 8 s = σ 8 s ∨ σ' 8 s = 0) := by
        refine keep _ _ (fun j hj => sg_an _ _ (by omega)) (fun s hs => ⟨by rw [sg_an _ _ (by decide)], by rw [sg_as, up_n _ _ hs]⟩) (fun j h1 h2 => sg_an _ _ h2) (fun s hs => ⟨by rw [sg_an _ _ (by decide)], by rw [sg_as, up_n _ _ (by omega)], by rw [sg_as, up_n _ _ (by omega)]⟩) ⟨?_, Or.inr ⟨t + 1, by omega, ?_, ?_, ?_⟩⟩ (fun s => Or.inl (by rw [sg_an _ _ (by decide)]))
        · rw [sg_an _ _ (by decide), sg_an _ _ (by decide)]; exact f8
        · rw [sg_as, up_s]
        · rw [sg_as, up_n _ _ tw]; exact a2
        · rw [sg_as, up_s]
      by_cases r0 : r = 0
      · subst r0
        rw [if_pos nI_0, if_pos (show nI 0 ≤ 0 by decide), Option.bind_some, Option.bind_some]
        exact stay
      · rw [if_neg (nI_ne0 (by omega) (by omega)), if_neg (nI_nle (by omega) (by omega))]
        by_cases r1 : nI (t + 1) < nI r
        · rw [if_pos r1, if_pos r1, Option.bind_some, Option.bind_some]
          exact stay
        · rw [if_neg r1, if_neg r1, Option.bind_some, Option.bind_some]
          refine keep _ _ (fun j hj => by rw [sg_an _ _ (by omega), sg_an _ _ (by omega), sg_an _ _ (by omega)]) (fun s hs => ⟨by rw [sg_as, up_n _ _ hs], by rw [sg_an _ _ (by decide), sg_as, up_n _ _ hs, up_n _ _ hs]⟩) (fun j h1 h2 => by rw [sg_an _ _ h1, sg_an _ _ h2, sg_an _ _ h2, sg_an _ _ h2]) (fun s hs => ⟨by rw [sg_as, up_n _ _ hs], by rw [sg_an _ _ (by decide), sg_as, up_n _ _ (by omega), up_n _ _ (by omega), up_n _ _ (by omega)], by rw [sg_an _ _ (by decide), sg_as, up_n _ _ (by omega), up_n _ _ (by omega), up_n _ _ (by omega)]⟩) ⟨?_, Or.inl ⟨?_, ?_, ?_⟩⟩ (fun s => ?_)
          · rw [sg_as, sg_as, up_s, up_s]
          · rw [sg_an _ _ (by decide), sg_as, up_s]
          · rw [sg_an _ _ (by decide), sg_as, up_n _ _ tw, up_s]
          · rw [sg_an _ _ (by decide), sg_as, up_s]
          · rw [sg_as]
            by_cases q : s = i
            · right; rw [q, up_s]
            · left; rw [up_n _ _ q]
theorem pq_c {n pt : Nat} {σ σ' : sg_T} (h : pq_ n pt σ) (hc : ∀ j, 2 ≤ j → j < 8 → σ' j = σ j) : pq_ n pt σ' := by
  unfold pq_ at h ⊢
  rw [hc 2 (by decide) (by decide), hc 3 (by decide) (by decide), hc 4 (by decide) (by decide), hc 5 (by decide) (by decide), hc 6 (by decide) (by decide), hc 7 (by decide) (by decide)]
  exact h
theorem mf_c {σ σ' : sg_T} {f : Nat → Int32} (h : mf_ σ f) (hc : ∀ j, 2 ≤ j → j < 8 → σ' j = σ j) : mf_ σ' f := fun p hp j hj => by
  rw [hc _ (by omega) (by omega)]; exact h p hp j hj
/-- the whole relation, and how large the numbers are -/
def RQ (n R pt P C : Nat) (σ Ω : sg_T) : Prop := rf_ n R pt σ (Ω 1) (Ω 2) (Ω 3) (Ω 4) ∧ nf_ σ (Ω 1) ∧ bd_ P C σ
theorem e_end {n R pt P C : Nat} {σ Ω : sg_T} (h : rf_ n R pt σ (Ω 1) (Ω 2) (Ω 3) (Ω 4)) (hno : ∀ p, p < 8 → σ 7 p = NO) (hR : R + 1 < 2 ^ 30) (hb : bd_ P C σ) : ∃ (σ' Ω' : sg_T), fX2_endRound σ = some σ' ∧ fL_end Ω = some Ω' ∧ RQ n (R + 1) 0 P C σ' Ω' := by
  obtain ⟨hR0, ⟨hn, hpt, b1, b2, b3, b4, b5, b6⟩, ⟨⟨s0, s1, s2, s3⟩, sr0, sr1, ⟨r, hr, sr2⟩, sr3⟩, ht, hp, hm, hh⟩ := h
  obtain ⟨F, hF⟩ : ∃ F, F = sg_u (sg_u (sg_u (sg_u (sg_u (sg_u (σ 0) 2 0) 3 (-10006)) 4 (-10006)) 5 (-10006)) 6 0) 1 (σ 0 1 + 1) := ⟨_, rfl⟩
  have F0 : F 0 = σ 0 0 := by rw [hF, sg_un _ _ (by decide), sg_un _ _ (by decide), sg_un _ _ (by decide), sg_un _ _ (by decide), sg_un _ _ (by decide), sg_un _ _ (by decide)]
  have F1 : F 1 = σ 0 1 + 1 := by rw [hF, sg_us]
  have F2 : F 2 = 0 := by rw [hF, sg_un _ _ (by decide), sg_un _ _ (by decide), sg_un _ _ (by decide), sg_un _ _ (by decide), sg_un _ _ (by decide), sg_us]
  have F3 : F 3 = NO := by rw [hF, sg_un _ _ (by decide), sg_un _ _ (by decide), sg_un _ _ (by decide), sg_un _ _ (by decide), sg_us]
  have F4 : F 4 = NO := by rw [hF, sg_un _ _ (by decide), sg_un _ _ (by decide), sg_un _ _ (by decide), sg_us]
  have F5 : F 5 = NO := by rw [hF, sg_un _ _ (by decide), sg_un _ _ (by decide), sg_us]
  have F6 : F 6 = 0 := by rw [hF, sg_un _ _ (by decide), sg_us]
  obtain ⟨G, hG⟩ : ∃ G, G = upd (upd (upd (Ω 4) 5 (Ω 4 5 + 1)) 6 0) 10 0 := ⟨_, rfl⟩
  have G5 : G 5 = Ω 4 5 + 1 := by rw [hG, up_n _ _ (by decide), up_n _ _ (by decide), up_s]
  have G6 : G 6 = 0 := by rw [hG, up_n _ _ (by decide), up_s]
  have G10 : G 10 = 0 := by rw [hG, up_s]
  have Go : ∀ k, k < 5 → G k = Ω 4 k := fun k hk => by rw [hG, up_n _ _ (by omega), up_n _ _ (by omega), up_n _ _ (by omega)]
  have c1 : fX2_endRound σ = lX2_endRound_43 70 (nI 0) (sg_a σ 0 F) := by
    unfold fX2_endRound
    simp only [sg_aa]
    rw [← hF]
    rfl
  obtain ⟨Ω2, hΩ2⟩ : ∃ Ω2, Ω2 = sg_a (sg_a Ω 4 G) 1 (e5_ (Ω 1) 8) := ⟨_, rfl⟩
  have o1 : Ω2 1 = e5_ (Ω 1) 8 := by rw [hΩ2, sg_as]
  have o2 : Ω2 2 = Ω 2 := by rw [hΩ2, sg_an _ _ (by decide), sg_an _ _ (by decide)]
  have o3 : Ω2 3 = Ω 3 := by rw [hΩ2, sg_an _ _ (by decide), sg_an _ _ (by decide)]
  have o4 : Ω2 4 = G := by rw [hΩ2, sg_an _ _ (by decide), sg_as]
  have c2 : fL_end Ω = (lL_end_46 70 (nI 0) Ω2).bind fun q => some q := by
    have k := e_20 (sg_a Ω 4 G) 8 0 70 (by omega) (by omega)
    rw [e5_0, sg_ai, show sg_a Ω 4 G 1 = Ω 1 from sg_an _ _ (by decide), ← hΩ2] at k
    unfold fL_end
    simp only [sg_aa, k_5, k_6, k_10]
    rw [← hG, show (0 : Int32) = nI 0 from rfl, ob_ k]
  obtain ⟨σ', Ω', g1, g2, g3, g4, g5, g6⟩ := e_46 hR hr 16 0 70 (by omega) (by omega) (sg_a σ 0 F) Ω2 (by rw [sg_an _ _ (by decide)]; exact sr2) (by rw [o4, Go 2 (by decide)]; exact s2.trans sr2) (fun s hs => absurd hs (Nat.not_lt_zero s)) (fun s _ hs => by
    have := hh s hs
    unfold hf_ at this ⊢
    rw [sg_an _ _ (by decide), sg_an _ _ (by decide), o2, o3]
    exact this)
  have p0 : σ' 0 = F := by rw [g3 0 (by decide), sg_as]
  have pj : ∀ j, 1 ≤ j → j < 8 → σ' j = σ j := fun j h1 h2 => by rw [g3 j h2, sg_an _ _ (by omega)]
  have w1 : Ω' 1 = e5_ (Ω 1) 8 := (g4 1 (by decide) (by decide)).trans o1
  have w4 : Ω' 4 = G := (g4 4 (by decide) (by decide)).trans o4
  refine ⟨σ', Ω', by rw [c1]; exact g1, by rw [c2]; exact ob_ g2 _, ⟨hR, ?_, ?_, ?_, ?_, ?_, g5⟩, ?_, ?_⟩
  · unfold r0_
    rw [p0, w4, F0, F1, F2, G5, G6, Go 4 (by decide), b3, b4, nI_1]
    exact ⟨hn, by decide, b1, b2, rfl, rfl, rfl, rfl⟩
  · unfold rs_
    rw [pj 1 (by decide) (by decide), w4, Go 0 (by decide), Go 1 (by decide), Go 2 (by decide), Go 3 (by decide)]
    exact ⟨⟨s0, s1, s2, s3⟩, sr0, sr1, ⟨r, hr, sr2⟩, sr3⟩
  · unfold rt_
    rw [p0, w4, F3, F4, F5, F6, G10]
    exact ⟨fun _ => ⟨rfl, rfl⟩, fun q => absurd rfl q, fun q => absurd q (by decide), fun _ => ⟨rfl, rfl⟩, fun q => absurd q (by decide), rfl⟩
  · exact pq_pt (pq_c hp (fun j h1 h2 => pj j (by omega) h2)) (fun _ => by rw [pj 7 (by decide) (by decide)]; exact hno)
  · rw [w1]
    refine mf_c (σ := σ) (fun p hp j hj => ?_) (fun j h1 h2 => pj j (by omega) h2)
    unfold e5_
    rw [if_neg (by omega)]
    exact hm p hp j hj
  · rw [w1]
    intro p hp
    rw [pj 7 (by decide) (by decide), hno p hp]
    unfold e5_
    rw [if_pos (by omega)]
    rfl
  · unfold bd_ at hb ⊢
    rw [pj 2 (by decide) (by decide), pj 5 (by decide) (by decide)]
    refine ⟨hb.1, hb.2.1, fun s hs => ?_⟩
    obtain ⟨c, k1, k2⟩ := hb.2.2 s hs
    rcases g6 s with z | z
    · rw [sg_an _ _ (by decide)] at z
      exact ⟨c, k1, z.trans k2⟩
    · exact ⟨0, Nat.zero_le _, z⟩
