/-! the moves, in one form -/
section Z
variable {n R pt : Nat} {σ σ' μ μ' : sg_T} {z z' : Nat → Int32}
theorem mv_hide (h : r5_ n R pt σ (μ 1)) (hm : μ' 1 = μ 1) (hR : R + 1 < 2 ^ 30) (p s : Int32) : mv_ n R σ μ' (fX2_hidePlayer p s σ) (fX8_whyNotHide p s μ) ((fX8_hides p s μ').bind fun σ6 => (fX8_distance s 0).bind fun r_8 => some (r_8, σ6)) := by
  rcases z_hide h hm hR p s with h1 | ⟨r, σ2, z2, r1, r2, r3, r4, r5, r6⟩
  · exact Or.inl h1
  · exact Or.inr ⟨r, σ2, z2, R, pt, r1, by omega, r2, r3, by rw [ob_ r4, ob_ r5], r6⟩
theorem mv_seek (h : r5_ n R pt σ (μ 1)) (hm : μ' 1 = μ 1) (hR : R + 1 < 2 ^ 30) : mv_ n R σ μ' (fX2_beginSeeking σ) (if μ 1 6 = 1 then some 0 else some (-10003)) (fX8_seeks μ') := by
  obtain ⟨c1, c2⟩ := z_part h 1 (by decide)
  by_cases hp : pt = 1
  · have h' : r5_ n R pt σ (μ' 1) := by rw [hm]; exact h
    obtain ⟨r, σ2, z2, R', pt', r1, r2, r3, r4, r5⟩ := z_seek h' hp hR
    exact Or.inr ⟨r, σ2, z2, R', pt', r1, r2, r3, if_pos (c2.mpr hp), r4, r5⟩
  · left
    refine ⟨-10003, by decide, ?_, if_neg (fun q => hp (c2.mp q))⟩
    unfold fX2_beginSeeking
    exact if_neg (fun q => hp (c1.mp q))
theorem mv_walk (h : r5_ n R pt σ (μ 1)) (hm : μ' 1 = μ 1) (v : Int32) : mv_ n R σ μ' (fX2_moveSeeker v σ) ((fX8_in v (-1) 1).bind fun r => if r = 0 then some (-10002) else if μ 1 6 = 2 then some 0 else some (-10003)) (fX8_walks v μ') := by
  obtain ⟨c1, c2⟩ := z_part h 2 (by decide)
  rw [q_in]
  unfold fX2_moveSeeker
  by_cases h1 : v < -1
  · rw [if_pos h1, if_pos (Or.inl h1)]
    exact Or.inl ⟨_, by decide, rfl, rfl⟩
  rw [if_neg h1]
  by_cases h2 : v ≤ 1
  · have hx : ¬ (v < -1 ∨ 1 < v) := fun q => by
      rcases q with q | q
      · exact h1 q
      · exact (fa_nle.mpr q) h2
    rw [if_pos h2, if_neg hx]
    by_cases hp : pt = 2
    · have h' : r5_ n R pt σ (μ' 1) := by rw [hm]; exact h
      obtain ⟨r, σ2, z2, r1, r2, r3, r4⟩ := z_walks h' hp (w3_ h1 h2)
      refine Or.inr ⟨r, σ2, z2, R, pt, r1, by omega, ?_, ?_, r3, r4⟩
      · rw [if_pos (show σ 0 2 = 2 from c1.mpr hp)]; exact r2
      · show (if (1 : Int32) = 0 then some (-10002 : Int32) else if μ 1 6 = 2 then some 0 else some (-10003)) = _
        exact (if_neg n10).trans (if_pos (show μ 1 6 = 2 from c2.mpr hp))
    · left
      refine ⟨-10003, by decide, if_neg (fun q => hp (c1.mp q)), ?_⟩
      show (if (1 : Int32) = 0 then some (-10002 : Int32) else if μ 1 6 = 2 then some 0 else some (-10003)) = _
      rw [if_neg n10, if_neg (show ¬ μ 1 6 = 2 from fun q => hp (c2.mp q))]
  · rw [if_neg h2, if_pos (Or.inr (fa_nle.mp h2))]
    exact Or.inl ⟨_, by decide, rfl, rfl⟩
/-- a player more -/
theorem q_join {k : Nat} (hk : k < 8) : ∀ d a f, a + d = 5 → d < f → ∀ μ : sg_T, μ 1 4 = nI k → ∃ z' : Nat → Int32, lX8_join_35 f (nI a) μ = some (nI k, sg_a μ 1 z') ∧ z' 4 = nI (k + 1) ∧ (∀ j, a ≤ j → j < 5 → z' (12 + 6 * k + j) = 0) ∧ z' (12 + 6 * k + 5) = NO ∧ ∀ i, i ≠ 4 → ¬ (12 + 6 * k + a ≤ i ∧ i < 12 + 6 * k + 6) → z' i = μ 1 i := by
  intro d
  induction d with
  | zero =>
    intro a f ha hf μ h4
    obtain ⟨f, rfl⟩ : ∃ g, f = g + 1 := ⟨f - 1, by omega⟩
    have ha : a = 5 := by omega
    subst ha
    rw [lX8_join_35, if_pos (show (5 : Int32) ≤ nI 5 by decide), show (4 : Int32).toNatClampNeg = 4 from rfl, h4, ob_ (q_hides hk (-10006) μ)]
    rw [sg_as, sg_aa, up_n _ _ (show 4 ≠ 12 + 6 * k + 5 by omega), h4, up_s, nI_1, nI_pred]
    refine ⟨_, rfl, up_s _ _ _, fun j h1 h2 => by omega, ?_, fun i hi h1 => ?_⟩
    · rw [up_n _ _ (by omega), up_s]
    · rw [up_n _ _ hi, up_n _ _ (by omega)]
  | succ d ih =>
    intro a f ha hf μ h4
    obtain ⟨f, rfl⟩ : ∃ g, f = g + 1 := ⟨f - 1, by omega⟩
    have q0 : ¬ (5 : Int32) ≤ nI a := by rw [show (5 : Int32) = nI 5 from rfl, nI_leI (by decide) (by omega)]; omega
    obtain ⟨z', z1, z2, z3, z4, z5⟩ := ih (a + 1) f (by omega) (by omega) (sg_a μ 1 (upd (μ 1) (12 + 6 * k + a) 0)) (by rw [sg_as, up_n _ _ (by omega)]; exact h4)
    rw [sg_as] at z5
    refine ⟨z', ?_, z2, fun j h1 h2 => ?_, z4, fun i hi h1 => ?_⟩
    · rw [lX8_join_35, if_neg q0, show (4 : Int32).toNatClampNeg = 4 from rfl, h4, show (12 : Int32) = nI 12 from rfl, show (6 : Int32) = nI 6 from rfl, pz_, ox_ (by omega) (by decide), cl_ (by omega), nI_1, z1, sg_aa]
    · by_cases e : j = a
      · subst e
        rw [z5 _ (by omega) (by omega), up_s]
      · exact z3 j (by omega) h2
    · rw [z5 i hi (by omega), up_n _ _ (by omega)]
theorem mv_join (h : r5_ n R pt σ (μ 1)) (hm : μ' 1 = μ 1) : (∃ e : Int32, e < 0 ∧ fX2_addPlayer σ = some (e, σ) ∧ (if μ 1 6 ≤ 0 then (if μ 1 4 = 8 then some (-10004) else some 0) else some (-10003 : Int32)) = some e) ∨ (∃ (σ' : sg_T) (z' : Nat → Int32), fX2_addPlayer σ = some (nI n, σ') ∧ (if μ 1 6 ≤ 0 then (if μ 1 4 = 8 then some (-10004) else some 0) else some (-10003 : Int32)) = some 0 ∧ lX8_join_35 70 0 μ' = some (nI n, sg_a μ' 1 z') ∧ r5_ (n + 1) R pt σ' z') := by
  obtain ⟨hn, f1, f2⟩ := z_0 h
  obtain ⟨c1, c2⟩ := z_part h 0 (by decide)
  have c1 : σ 0 2 = 0 ↔ pt = 0 := c1
  obtain ⟨a0, a1, a2, a3, a4, a5, a6, a7⟩ := h.2.1
  have v : μ 1 6 ≤ 0 ↔ pt = 0 := by rw [a7, show (0 : Int32) = nI 0 from rfl, nI_leI (by omega) (by decide)]; omega
  unfold fX2_addPlayer
  by_cases hp : pt = 0
  · rw [if_pos (show σ 0 2 = 0 from c1.mpr hp), if_pos (v.mpr hp), f1, f2]
    by_cases q : n = 8
    · subst q
      rw [if_neg (show ¬ nI 8 < 8 by decide), if_pos (show nI 8 = 8 from rfl)]
      exact Or.inl ⟨_, by decide, rfl, rfl⟩
    · rw [if_pos (by rw [show (8 : Int32) = nI 8 from rfl, nI_ltI (by omega) (by decide)]; omega), if_neg (by rw [show (8 : Int32) = nI 8 from rfl, nI_eq (by omega) (by decide)]; exact q), nI_1]
      have h4 : μ' 1 4 = nI n := by rw [hm]; exact f2
      obtain ⟨z', z1, z2, z3, z4, z5⟩ := q_join (show n < 8 by omega) 5 0 70 (by omega) (by omega) μ' h4
      rw [hm] at z5
      refine Or.inr ⟨_, z', rfl, rfl, z1, h.1, ⟨by omega, a1, ?_, z2, ?_, ?_, ?_, ?_⟩, ?_, ?_, ?_, ?_⟩
      · rw [sg_as, sg_us]
      · rw [sg_as, sg_un _ _ (by decide)]; exact a4
      · rw [z5 5 (by decide) (by omega)]; exact a5
      · rw [sg_as, sg_un _ _ (by decide)]; exact a6
      · rw [z5 6 (by decide) (by omega)]; exact a7
      · obtain ⟨⟨b0, b1, b2, b3⟩, b4⟩ := h.2.2.1
        unfold rs_
        rw [sg_an _ _ (by decide), z5 0 (by decide) (by omega), z5 1 (by decide) (by omega), z5 2 (by decide) (by omega), z5 3 (by decide) (by omega)]
        exact ⟨⟨b0, b1, b2, b3⟩, b4⟩
      · obtain ⟨t1, t2, t3, t4, t5, t6⟩ := h.2.2.2.1
        unfold rt_
        rw [sg_as, sg_un _ _ (by decide), sg_un _ _ (by decide), sg_un _ _ (by decide), sg_un _ _ (by decide), z5 10 (by decide) (by omega)]
        exact ⟨t1, fun w => absurd hp w, fun w => absurd w (by omega), t4, fun w => absurd w (by omega), t6⟩
      · obtain ⟨e1, e2, e3, e4, e5⟩ := h.2.2.2.2.1
        unfold rp_
        rw [sg_an _ _ (by decide), sg_an _ _ (by decide), sg_an _ _ (by decide), sg_an _ _ (by decide), sg_an _ _ (by decide), sg_an _ _ (by decide)]
        refine ⟨fun p hp' => ?_, e2, fun p h1 h2 => e3 p (by omega) h2, e4, fun s h1 h2 => ?_⟩
        · by_cases w : p = n
          · subst w
            obtain ⟨g0, g1, g2, g3, g4, g5⟩ := e3 p (Nat.le_refl _) (by omega)
            rw [z3 0 (by omega) (by omega), z3 1 (by omega) (by omega), z3 2 (by omega) (by omega), z3 3 (by omega) (by omega), z3 4 (by omega) (by omega), z4]
            exact ⟨g0.symm, g1.symm, g2.symm, g3.symm, g4.symm, g5.symm⟩
          · rw [z5 _ (by omega) (by omega), z5 _ (by omega) (by omega), z5 _ (by omega) (by omega), z5 _ (by omega) (by omega), z5 _ (by omega) (by omega), z5 _ (by omega) (by omega)]
            exact e1 p (by omega)
        · have : cn_ (fun p => decide (σ 7 p = nI s)) (n + 1) = 0 := by
            refine cn_0.mpr (fun i hi => ?_)
            show decide (σ 7 i = nI s) = false
            rw [e4 hp i (by omega)]
            refine decide_eq_false (fun w => ?_)
            rw [fa_eq, nI_toInt (by omega)] at w
            have : (NO : Int32).toInt = -10006 := by decide
            omega
          omega
      · intro s hs
        rw [sg_an _ _ (by decide), sg_an _ _ (by decide), z5 _ (by omega) (by omega), z5 _ (by omega) (by omega), z5 _ (by omega) (by omega)]
        exact h.2.2.2.2.2 s hs
  · rw [if_neg (fun w => hp (c1.mp w)), if_neg (fun w => hp (v.mp w))]
    exact Or.inl ⟨_, by decide, rfl, rfl⟩
end Z
