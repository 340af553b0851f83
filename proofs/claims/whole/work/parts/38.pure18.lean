theorem o01b {r : Int32} (h : r = 0 ∨ r = 1) : (if r = 0 then some (0 : Int32) else some 1) = some r := by
  rcases h with rfl | rfl
  · rfl
  · rfl
section Z
variable {n R pt : Nat} {σ σ' μ μ' : sg_T} {z z' : Nat → Int32}
/-- a setting -/
theorem r5_s (h : r5_ n R pt σ z) {k : Nat} (hk : k < 4) {q : Nat} (h0 : k = 0 → q ≤ 3) (h1 : k = 1 → 1 ≤ q ∧ q ≤ 9) (h2 : k = 2 → q ≤ 9) (h3 : k = 3 → 1 ≤ q ∧ q ≤ 9) : r5_ n R pt (sg_a σ 1 (upd (σ 1) k (nI q))) (upd z k (nI q)) := by
  obtain ⟨hR, ⟨a1, a2, a3, a4, a5, a6, a7, a8⟩, ⟨⟨b0, b1, b2, b3⟩, b4, b5, b6, b7⟩, ht, hp, hh⟩ := h
  have e : ∀ j, j ≠ 1 → sg_a σ 1 (upd (σ 1) k (nI q)) j = σ j := fun j hj => sg_an _ _ hj
  have u : ∀ j, 4 ≤ j → upd z k (nI q) j = z j := fun j hj => up_n _ _ (by omega)
  refine ⟨hR, ⟨a1, a2, ?_, ?_, ?_, ?_, ?_, ?_⟩, ⟨⟨?_, ?_, ?_, ?_⟩, ?_, ?_, ?_, ?_⟩, ?_, ?_, ?_⟩
  · rw [e 0 (by decide)]; exact a3
  · rw [u 4 (by decide)]; exact a4
  · rw [e 0 (by decide)]; exact a5
  · rw [u 5 (by decide)]; exact a6
  · rw [e 0 (by decide)]; exact a7
  · rw [u 6 (by decide)]; exact a8
  · rw [sg_as]; by_cases w : 0 = k
    · rw [← w, up_s, up_s]
    · rw [up_n _ _ w, up_n _ _ w]; exact b0
  · rw [sg_as]; by_cases w : 1 = k
    · rw [← w, up_s, up_s]
    · rw [up_n _ _ w, up_n _ _ w]; exact b1
  · rw [sg_as]; by_cases w : 2 = k
    · rw [← w, up_s, up_s]
    · rw [up_n _ _ w, up_n _ _ w]; exact b2
  · rw [sg_as]; by_cases w : 3 = k
    · rw [← w, up_s, up_s]
    · rw [up_n _ _ w, up_n _ _ w]; exact b3
  · rw [sg_as]; by_cases w : 0 = k
    · rw [← w, up_s]; exact ⟨q, h0 w.symm, rfl⟩
    · rw [up_n _ _ w]; exact b4
  · rw [sg_as]; by_cases w : 1 = k
    · rw [← w, up_s]; exact ⟨q, (h1 w.symm).1, (h1 w.symm).2, rfl⟩
    · rw [up_n _ _ w]; exact b5
  · rw [sg_as]; by_cases w : 2 = k
    · rw [← w, up_s]; exact ⟨q, h2 w.symm, rfl⟩
    · rw [up_n _ _ w]; exact b6
  · rw [sg_as]; by_cases w : 3 = k
    · rw [← w, up_s]; exact ⟨q, (h3 w.symm).1, (h3 w.symm).2, rfl⟩
    · rw [up_n _ _ w]; exact b7
  · unfold rt_
    rw [e 0 (by decide), u 7 (by decide), u 8 (by decide), u 9 (by decide), u 10 (by decide)]
    exact ht
  · obtain ⟨e1, e2⟩ := hp
    unfold rp_
    rw [e 2 (by decide), e 3 (by decide), e 4 (by decide), e 5 (by decide), e 6 (by decide), e 7 (by decide)]
    refine ⟨fun p hp' => ?_, e2⟩
    rw [u _ (by omega), u _ (by omega), u _ (by omega), u _ (by omega), u _ (by omega), u _ (by omega)]
    exact e1 p hp'
  · intro s hs
    rw [e 8 (by decide), e 9 (by decide), u _ (by omega), u _ (by omega), u _ (by omega)]
    exact hh s hs
theorem mv_set (h : r5_ n R pt σ (μ 1)) (hm : μ' 1 = μ 1) (p v : Int32) : (∃ e : Int32, e < 0 ∧ fX2_changeSetting p v σ = some (e, σ) ∧ (fX8_isInRange p v = some 0 ∧ e = -10002)) ∨ (∃ (r : Int32) (σ' : sg_T) (z' : Nat → Int32), 0 ≤ r ∧ fX2_changeSetting p v σ = some (r, σ') ∧ fX8_isInRange p v = some 1 ∧ o_x (0 + p) 108 (some (μ' 1 (0 + p).toNatClampNeg, sg_a μ' 1 (upd (μ' 1) (0 + p).toNatClampNeg v))) = some (r, sg_a μ' 1 z') ∧ r5_ n R pt σ' z') := by
  obtain ⟨⟨b0, b1, b2, b3⟩, ⟨q0, g0, s0⟩, ⟨q1, g1, g1', s1⟩, ⟨q2, g2, s2⟩, ⟨q3, g3, g3', s3⟩⟩ := h.2.2.1
  have step : ∀ (k lo hi : Nat) (x : Nat), k < 4 → lo ≤ hi → hi ≤ 9 → p = nI k → zs_f 0 k = nI lo → zs_f 1 k = nI hi → σ 1 k = nI x → x ≤ 9 → μ 1 k = σ 1 k → (k = 0 → hi ≤ 3) → (k = 1 → 1 ≤ lo) → (k = 3 → 1 ≤ lo) → (fX8_isInRange p v = some (if v < nI lo ∨ nI hi < v then 0 else 1)) → (∃ e : Int32, e < 0 ∧ fX2_changeSetting p v σ = some (e, σ) ∧ (fX8_isInRange p v = some 0 ∧ e = -10002)) ∨ (∃ (r : Int32) (σ' : sg_T) (z' : Nat → Int32), 0 ≤ r ∧ fX2_changeSetting p v σ = some (r, σ') ∧ fX8_isInRange p v = some 1 ∧ o_x (0 + p) 108 (some (μ' 1 (0 + p).toNatClampNeg, sg_a μ' 1 (upd (μ' 1) (0 + p).toNatClampNeg v))) = some (r, sg_a μ' 1 z') ∧ r5_ n R pt σ' z') := by
    intro k lo hi x hk hl hh hp w0 w1 sx hx hz d0 d1 d3 hr
    rw [hr]
    have i1 : fX5_isSetting p = some 1 := by
      unfold fX5_isSetting
      rw [hp, if_neg (nI_pos (by omega)), if_neg (by rw [show (3 : Int32) = nI 3 from rfl, nI_ltI (by decide) (by omega)]; omega)]
    unfold fX2_changeSetting
    rw [ob_ i1, if_neg n10, hp, ox_ hk (by decide), cl_ (by omega), w0, w1]
    by_cases c1 : v < nI lo
    · rw [if_pos c1, if_pos (Or.inl c1)]
      exact Or.inl ⟨_, by decide, rfl, rfl, rfl⟩
    rw [if_neg c1]
    by_cases c2 : v ≤ nI hi
    · have c3 : ¬ (v < nI lo ∨ nI hi < v) := fun q => by
        rcases q with q | q
        · exact c1 q
        · exact (fa_nle.mpr q) c2
      rw [if_pos c2, if_neg c3, Int32.zero_add, ox_ (by omega) (by decide), cl_ (by omega), sx, hm, hz, sx]
      have hv : ¬ v < 0 := by
        rw [fa_lt, nI_toInt (by omega)] at c1
        rw [fa_lt]
        have : (0 : Int32).toInt = 0 := by decide
        omega
      obtain ⟨j, hj, rfl⟩ := nI_of hv
      rw [nI_leI hj (by omega)] at c2
      rw [nI_ltI hj (by omega)] at c1
      refine Or.inr ⟨nI x, _, _, nI_pos' (by omega), rfl, rfl, rfl, ?_⟩
      exact r5_s h hk (fun w => by have := d0 w; omega) (fun w => by have := d1 w; omega) (fun w => by omega) (fun w => by have := d3 w; omega)
    · rw [if_neg c2, if_pos (Or.inr (fa_nle.mp c2))]
      exact Or.inl ⟨_, by decide, rfl, rfl, rfl⟩
  by_cases p0 : p = 0
  · refine step 0 0 3 q0 (by decide) (by decide) (by decide) p0 rfl rfl s0 (by omega) b0 (fun _ => by decide) (fun w => absurd w (by decide)) (fun w => absurd w (by decide)) ?_
    unfold fX8_isInRange
    rw [if_pos p0, q_in]
    show o_k _ _ = _
    rw [ok_ o01]
    rfl
  by_cases p2 : p = 2
  · refine step 2 0 9 q2 (by decide) (by decide) (by decide) p2 rfl rfl s2 (by omega) b2 (fun w => absurd w (by decide)) (fun w => absurd w (by decide)) (fun w => absurd w (by decide)) ?_
    unfold fX8_isInRange
    rw [if_neg p0, if_pos p2, q_in]
    show o_k _ _ = _
    rw [ok_ o01]
    rfl
  by_cases p1 : p = 1
  · refine step 1 1 9 q1 (by decide) (by decide) (by decide) p1 rfl rfl s1 (by omega) b1 (fun w => absurd w (by decide)) (fun _ => by decide) (fun w => absurd w (by decide)) ?_
    unfold fX8_isInRange
    rw [if_neg p0, if_neg p2, if_pos p1, q_in]
    exact o01b o01
  by_cases p3 : p = 3
  · refine step 3 1 9 q3 (by decide) (by decide) (by decide) p3 rfl rfl s3 (by omega) b3 (fun w => absurd w (by decide)) (fun w => absurd w (by decide)) (fun _ => by decide) ?_
    unfold fX8_isInRange
    rw [if_neg p0, if_neg p2, if_neg p1, if_pos p3, q_in]
    exact o01b o01
  · left
    refine ⟨-10002, by decide, ?_, ?_, rfl⟩
    · unfold fX2_changeSetting fX5_isSetting
      by_cases c1 : p < 0
      · rw [if_pos c1]; rfl
      · by_cases c2 : (3 : Int32) < p
        · rw [if_neg c1, if_pos c2]; rfl
        · exfalso
          rcases sm_ c1 c2 with w | w | w | w
          · exact p0 w
          · exact p1 w
          · exact p2 w
          · exact p3 w
    · unfold fX8_isInRange
      rw [if_neg p0, if_neg p2, if_neg p1, if_neg p3]
end Z
