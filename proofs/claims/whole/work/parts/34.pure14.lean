/-! what is read: a setting, a player, a spot, a total -/
theorem sm_ {p : Int32} (h1 : ¬ p < 0) (h2 : ¬ 3 < p) : p = 0 ∨ p = 1 ∨ p = 2 ∨ p = 3 := by
  have a0 : (0 : Int32).toInt = 0 := by decide
  have a1 : (1 : Int32).toInt = 1 := by decide
  have a2 : (2 : Int32).toInt = 2 := by decide
  have a3 : (3 : Int32).toInt = 3 := by decide
  rw [fa_lt] at h1 h2
  rw [fa_eq, fa_eq, fa_eq, fa_eq]
  omega
theorem sm4 {p : Int32} (h0 : ¬ p = 0) (h1 : ¬ p = 1) (h2 : ¬ p = 2) (h3 : ¬ p = 3) (h4 : ¬ p = 4) : p < 0 ∨ 4 < p := by
  have a0 : (0 : Int32).toInt = 0 := by decide
  have a1 : (1 : Int32).toInt = 1 := by decide
  have a2 : (2 : Int32).toInt = 2 := by decide
  have a3 : (3 : Int32).toInt = 3 := by decide
  have a4 : (4 : Int32).toInt = 4 := by decide
  rw [fa_eq] at h0 h1 h2 h3 h4
  rw [fa_lt, fa_lt]
  omega
section Z
variable {n R pt : Nat} {μ : sg_T} {Λ : s3_T} {π : Nat → Nat}
theorem z_setting (h : r5_ n R pt (Λ 0) (μ 1)) (p : Int32) : ∃ r, fX7_setting p Λ π = some r ∧ fX8_setting p μ = some r := by
  obtain ⟨⟨e0, e1, e2, e3⟩, -⟩ := h.2.2.1
  unfold fX7_setting fX8_setting fX5_isSetting
  rw [q_in]
  by_cases h1 : p < 0
  · rw [if_pos h1, if_pos (Or.inl h1)]
    exact ⟨_, rfl, rfl⟩
  · rw [if_neg h1]
    by_cases h2 : (3 : Int32) < p
    · rw [if_pos h2, if_pos (Or.inr h2)]
      exact ⟨_, rfl, rfl⟩
    · rw [if_neg h2, if_neg (fun z => z.elim h1 h2)]
      rcases sm_ h1 h2 with rfl | rfl | rfl | rfl
      · exact ⟨Λ 0 1 0, rfl, by rw [← e0]; rfl⟩
      · exact ⟨Λ 0 1 1, rfl, by rw [← e1]; rfl⟩
      · exact ⟨Λ 0 1 2, rfl, by rw [← e2]; rfl⟩
      · exact ⟨Λ 0 1 3, rfl, by rw [← e3]; rfl⟩
theorem z_player (h : r5_ n R pt (Λ 0) (μ 1)) (p f : Int32) : ∃ r, fX7_player p f Λ π = some r ∧ fX8_player p f μ = some r := by
  obtain ⟨hn, -⟩ := z_0 h
  unfold fX7_player fX8_player
  rcases z_pl h p with ⟨a1, a2⟩ | ⟨k, hk, rfl, a1, a2⟩
  · rw [ob_ a1, ob_ a2, if_pos p00, if_pos p00]
    exact ⟨_, rfl, rfl⟩
  · obtain ⟨b0, b1, b2, b3, b4, b5⟩ := h.2.2.2.2.1.1 k hk
    obtain ⟨c1, c2⟩ := z_place h hk
    rw [ob_ a1, ob_ a2, if_neg n10, if_neg n10, q_in]
    have k8 : k < 8 := by omega
    simp only [ox_ k8 (show 8 < 2 ^ 31 by decide), cl_ (show k < 2 ^ 31 by omega)]
    by_cases f0 : f = 0
    · subst f0
      rw [if_pos p00, if_neg (by decide), if_neg (by decide), show fX8_of (nI k) 0 μ = fX8_of (nI k) (nI 0) μ from rfl, q_of k8 (by decide)]
      exact ⟨_, rfl, by rw [b0]; rfl⟩
    · rw [if_neg f0]
      by_cases f1 : f = 1
      · subst f1
        rw [if_pos rfl, if_neg (by decide), if_neg (by decide), show fX8_of (nI k) 1 μ = fX8_of (nI k) (nI 1) μ from rfl, q_of k8 (by decide)]
        exact ⟨_, rfl, by rw [b1]; rfl⟩
      · rw [if_neg f1]
        by_cases f2 : f = 2
        · subst f2
          rw [if_pos rfl, if_neg (by decide), if_neg (by decide), show fX8_of (nI k) 2 μ = fX8_of (nI k) (nI 2) μ from rfl, q_of k8 (by decide)]
          exact ⟨_, rfl, by rw [b2]; rfl⟩
        · rw [if_neg f2]
          by_cases f3 : f = 3
          · subst f3
            rw [if_pos rfl, if_neg (by decide), if_neg (by decide), show fX8_of (nI k) 3 μ = fX8_of (nI k) (nI 3) μ from rfl, q_of k8 (by decide)]
            exact ⟨_, rfl, by rw [b3]; rfl⟩
          · rw [if_neg f3]
            by_cases f4 : f = 4
            · subst f4
              rw [if_pos rfl, if_neg (by decide), if_neg (by decide), show fX8_of (nI k) 4 μ = fX8_of (nI k) (nI 4) μ from rfl, q_of k8 (by decide)]
              exact ⟨_, rfl, by rw [b4]; rfl⟩
            · rw [if_neg f4]
              by_cases f5 : f = 5
              · subst f5
                rw [if_pos rfl, if_pos rfl, ob_ c1, ob_ c2]
                exact ⟨_, rfl, rfl⟩
              · rw [if_neg f5, if_neg f5]
                by_cases f6 : f = 6
                · subst f6
                  rw [if_pos rfl, if_pos rfl, show fX8_of (nI k) 5 μ = fX8_of (nI k) (nI 5) μ from rfl, q_of k8 (by decide)]
                  exact ⟨_, rfl, by rw [b5]; rfl⟩
                · rw [if_neg f6, if_neg f6, if_pos (sm4 f0 f1 f2 f3 f4)]
                  exact ⟨_, rfl, rfl⟩
theorem z_spot (h : r5_ n R pt (Λ 0) (μ 1)) (s f : Int32) : ∃ r, fX7_spot s f Λ π = some r ∧ fX8_spot s f μ = some r := by
  unfold fX7_spot fX8_spot
  rcases z_sp s with ⟨a1, a2⟩ | ⟨k, hk, rfl, a1, a2⟩
  · rw [ob_ a1, ob_ a2, if_pos p00, if_pos p00]
    exact ⟨_, rfl, rfl⟩
  · obtain ⟨b0, b1⟩ := h.2.2.2.2.2 k hk
    obtain ⟨c1, c2⟩ := z_mask h hk
    obtain ⟨d1, -⟩ := z_ret h hk
    rw [ob_ a1, ob_ a2, if_neg n10, if_neg n10]
    by_cases f0 : f = 0
    · subst f0
      rw [if_pos p00, if_pos p00, ob_ (p_base hk), show fX8_distance (nI k) 0 = fX8_distance (nI k) (nI 0) from rfl, ob_ (q_dist k hk 0 (by decide))]
      exact ⟨_, rfl, rfl⟩
    · rw [if_neg f0, if_neg f0]
      by_cases f1 : f = 1
      · subst f1
        rw [if_pos rfl, if_pos rfl, show fX8_ofSpot (nI k) ((1 : Int32) - 1) μ = fX8_ofSpot (nI k) (nI 0) μ from rfl, ob_ (q_ofSpot hk (by decide) μ), ox_ hk (by decide), cl_ (by omega), b0]
        exact ⟨_, rfl, rfl⟩
      · rw [if_neg f1, if_neg f1]
        by_cases f2 : f = 2
        · subst f2
          rw [if_pos rfl, if_pos rfl, show fX8_ofSpot (nI k) ((2 : Int32) - 1) μ = fX8_ofSpot (nI k) (nI 1) μ from rfl, ob_ (q_ofSpot hk (by decide) μ), ob_ d1]
          rcases b1 with ⟨q1, q2⟩ | ⟨t, ht, q1, q2, -⟩
          · rw [if_pos q1, if_pos p00, q2]
            exact ⟨_, rfl, rfl⟩
          · have hR := h.1
            have w : ¬ Λ 0 9 k = -1 := by
              rw [q1, fa_eq, nI_toInt (by omega)]
              have : (-1 : Int32).toInt = -1 := by decide
              omega
            rw [if_neg w, if_neg n10, q2]
            exact ⟨_, rfl, rfl⟩
        · rw [if_neg f2, if_neg f2]
          by_cases f3 : f = 3
          · subst f3
            rw [if_pos rfl, if_pos rfl, ob_ c1, ob_ c2]
            exact ⟨_, rfl, rfl⟩
          · rw [if_neg f3, if_neg f3]
            exact ⟨_, rfl, rfl⟩
theorem z_total (h : r5_ n R pt (Λ 0) (μ 1)) (f : Int32) : ∃ r, fX7_total f Λ π = some r ∧ fX8_total f μ = some r := by
  obtain ⟨hn, hp, a1, a2, a3, a4, a5, a6⟩ := h.2.1
  obtain ⟨t1, t2, t3, t4, t5, t6⟩ := h.2.2.2.1
  obtain ⟨c1, c2⟩ := z_hc h
  obtain ⟨r8, d1, d2⟩ := z_rets h
  obtain ⟨r9, e1, e2⟩ := z_sum h
  obtain ⟨p1, p2⟩ := z_part h 0 (by decide)
  obtain ⟨p3, p4⟩ := z_part h 2 (by decide)
  have p2 : μ 1 6 = 0 ↔ pt = 0 := p2
  have p4 : μ 1 6 = 2 ↔ pt = 2 := p4
  unfold fX7_total fX8_total
  by_cases f0 : f = 0
  · rw [if_pos f0, if_pos f0, show (4 : Int32).toNatClampNeg = 4 from rfl, a1, a2]
    exact ⟨_, rfl, rfl⟩
  rw [if_neg f0, if_neg f0]
  by_cases f0 : f = 1
  · rw [if_pos f0, if_pos f0, show (5 : Int32).toNatClampNeg = 5 from rfl, a3, a4]
    exact ⟨_, rfl, rfl⟩
  rw [if_neg f0, if_neg f0]
  by_cases f0 : f = 2
  · rw [if_pos f0, if_pos f0, show (6 : Int32).toNatClampNeg = 6 from rfl, a5, a6]
    exact ⟨_, rfl, rfl⟩
  rw [if_neg f0, if_neg f0]
  by_cases f0 : f = 3
  · rw [if_pos f0, if_pos f0, show (6 : Int32).toNatClampNeg = 6 from rfl, show (7 : Int32).toNatClampNeg = 7 from rfl]
    by_cases w : pt = 0
    · rw [if_pos (p2.mpr w), (t1 w).1]
      exact ⟨_, rfl, rfl⟩
    · obtain ⟨k, b, -, -, -, s3, s7, -⟩ := t2 w
      rw [if_neg (fun q => w (p2.mp q)), s3, s7]
      exact ⟨_, rfl, rfl⟩
  rw [if_neg f0, if_neg f0]
  by_cases f0 : f = 4
  · rw [if_pos f0, if_pos f0, show (6 : Int32).toNatClampNeg = 6 from rfl, show (8 : Int32).toNatClampNeg = 8 from rfl]
    by_cases w : pt = 0
    · rw [if_pos (p2.mpr w), (t1 w).2]
      exact ⟨_, rfl, rfl⟩
    · obtain ⟨k, b, -, -, -, s3, s7, s4, s8⟩ := t2 w
      rw [if_neg (fun q => w (p2.mp q)), s4, s8]
      exact ⟨_, rfl, rfl⟩
  rw [if_neg f0, if_neg f0]
  by_cases f0 : f = 5
  · rw [if_pos f0, if_pos f0, show (6 : Int32).toNatClampNeg = 6 from rfl, show (9 : Int32).toNatClampNeg = 9 from rfl]
    by_cases w : pt = 2
    · obtain ⟨a, -, s3, s4⟩ := t3 w
      rw [if_pos (p4.mpr w), s3, s4]
      exact ⟨_, rfl, rfl⟩
    · rw [if_neg (fun q => w (p4.mp q)), (t4 w).1]
      exact ⟨_, rfl, rfl⟩
  rw [if_neg f0, if_neg f0]
  by_cases f0 : f = 6
  · rw [if_pos f0, if_pos f0, show (10 : Int32).toNatClampNeg = 10 from rfl, t6]
    exact ⟨_, rfl, rfl⟩
  rw [if_neg f0, if_neg f0]
  by_cases f0 : f = 7
  · rw [if_pos f0, if_pos f0, ob_ c1, ob_ c2]
    exact ⟨_, rfl, rfl⟩
  rw [if_neg f0, if_neg f0]
  by_cases f0 : f = 8
  · rw [if_pos f0, if_pos f0, ob_ d1, ob_ d2]
    exact ⟨_, rfl, rfl⟩
  rw [if_neg f0, if_neg f0]
  by_cases f0 : f = 9
  · rw [if_pos f0, if_pos f0, ob_ e1, ob_ e2]
    exact ⟨_, rfl, rfl⟩
  rw [if_neg f0, if_neg f0]
  exact ⟨_, rfl, rfl⟩
end Z
