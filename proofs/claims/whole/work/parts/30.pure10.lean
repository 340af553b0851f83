/-! dash, hide, walk -/
section Z
variable {n R pt : Nat} {σ σ' μ μ' : sg_T} {z z' : Nat → Int32}
theorem z_hidIff (h : r5_ n R pt σ (μ 1)) {k : Nat} (hk : k < n) : fX8_of (nI k) 5 μ = some (σ 7 k) := by
  obtain ⟨hn, -⟩ := z_0 h
  rw [show (5 : Int32) = nI 5 from rfl, q_of (by omega) (by decide), z_h h hk]
theorem z_dash (h : r5_ n R pt σ (μ 1)) (hm : μ' 1 = μ 1) (hR : R + 1 < 2 ^ 30) (p : Int32) : mv_ n R σ μ' (fX2_dashHome p σ) (fX8_whyNotDash p μ) (fX8_dashes p μ') := by
  obtain ⟨hn, -⟩ := z_0 h
  have h' : r5_ n R pt σ (μ' 1) := by rw [hm]; exact h
  unfold fX2_dashHome fX8_whyNotDash
  rcases z_pl h p with ⟨a1, a2⟩ | ⟨k, hk, rfl, a1, a2⟩
  · rw [ob_ a1, ob_ a2, if_pos p00, if_pos p00]
    exact Or.inl ⟨_, by decide, rfl, rfl⟩
  · rw [ob_ a1, ob_ a2, if_neg n10, if_neg n10, show (6 : Int32).toNatClampNeg = 6 from rfl]
    obtain ⟨c1, c2⟩ := z_part h 2 (by decide)
    by_cases hp : pt = 2
    · have c1' : σ 0 2 = 2 := c1.mpr hp
      have c2' : μ 1 6 = 2 := c2.mpr hp
      rw [if_pos c1', if_pos c2', ob_ (z_hid h hk), ob_ (z_hidIff h hk)]
      by_cases w : σ 7 k = NO
      · rw [if_pos w, if_pos p00, if_pos w]
        exact Or.inl ⟨_, by decide, rfl, rfl⟩
      · rw [if_neg w, if_neg n10, if_neg w]
        right
        rcases z_esc h' hp hk with ⟨q, -⟩ | ⟨-, r, hr, r1, r2⟩
        · exact absurd q w
        · unfold fX8_dashes
          rw [ob_ r1, ob_ r2]
          rcases hr with rfl | rfl
          · rw [if_pos p00, if_pos p00]
            obtain ⟨σ2, z2, R', pt', sk, g1, g2, g3, g4, g5, g6⟩ := z_find1 h' (by omega) hk 1 hR
            refine ⟨0, σ2, z2, R', pt', by decide, g1, by rw [ob_ g4], rfl, ?_, g6⟩
            rw [ob_ (q_hides (by omega) _ _), sg_as, show (7 : Int32).toNatClampNeg = 7 from rfl, up_n _ _ (by omega : 7 ≠ 12 + 6 * k + 5), g3, show ∀ x, fX8_adds (nI sk) 0 1 x = fX8_adds (nI sk) (nI 0) 1 x from fun _ => rfl, ob_ (q_adds (by omega) (by decide) _ _)]
            simp only [sg_as, sg_aa]
            rw [up_n _ _ (by omega : 7 ≠ 12 + 6 * sk + 0), up_n _ _ (by omega : 7 ≠ 12 + 6 * k + 5), g3, show ∀ x, fX8_adds (nI sk) 2 1 x = fX8_adds (nI sk) (nI 2) 1 x from fun _ => rfl, ob_ (q_adds (by omega) (by decide) _ _)]
            simp only [sg_as, sg_aa]
            rw [up_n _ _ (by omega : 12 + 6 * sk + 0 ≠ 12 + 6 * k + 5), up_n _ _ (by omega : 12 + 6 * sk + 2 ≠ 12 + 6 * sk + 0), up_n _ _ (by omega : 12 + 6 * sk + 2 ≠ 12 + 6 * k + 5), show (-10006 : Int32) = NO from rfl, ob_ g5]
          · rw [if_neg n10, if_neg n10]
            obtain ⟨σ1, z1, g1, g2, g3, -⟩ := z_esc1 h' hk 3
            obtain ⟨σ2, z2, R', pt', k1, k2, k3, k4⟩ := z_endE (μ := sg_a μ' 1 z1) (by rw [sg_as]; exact g3) hR
            exact ⟨1, σ2, z2, R', pt', by decide, k1, by rw [ob_ g1, ob_ k2], rfl, by rw [ob_ g2, ob_ k3, sg_aa], k4⟩
    · have c1' : ¬ σ 0 2 = 2 := fun q => hp (c1.mp q)
      have c2' : ¬ μ 1 6 = 2 := fun q => hp (c2.mp q)
      rw [if_neg c1', if_neg c2']
      exact Or.inl ⟨_, by decide, rfl, rfl⟩
/-- one hides -/
theorem r5_hide (h : r5_ n R pt σ z) (hp : pt ≠ 0) {k s : Nat} (hk : k < n) (hs1 : 1 ≤ s) (hs : s < 16) (hc : cn_ (at_ σ s) n < 2) : r5_ n R pt (sg_a σ 7 (upd (σ 7) k (nI s))) (upd z (12 + 6 * k + 5) (nI s)) := by
  have hn := h.2.1.1
  obtain ⟨e1, e2, e3, e4, e5⟩ := h.2.2.2.2.1
  refine r5_p h (sg_an _ _ (by omega)) (sg_an _ _ (by omega)) (sg_an _ _ (by omega)) (sg_an _ _ (by omega)) (fun i hi => up_n _ _ (by omega)) ?_
  unfold rp_
  rw [sg_as, sg_an _ _ (by decide), sg_an _ _ (by decide), sg_an _ _ (by decide), sg_an _ _ (by decide), sg_an _ _ (by decide)]
  refine ⟨fun p hp => ?_, fun p hp => ?_, fun p h1 h2 => ?_, fun q => absurd q hp, fun t h1 h2 => ?_⟩
  · obtain ⟨a0, a1, a2, a3, a4, a5⟩ := e1 p hp
    rw [up_n _ _ (by omega), up_n _ _ (by omega), up_n _ _ (by omega), up_n _ _ (by omega), up_n _ _ (by omega)]
    refine ⟨a0, a1, a2, a3, a4, ?_⟩
    by_cases q : p = k
    · subst q; rw [up_s, up_s]
    · rw [up_n _ _ (by omega), up_n _ _ q]; exact a5
  · by_cases q : p = k
    · subst q; rw [up_s]; exact Or.inr ⟨s, hs1, hs, rfl⟩
    · rw [up_n _ _ q]; exact e2 p hp
  · have := e3 p h1 h2
    rw [up_n _ _ (show p ≠ k by omega)]
    exact this
  · by_cases q : t = s
    · subst q
      have : cn_ (fun p => decide (upd (σ 7) k (nI t) p = nI t)) n ≤ cn_ (at_ σ t) n + 1 := cn_one (k := k) (fun i hi hik hP => by
        unfold at_
        rw [bo_] at hP ⊢
        rw [up_n _ _ hik] at hP
        exact hP)
      omega
    · refine Nat.le_trans (cn_m (fun p hp hP => ?_)) (e5 t h1 h2)
      rw [bo_] at hP ⊢
      by_cases q2 : p = k
      · subst q2
        rw [up_s, nI_eq (by omega) (by omega)] at hP
        exact absurd hP.symm q
      · rw [up_n _ _ q2] at hP; exact hP
theorem z_hide (h : r5_ n R pt σ (μ 1)) (hm : μ' 1 = μ 1) (hR : R + 1 < 2 ^ 30) (p s : Int32) : (∃ e : Int32, e < 0 ∧ fX2_hidePlayer p s σ = some (e, σ) ∧ fX8_whyNotHide p s μ = some e) ∨ (∃ (r : Int32) (σ' : sg_T) (z' : Nat → Int32), 0 ≤ r ∧ fX2_hidePlayer p s σ = some (r, σ') ∧ fX8_whyNotHide p s μ = some 0 ∧ fX8_hides p s μ' = some (sg_a μ' 1 z') ∧ fX8_distance s 0 = some r ∧ r5_ n R pt σ' z') := by
  obtain ⟨hn, -⟩ := z_0 h
  have h' : r5_ n R pt σ (μ' 1) := by rw [hm]; exact h
  unfold fX2_hidePlayer fX8_whyNotHide
  rcases z_pl h p with ⟨a1, a2⟩ | ⟨k, hk, rfl, a1, a2⟩
  · rw [ob_ a1, ob_ a2, if_pos p00, if_pos p00]
    exact Or.inl ⟨_, by decide, rfl, rfl⟩
  · rw [ob_ a1, ob_ a2, if_neg n10, if_neg n10]
    rcases z_sp s with ⟨b1, b2⟩ | ⟨t, ht, rfl, b1, b2⟩
    · rw [ob_ b1, ob_ b2, if_pos p00, if_pos p00]
      exact Or.inl ⟨_, by decide, rfl, rfl⟩
    · rw [ob_ b1, ob_ b2, if_neg n10, if_neg n10, show (6 : Int32).toNatClampNeg = 6 from rfl]
      obtain ⟨c1, c2⟩ := z_part h 1 (by decide)
      by_cases hp : pt = 1
      · have c1' : σ 0 2 = 1 := c1.mpr hp
        have c2' : μ 1 6 = 1 := c2.mpr hp
        obtain ⟨sk, b, hs, -, hb, s3, s7, s4, s8⟩ := h.2.2.2.1.2.1 (by omega)
        rw [if_pos c1', if_pos c2', s3, show (7 : Int32).toNatClampNeg = 7 from rfl, s7]
        by_cases e : nI k = nI sk
        · rw [if_pos e, if_pos e]
          exact Or.inl ⟨_, by decide, rfl, rfl⟩
        · rw [if_neg e, if_neg e, ob_ (z_hid h hk), ob_ (z_hidIff h hk)]
          by_cases w : σ 7 k = NO
          · have w' : σ 7 k = -10006 := w
            rw [if_pos w, if_pos p00, if_pos w']
            rcases z_good h ht hb s4 s8 with ⟨g1, g2, g3⟩ | ⟨g1, g2, g3⟩
            · have m1 := (z_mask h ht).2
              have m2 := (z_cnt h ht).2
              have t1 : 1 ≤ t := by have := g1.1; omega
              have c5 := h.2.2.2.2.1.2.2.2.2 t t1 ht
              have c6 : cn_ (at_ σ t) n ≤ 2 := c5
              rw [ob_ g2, ob_ g3, if_neg n10, if_neg n10, ob_ m1, ob_ m2]
              rcases z_full h ht with ⟨o2, o3⟩ | ⟨o1, o3⟩
              · have v : ¬ nI (cn_ (at_ σ t) n) = 2 := by rw [show (2 : Int32) = nI 2 from rfl, nI_eq (by omega) (by decide)]; omega
                rw [ob_ o3, if_pos p00, ox_ (by omega) (by decide), cl_ (by omega), ob_ (p_base ht), if_neg v]
                refine Or.inr ⟨nI (ds t 0), _, _, nI_pos' (by have := ds_8 t ht 0 (by decide); omega), rfl, rfl, q_hides (by omega) _ _, q_dist t ht 0 (by decide), ?_⟩
                exact r5_hide h' (by omega) hk t1 ht o2
              · have v : nI (cn_ (at_ σ t) n) = 2 := by
                  rw [show (2 : Int32) = nI 2 from rfl, nI_eq (by omega) (by decide)]
                  have : ¬ cn_ (at_ σ t) n < 2 := o1
                  omega
                rw [ob_ o3, if_neg n10, if_pos v]
                exact Or.inl ⟨_, by decide, rfl, rfl⟩
            · rw [ob_ g2, ob_ g3, if_pos p00, if_pos p00]
              exact Or.inl ⟨_, by decide, rfl, rfl⟩
          · have w' : ¬ σ 7 k = -10006 := w
            rw [if_neg w, if_neg n10, if_neg w']
            exact Or.inl ⟨_, by decide, rfl, rfl⟩
      · have c1' : ¬ σ 0 2 = 1 := fun q => hp (c1.mp q)
        have c2' : ¬ μ 1 6 = 1 := fun q => hp (c2.mp q)
        rw [if_neg c1', if_neg c2']
        exact Or.inl ⟨_, by decide, rfl, rfl⟩
/-- a step -/
def wy_ (v : Int32) (a : Nat) : Nat := if v = 0 then a else if v = 1 then (a + 1) % 16 else (a + 15) % 16
theorem p_bes : ∀ a, a < 16 → fX6_beside (nI a) 1 = some (nI (wy_ 1 a)) ∧ fX6_beside (nI a) 0 = some (nI (wy_ 0 a)) ∧ fX6_beside (nI a) (-1) = some (nI (wy_ (-1) a)) := by decide +kernel
theorem q_bes : ∀ a, a < 16 → (nI a + 1 + 16) - (nI a + 1 + 16) / 16 * 16 = nI (wy_ 1 a) ∧ (nI a + 0 + 16) - (nI a + 0 + 16) / 16 * 16 = nI (wy_ 0 a) ∧ (nI a + -1 + 16) - (nI a + -1 + 16) / 16 * 16 = nI (wy_ (-1) a) := by decide +kernel
theorem wy_lt (v : Int32) {a : Nat} (h : a < 16) : wy_ v a < 16 := by unfold wy_; split <;> (try split) <;> omega
theorem w3_ {v : Int32} (h1 : ¬ v < -1) (h2 : v ≤ 1) : v = 1 ∨ v = 0 ∨ v = -1 := by
  have a1 : (-1 : Int32).toInt = -1 := by decide
  have a2 : (1 : Int32).toInt = 1 := by decide
  have a3 : (0 : Int32).toInt = 0 := by decide
  rw [fa_lt] at h1
  rw [fa_le] at h2
  rw [fa_eq, fa_eq, fa_eq]
  omega
theorem z_walks (h : r5_ n R pt σ (μ 1)) (hp : pt = 2) {v : Int32} (hv : v = 1 ∨ v = 0 ∨ v = -1) : ∃ (r : Int32) (σ' : sg_T) (z' : Nat → Int32), 0 ≤ r ∧ ((fX6_beside (σ 0 5) v).bind fun r_4 => some (r_4, sg_a σ 0 (sg_u (σ 0) 5 r_4))) = some (r, σ') ∧ fX8_walks v μ = some (r, sg_a μ 1 z') ∧ r5_ n R pt σ' z' := by
  subst hp
  obtain ⟨a, ha, a5, a9⟩ := z_at h rfl
  have e1 : fX6_beside (nI a) v = some (nI (wy_ v a)) := by
    obtain ⟨x1, x2, x3⟩ := p_bes a ha
    rcases hv with rfl | rfl | rfl
    · exact x1
    · exact x2
    · exact x3
  have e2 : (nI a + v + 16) - (nI a + v + 16) / 16 * 16 = nI (wy_ v a) := by
    obtain ⟨x1, x2, x3⟩ := q_bes a ha
    rcases hv with rfl | rfl | rfl
    · exact x1
    · exact x2
    · exact x3
  have hw := wy_lt v ha
  refine ⟨nI (wy_ v a), sg_a σ 0 (sg_u (σ 0) 5 (nI (wy_ v a))), upd (μ 1) 9 (nI (wy_ v a)), nI_pos' (by omega), by rw [a5, ob_ e1], ?_, ?_⟩
  · unfold fX8_walks
    rw [show (9 : Int32).toNatClampNeg = 9 from rfl, a9, e2, up_s]
  · obtain ⟨t1, t2, t3, t4, t5, t6⟩ := h.2.2.2.1
    refine r5_t h (fun j hj => sg_an _ _ (by omega)) (fun k hk => by rw [sg_as, sg_un _ _ (by omega)]) (fun k hk => up_n _ _ (by omega)) ?_
    unfold rt_
    rw [sg_as, sg_un _ _ (by decide), sg_un _ _ (by decide), sg_us, sg_un _ _ (by decide), up_n _ _ (by decide), up_n _ _ (by decide), up_s, up_n _ _ (by decide)]
    exact ⟨t1, t2, fun _ => ⟨wy_ v a, hw, rfl, rfl⟩, fun q => absurd rfl q, fun q => absurd q (by decide), t6⟩
end Z
