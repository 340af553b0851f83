/-! what is seen, who gets home, the best spot -/
section Z
variable {n R pt : Nat} {σ μ : sg_T}
theorem z_at (h : r5_ n R pt σ (μ 1)) (hp : pt = 2) : ∃ a, a < 16 ∧ σ 0 5 = nI a ∧ μ 1 9 = nI a := h.2.2.2.1.2.2.1 hp
theorem z_si (h : r5_ n R pt σ (μ 1)) : ∃ q, q ≤ 3 ∧ σ 1 0 = nI q ∧ μ 1 0 = nI q := by
  obtain ⟨⟨e, -⟩, ⟨q, h1, h2⟩, -⟩ := h.2.2.1
  exact ⟨q, h1, h2, e.trans h2⟩
theorem z_sees {a q : Nat} (ha : a < 16) (e1 : σ 0 5 = nI a) (e2 : σ 1 0 = nI q) {s : Nat} (hs : s < 16) : fX5_seekerSees (nI s) σ = some (if nI q < nI (ds a s) then 0 else 1) := by
  unfold fX5_seekerSees
  rw [e1, show (0 : Int32).toNatClampNeg = 0 from rfl, e2, ob_ (p_dist a ha s hs)]
  by_cases z : nI q < nI (ds a s)
  · rw [if_pos z, if_pos z]
  · rw [if_neg z, if_neg z]
theorem z_inS (h : r5_ n R pt σ (μ 1)) : ∃ r, fX0_spotsInSight σ = some r ∧ fX8_inSight μ = some r := by
  have e1 := h.2.1.2.2.2.2.2.2.1
  have e2 := h.2.1.2.2.2.2.2.2.2
  unfold fX0_spotsInSight fX8_inSight
  rw [e1, show (6 : Int32).toNatClampNeg = 6 from rfl, e2]
  by_cases hp : pt = 2
  · subst hp
    rw [if_pos (show nI 2 = 2 from rfl), if_pos (show nI 2 = 2 from rfl)]
    obtain ⟨a, ha, a1, a2⟩ := z_at h rfl
    obtain ⟨q, hq, q1, q2⟩ := z_si h
    have key : ∀ d i f m, i + d = 16 → d < f → ∃ r, lX0_spotsInSight_16 f m (nI i) σ = some r ∧ lX8_inSight_19 f m (nI i) μ = some r := by
      intro d
      induction d with
      | zero =>
        intro i f m hi hf
        obtain ⟨f, rfl⟩ : ∃ g, f = g + 1 := ⟨f - 1, by omega⟩
        have hi : i = 16 := by omega
        subst hi
        unfold lX0_spotsInSight_16 lX8_inSight_19
        rw [if_pos (show (16 : Int32) ≤ nI 16 by decide), if_pos (show (16 : Int32) ≤ nI 16 by decide)]
        exact ⟨m, rfl, rfl⟩
      | succ d ih =>
        intro i f m hi hf
        obtain ⟨f, rfl⟩ : ∃ g, f = g + 1 := ⟨f - 1, by omega⟩
        have q0 : ¬ (16 : Int32) ≤ nI i := by rw [show (16 : Int32) = nI 16 from rfl, nI_leI (by decide) (by omega)]; omega
        unfold lX0_spotsInSight_16 lX8_inSight_19
        rw [if_neg q0, if_neg q0, ob_ (z_sees ha a1 q1 (show i < 16 by omega)), show (9 : Int32).toNatClampNeg = 9 from rfl, show (0 : Int32).toNatClampNeg = 0 from rfl, a2, q2, ob_ (q_dist i (by omega) a ha), ds_c i (by omega) a ha, nI_1, or_0]
        by_cases z : nI q < nI (ds a i)
        · rw [if_pos z, if_pos rfl, if_pos z]
          exact ih (i + 1) f _ (by omega) (by omega)
        · rw [if_neg z, if_neg (by decide), if_neg z]
          exact ih (i + 1) f _ (by omega) (by omega)
    exact key 16 0 70 0 (by omega) (by omega)
  · have z : ¬ nI pt = 2 := by rw [show (2 : Int32) = nI 2 from rfl, nI_eq (by have := h.2.1.2.1; omega) (by decide)]; exact hp
    rw [if_neg z, if_neg z]
    exact ⟨_, rfl, rfl⟩
/-- would he escape -/
theorem z_esc (h : r5_ n R pt σ (μ 1)) (hp2 : pt = 2) {p : Nat} (hp : p < n) : (σ 7 p = NO ∧ fX5_wouldEscape (nI p) σ = some 0) ∨ (¬ σ 7 p = NO ∧ ∃ r : Int32, (r = 0 ∨ r = 1) ∧ fX5_wouldEscape (nI p) σ = some r ∧ fX8_isFaster (nI p) μ = some r) := by
  obtain ⟨hn, -⟩ := z_0 h
  obtain ⟨a, ha, a1, a2⟩ := z_at h hp2
  unfold fX5_wouldEscape
  rw [ob_ (z_hid h hp)]
  by_cases q : σ 7 p = NO
  · left
    rw [if_pos q, if_pos rfl]
    exact ⟨q, rfl⟩
  · right
    refine ⟨q, ?_⟩
    rcases h.2.2.2.2.1.2.1 p (by omega) with z | ⟨s, hs1, hs2, e⟩
    · exact absurd z q
    · rw [if_neg q, if_neg (by decide), ox_ (by omega) (by decide), cl_ (by omega), e, ob_ (p_base hs2), a1, ob_ (p_base ha)]
      unfold fX8_isFaster
      rw [show (5 : Int32) = nI 5 from rfl, ob_ (q_of (show p < 8 by omega) (by decide) μ), z_h h hp, e, show fX8_distance (nI s) 0 = fX8_distance (nI s) (nI 0) from rfl, ob_ (q_dist s hs2 0 (by decide)), show (9 : Int32).toNatClampNeg = 9 from rfl, a2, show fX8_distance (nI a) 0 = fX8_distance (nI a) (nI 0) from rfl, ob_ (q_dist a ha 0 (by decide))]
      by_cases z : nI (ds a 0) ≤ nI (ds s 0)
      · rw [if_pos z]; exact ⟨0, Or.inl rfl, rfl, rfl⟩
      · rw [if_neg z]; exact ⟨1, Or.inr rfl, rfl, rfl⟩
theorem z_cou (h : r5_ n R pt σ (μ 1)) : ∃ r, fX0_playersWhoWouldEscape σ = some r ∧ fX8_couldDash μ = some r := by
  obtain ⟨hn, f1, f2⟩ := z_0 h
  have e1 := h.2.1.2.2.2.2.2.2.1
  have e2 := h.2.1.2.2.2.2.2.2.2
  unfold fX0_playersWhoWouldEscape fX8_couldDash
  rw [e1, show (6 : Int32).toNatClampNeg = 6 from rfl, e2]
  by_cases hp : pt = 2
  · subst hp
    rw [if_pos (show nI 2 = 2 from rfl), if_pos (show nI 2 = 2 from rfl)]
    have key : ∀ d i f m, i + d = n → d < f → ∃ r, lX0_playersWhoWouldEscape_16 f m (nI i) σ = some r ∧ lX8_couldDash_19 f m (nI i) μ = some r := by
      intro d
      induction d with
      | zero =>
        intro i f m hi hf
        obtain ⟨f, rfl⟩ : ∃ g, f = g + 1 := ⟨f - 1, by omega⟩
        have hi : i = n := by omega
        subst hi
        unfold lX0_playersWhoWouldEscape_16 lX8_couldDash_19
        rw [show (4 : Int32).toNatClampNeg = 4 from rfl, f1, f2, if_pos ((nI_leI (by omega) (by omega)).mpr (Nat.le_refl i)), if_pos ((nI_leI (by omega) (by omega)).mpr (Nat.le_refl i))]
        exact ⟨m, rfl, rfl⟩
      | succ d ih =>
        intro i f m hi hf
        obtain ⟨f, rfl⟩ : ∃ g, f = g + 1 := ⟨f - 1, by omega⟩
        have q0 : ¬ nI n ≤ nI i := by rw [nI_leI (by omega) (by omega)]; omega
        unfold lX0_playersWhoWouldEscape_16 lX8_couldDash_19
        rw [show (4 : Int32).toNatClampNeg = 4 from rfl, f1, f2, if_neg q0, if_neg q0, show (5 : Int32) = nI 5 from rfl, ob_ (q_of (show i < 8 by omega) (by decide) μ), z_h h (show i < n by omega), nI_1, or_0]
        rcases z_esc h rfl (show i < n by omega) with ⟨q, q1⟩ | ⟨q, r, hr, q1, q2⟩
        · rw [ob_ q1, if_pos rfl, if_pos q]
          exact ih (i + 1) f _ (by omega) (by omega)
        · rw [ob_ q1, if_neg q, ob_ q2]
          rcases hr with rfl | rfl
          · rw [if_pos rfl, if_pos rfl]
            exact ih (i + 1) f _ (by omega) (by omega)
          · rw [if_neg (by decide), if_neg (by decide)]
            exact ih (i + 1) f _ (by omega) (by omega)
    exact key n 0 70 0 (by omega) (by omega)
  · have z : ¬ nI pt = 2 := by rw [show (2 : Int32) = nI 2 from rfl, nI_eq (by have := h.2.1.2.1; omega) (by decide)]; exact hp
    rw [if_neg z, if_neg z]
    exact ⟨_, rfl, rfl⟩
theorem z_bet (h : r5_ n R pt σ (μ 1)) {s t : Nat} (hs : s < 16) (ht : t < s) : ∃ r : Int32, (r = 0 ∨ r = 1) ∧ fX0_isBetterToHide (nI s) (nI t) σ = some r ∧ fX8_isBetter (nI s) (nI t) μ = some r := by
  obtain ⟨hn, -⟩ := z_0 h
  have ht2 : t < 16 := by omega
  obtain ⟨cs1, cs2⟩ := z_cnt h hs
  obtain ⟨ct1, ct2⟩ := z_cnt h ht2
  have ms := (z_mask h hs).2
  have mt := (z_mask h ht2).2
  have fs := (h.2.2.2.2.2 s hs).1
  have ft := (h.2.2.2.2.2 t ht2).1
  have os := q_ofSpot hs (j := 0) (by decide) μ
  have ot := q_ofSpot ht2 (j := 0) (by decide) μ
  rw [fs] at os
  rw [ft] at ot
  unfold fX0_isBetterToHide fX8_isBetter
  simp only [show fX8_distance (nI s) 0 = fX8_distance (nI s) (nI 0) from rfl, show fX8_distance (nI t) 0 = fX8_distance (nI t) (nI 0) from rfl, show fX8_ofSpot (nI s) 0 μ = fX8_ofSpot (nI s) (nI 0) μ from rfl, show fX8_ofSpot (nI t) 0 μ = fX8_ofSpot (nI t) (nI 0) μ from rfl, ob_ (p_base hs), ob_ (p_base ht2), ob_ (q_dist s hs 0 (by decide)), ob_ (q_dist t ht2 0 (by decide)), ob_ cs1, ob_ ct1, ob_ ms, ob_ mt, ob_ cs2, ob_ ct2, ob_ os, ob_ ot, ox_ hs (by decide), ox_ ht2 (by decide), cl_ (show s < 2 ^ 31 by omega), cl_ (show t < 2 ^ 31 by omega)]
  by_cases q1 : nI (ds s 0) = nI (ds t 0)
  · rw [if_pos q1, if_pos q1]
    by_cases q2 : σ 8 s = σ 8 t
    · rw [if_pos q2, if_pos q2]
      by_cases q3 : nI (cn_ (at_ σ s) n) = nI (cn_ (at_ σ t) n)
      · rw [if_pos q3, if_pos ((nI_leI (by omega) (by omega)).mpr (by omega)), q3, if_pos (Int32.le_refl _)]
        exact ⟨0, Or.inl rfl, rfl, rfl⟩
      · rw [if_neg q3]
        by_cases q4 : nI (cn_ (at_ σ t) n) ≤ nI (cn_ (at_ σ s) n)
        · rw [if_pos q4]; exact ⟨0, Or.inl rfl, rfl, rfl⟩
        · rw [if_neg q4]; exact ⟨1, Or.inr rfl, rfl, rfl⟩
    · rw [if_neg q2, if_neg q2]
      by_cases q4 : σ 8 t ≤ σ 8 s
      · rw [if_pos q4]; exact ⟨0, Or.inl rfl, rfl, rfl⟩
      · rw [if_neg q4]; exact ⟨1, Or.inr rfl, rfl, rfl⟩
  · rw [if_neg q1, if_neg q1]
    by_cases q4 : nI (ds s 0) ≤ nI (ds t 0)
    · rw [if_pos q4]; exact ⟨0, Or.inl rfl, rfl, rfl⟩
    · rw [if_neg q4]; exact ⟨1, Or.inr rfl, rfl, rfl⟩
theorem z_isS {k : Nat} (hk : k < 16) : fX6_isSpot (nI k) = some 1 := by
  unfold fX6_isSpot
  rw [if_neg (nI_pos (by omega)), if_neg (by rw [show (16 : Int32) = nI 16 from rfl, nI_leI (by decide) (by omega)]; omega)]
theorem z_best (h : r5_ n R pt σ (μ 1)) : ∃ r, fX0_bestHidingSpot σ = some r ∧ fX8_bestSpot μ = some r := by
  have e1 := h.2.1.2.2.2.2.2.2.1
  have e2 := h.2.1.2.2.2.2.2.2.2
  unfold fX0_bestHidingSpot fX8_bestSpot
  rw [e1, show (6 : Int32).toNatClampNeg = 6 from rfl, e2]
  by_cases hp : pt = 1
  · subst hp
    rw [if_pos (show nI 1 = 1 from rfl), if_pos (show nI 1 = 1 from rfl)]
    obtain ⟨b, hb, b1, b2⟩ := z_br h (by decide)
    have key : ∀ d i f (m : Int32), i + d = 16 → d < f → (m = NO ∨ ∃ t, t < i ∧ m = nI t) → ∃ r, lX0_bestHidingSpot_18 f m (nI i) σ = some r ∧ lX8_bestSpot_21 f m (nI i) μ = some r := by
      intro d
      induction d with
      | zero =>
        intro i f m hi hf hm
        obtain ⟨f, rfl⟩ : ∃ g, f = g + 1 := ⟨f - 1, by omega⟩
        have hi : i = 16 := by omega
        subst hi
        unfold lX0_bestHidingSpot_18 lX8_bestSpot_21
        rw [if_pos (show (16 : Int32) ≤ nI 16 by decide), if_pos (show (16 : Int32) ≤ nI 16 by decide)]
        exact ⟨m, rfl, rfl⟩
      | succ d ih =>
        intro i f m hi hf hm
        obtain ⟨f, rfl⟩ : ∃ g, f = g + 1 := ⟨f - 1, by omega⟩
        have q0 : ¬ (16 : Int32) ≤ nI i := by rw [show (16 : Int32) = nI 16 from rfl, nI_leI (by decide) (by omega)]; omega
        unfold lX0_bestHidingSpot_18 lX8_bestSpot_21
        rw [if_neg q0, if_neg q0, nI_1]
        rcases z_open h (show i < 16 by omega) hb b1 b2 with ⟨-, -, g2, g3⟩ | ⟨-, g2, g3⟩
        · rw [ob_ g2, ob_ g3, if_neg (by decide), if_neg (by decide)]
          rcases hm with rfl | ⟨t, ht, rfl⟩
          · rw [show fX6_isSpot NO = some 0 by decide, if_pos (show NO = -10006 from rfl)]
            exact ih (i + 1) f _ (by omega) (by omega) (Or.inr ⟨i, by omega, rfl⟩)
          · have z : ¬ nI t = -10006 := by
              rw [fa_eq, nI_toInt (by omega)]
              have : (-10006 : Int32).toInt = -10006 := by decide
              omega
            rw [ob_ (z_isS (show t < 16 by omega)), if_neg (by decide), if_neg z]
            obtain ⟨r, hr, r1, r2⟩ := z_bet h (show i < 16 by omega) ht
            rw [ob_ r1, ob_ r2]
            rcases hr with rfl | rfl
            · rw [if_pos rfl, if_pos rfl]
              exact ih (i + 1) f _ (by omega) (by omega) (Or.inr ⟨t, by omega, rfl⟩)
            · rw [if_neg (by decide), if_neg (by decide)]
              exact ih (i + 1) f _ (by omega) (by omega) (Or.inr ⟨i, by omega, rfl⟩)
        · rw [ob_ g2, ob_ g3, if_pos rfl, if_pos rfl]
          refine ih (i + 1) f _ (by omega) (by omega) (hm.imp id (fun ⟨t, ht, e⟩ => ⟨t, by omega, e⟩))
    have g : fX5_hasRoomToHide (nI 0) σ = some 0 := by
      rcases z_open h (show 0 < 16 by decide) hb b1 b2 with ⟨g1, -⟩ | ⟨-, g2, -⟩
      · exact absurd rfl g1.1
      · exact g2
    obtain ⟨r, r1, r2⟩ := key 15 1 69 NO (by omega) (by omega) (Or.inl rfl)
    have s0 : lX0_bestHidingSpot_18 (69 + 1) NO (nI 0) σ = some r := by
      rw [lX0_bestHidingSpot_18, if_neg (show ¬ (16 : Int32) ≤ nI 0 by decide), ob_ g, if_pos rfl, nI_1]
      exact r1
    refine ⟨r, s0, ?_⟩
    have mono : ∀ f m i r, lX8_bestSpot_21 f m i μ = some r → lX8_bestSpot_21 (f + 1) m i μ = some r := by
      intro f
      induction f with
      | zero => intro m i r q; cases q
      | succ f ih =>
        intro m i r q
        rw [lX8_bestSpot_21] at q ⊢
        by_cases c1 : (16 : Int32) ≤ i
        · rw [if_pos c1] at q ⊢; exact q
        · rw [if_neg c1] at q ⊢
          obtain ⟨v, v1, q⟩ := o_bh q
          rw [ob_ v1]
          by_cases c2 : v = 0
          · rw [if_pos c2] at q ⊢; exact ih _ _ _ q
          · rw [if_neg c2] at q ⊢
            by_cases c3 : m = -10006
            · rw [if_pos c3] at q ⊢; exact ih _ _ _ q
            · rw [if_neg c3] at q ⊢
              obtain ⟨w, w1, q⟩ := o_bh q
              rw [ob_ w1]
              by_cases c4 : w = 0
              · rw [if_pos c4] at q ⊢; exact ih _ _ _ q
              · rw [if_neg c4] at q ⊢; exact ih _ _ _ q
    exact mono 69 NO (nI 1) r r2
  · have z : ¬ nI pt = 1 := by rw [show (1 : Int32) = nI 1 from rfl, nI_eq (by have := h.2.1.2.1; omega) (by decide)]; exact hp
    rw [if_neg z, if_neg z]
    exact ⟨_, rfl, rfl⟩
end Z
