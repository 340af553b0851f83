/-! places to hide, on both sides -/
section Z
variable {n R pt : Nat} {σ μ : sg_T}
theorem z_br (h : r5_ n R pt σ (μ 1)) (hp : pt ≠ 0) : ∃ b, b ≤ 8 ∧ σ 0 4 = nI b ∧ μ 1 8 = nI b := by
  obtain ⟨k, b, -, -, h3, -, -, h4, h5⟩ := h.2.2.2.1.2.1 hp
  exact ⟨b, h3, h4, h5⟩
theorem ifn {P : Prop} [Decidable P] {α : Type} {x y : α} (h : ¬ P) : (if P then x else y) = y := if_neg h
theorem z_good (h : r5_ n R pt σ (μ 1)) {s b : Nat} (hs : s < 16) (hb : b ≤ 8) (e1 : σ 0 4 = nI b) (e2 : μ 1 8 = nI b) : (gd_ σ b s ∧ fX5_isHidingPlace (nI s) σ = some 1 ∧ fX8_isGood (nI s) μ = some 1) ∨ (¬ gd_ σ b s ∧ fX5_isHidingPlace (nI s) σ = some 0 ∧ fX8_isGood (nI s) μ = some 0) := by
  unfold fX5_isHidingPlace fX8_isGood gd_
  by_cases q0 : s = 0
  · right
    subst q0
    refine ⟨fun q => q.1 rfl, ?_, ?_⟩
    · rw [if_pos nI_0]
    · rw [if_pos (show nI 0 ≤ 0 by decide)]
  · have z1 : ¬ nI s = 0 := nI_ne0 (by omega) (by omega)
    have z2 : ¬ nI s ≤ 0 := nI_nle (by omega) (by omega)
    have d8 := ds_8 s hs 0 (by decide)
    rw [if_neg z1, if_neg z2, ob_ (p_base hs), show fX8_distance (nI s) 0 = fX8_distance (nI s) (nI 0) from rfl, ob_ (q_dist s hs 0 (by decide)), show (8 : Int32).toNatClampNeg = 8 from rfl, e1, e2]
    by_cases q1 : nI b < nI (ds s 0)
    · right
      rw [if_pos q1, if_pos q1]
      rw [nI_ltI (by omega) (by omega)] at q1
      exact ⟨fun q => absurd q.2.1 (by omega), rfl, rfl⟩
    · rw [if_neg q1, if_neg q1]
      rw [nI_ltI (by omega) (by omega)] at q1
      obtain ⟨r1, r2⟩ := z_ret h hs
      rw [ob_ r1, ob_ r2]
      by_cases q2 : σ 9 s = -1
      · left
        rw [if_pos q2, if_pos rfl]
        exact ⟨⟨q0, by omega, q2⟩, rfl, rfl⟩
      · right
        rw [if_neg q2, if_neg (by decide)]
        exact ⟨fun q => q2 q.2.2, rfl, rfl⟩
theorem z_full (h : r5_ n R pt σ (μ 1)) {s : Nat} (hs : s < 16) : (cn_ (at_ σ s) n < 2 ∧ fX5_isFull (nI s) σ = some 0) ∨ (¬ cn_ (at_ σ s) n < 2 ∧ fX5_isFull (nI s) σ = some 1) := by
  obtain ⟨hn, -⟩ := z_0 h
  have c1 := (z_cnt h hs).1
  have c4 := cn_le (at_ σ s) n
  unfold fX5_isFull
  rw [ob_ c1]
  by_cases q : nI (cn_ (at_ σ s) n) < (2 : Int32)
  · left
    rw [if_pos q]
    rw [show (2 : Int32) = nI 2 from rfl, nI_ltI (by omega) (by decide)] at q
    exact ⟨q, rfl⟩
  · right
    rw [if_neg q]
    rw [show (2 : Int32) = nI 2 from rfl, nI_ltI (by omega) (by decide)] at q
    exact ⟨q, rfl⟩
theorem z_open (h : r5_ n R pt σ (μ 1)) {s b : Nat} (hs : s < 16) (hb : b ≤ 8) (e1 : σ 0 4 = nI b) (e2 : μ 1 8 = nI b) : (gd_ σ b s ∧ cn_ (at_ σ s) n < 2 ∧ fX5_hasRoomToHide (nI s) σ = some 1 ∧ fX8_isOpen (nI s) μ = some 1) ∨ (¬ (gd_ σ b s ∧ cn_ (at_ σ s) n < 2) ∧ fX5_hasRoomToHide (nI s) σ = some 0 ∧ fX8_isOpen (nI s) μ = some 0) := by
  obtain ⟨hn, -⟩ := z_0 h
  have c2 := (z_cnt h hs).2
  have c3 := (z_mask h hs).2
  have c4 := cn_le (at_ σ s) n
  unfold fX5_hasRoomToHide fX8_isOpen
  rcases z_good h hs hb e1 e2 with ⟨g1, g2, g3⟩ | ⟨g1, g2, g3⟩
  · rw [ob_ g2, ob_ g3, if_neg (by decide), if_neg (by decide), ob_ c3, ob_ c2]
    rcases z_full h hs with ⟨f1, f2⟩ | ⟨f1, f2⟩
    · left
      have q : ¬ (2 : Int32) ≤ nI (cn_ (at_ σ s) n) := by rw [show (2 : Int32) = nI 2 from rfl, nI_leI (by decide) (by omega)]; omega
      rw [if_neg q, ob_ f2, if_pos rfl]
      exact ⟨g1, f1, rfl, rfl⟩
    · right
      have q : (2 : Int32) ≤ nI (cn_ (at_ σ s) n) := by rw [show (2 : Int32) = nI 2 from rfl, nI_leI (by decide) (by omega)]; omega
      rw [if_pos q, ob_ f2, if_neg (by decide)]
      exact ⟨fun q2 => f1 q2.2, rfl, rfl⟩
  · right
    rw [ob_ g2, ob_ g3, if_pos rfl, if_pos rfl]
    exact ⟨fun q => g1 q.1, rfl, rfl⟩
/-- the number of spots where one may hide -/
theorem z_start (h : r5_ n R pt σ (μ 1)) {b : Nat} (hb : b ≤ 8) (e1 : σ 0 4 = nI b) (e2 : μ 1 8 = nI b) (p1 p2 : Int32) : ∃ r : Int32, 0 ≤ r ∧ fX2_countHidingSpots σ = some r ∧ lX8_start_106 70 p1 p2 0 0 μ = some (r, μ) := by
  have key : ∀ d i f a, i + d = 16 → d < f → a ≤ i → ∃ r, r ≤ 16 ∧ lX2_countHidingSpots_4 f (nI a) (nI i) σ = some (nI r) ∧ lX8_start_106 f p1 p2 (nI a) (nI i) μ = some (nI r, μ) := by
    intro d
    induction d with
    | zero =>
      intro i f a hi hf ha
      obtain ⟨f, rfl⟩ : ∃ g, f = g + 1 := ⟨f - 1, by omega⟩
      have hi : i = 16 := by omega
      subst hi
      unfold lX2_countHidingSpots_4 lX8_start_106
      rw [if_pos (show (16 : Int32) ≤ nI 16 by decide), if_pos (show (16 : Int32) ≤ nI 16 by decide)]
      exact ⟨a, ha, rfl, rfl⟩
    | succ d ih =>
      intro i f a hi hf ha
      obtain ⟨f, rfl⟩ : ∃ g, f = g + 1 := ⟨f - 1, by omega⟩
      have q : ¬ (16 : Int32) ≤ nI i := by rw [show (16 : Int32) = nI 16 from rfl, nI_leI (by decide) (by omega)]; omega
      unfold lX2_countHidingSpots_4 lX8_start_106
      rw [if_neg q, if_neg q, nI_1]
      rcases z_open h (show i < 16 by omega) hb e1 e2 with ⟨-, -, g2, g3⟩ | ⟨-, g2, g3⟩
      · rw [ob_ g2, ob_ g3, if_neg (by decide), if_neg (by decide), nI_1]
        exact ih (i + 1) f (a + 1) (by omega) (by omega) (by omega)
      · rw [ob_ g2, ob_ g3, if_pos rfl, if_pos rfl, Int32.add_zero]
        exact ih (i + 1) f a (by omega) (by omega) (by omega)
  obtain ⟨r, hr, h1, h2⟩ := key 16 0 70 0 (by omega) (by omega) (by omega)
  exact ⟨nI r, nI_pos' (by omega), h1, h2⟩
/-! sums, and the other readers -/
theorem z_sum (h : r5_ n R pt σ (μ 1)) : ∃ r, fX5_sumOfPoints σ = some r ∧ fX8_sumOfPoints μ = some r := by
  obtain ⟨hn, e1, e2⟩ := z_0 h
  have key : ∀ d i f a, i + d = n → d < f → ∃ r, lX5_sumOfPoints_4 f a (nI i) σ = some r ∧ lX8_sumOfPoints_4 f a (nI i) μ = some r := by
    intro d
    induction d with
    | zero =>
      intro i f a hi hf
      obtain ⟨f, rfl⟩ : ∃ g, f = g + 1 := ⟨f - 1, by omega⟩
      have hi : i = n := by omega
      subst hi
      unfold lX5_sumOfPoints_4 lX8_sumOfPoints_4
      rw [show (4 : Int32).toNatClampNeg = 4 from rfl, e1, e2, if_pos ((nI_leI (by omega) (by omega)).mpr (Nat.le_refl i)), if_pos ((nI_leI (by omega) (by omega)).mpr (Nat.le_refl i))]
      exact ⟨a, rfl, rfl⟩
    | succ d ih =>
      intro i f a hi hf
      obtain ⟨f, rfl⟩ : ∃ g, f = g + 1 := ⟨f - 1, by omega⟩
      have q : ¬ nI n ≤ nI i := by rw [nI_leI (by omega) (by omega)]; omega
      unfold lX5_sumOfPoints_4 lX8_sumOfPoints_4
      rw [show (4 : Int32).toNatClampNeg = 4 from rfl, e1, e2, if_neg q, if_neg q, ox_ (by omega) (by decide), cl_ (by omega), show fX8_of (nI i) 0 μ = fX8_of (nI i) (nI 0) μ from rfl, ob_ (q_of (show i < 8 by omega) (by decide) μ), (h.2.2.2.2.1.1 i (by omega)).1, nI_1]
      exact ih (i + 1) f _ (by omega) (by omega)
  exact key n 0 70 0 (by omega) (by omega)
theorem z_rets (h : r5_ n R pt σ (μ 1)) : ∃ r, fX5_retiredCount σ = some r ∧ fX8_retired μ = some r := by
  have key : ∀ d i f a, i + d = 16 → d < f → ∃ r, lX5_retiredCount_4 f a (nI i) σ = some r ∧ lX8_retired_4 f a (nI i) μ = some r := by
    intro d
    induction d with
    | zero =>
      intro i f a hi hf
      obtain ⟨f, rfl⟩ : ∃ g, f = g + 1 := ⟨f - 1, by omega⟩
      have hi : i = 16 := by omega
      subst hi
      unfold lX5_retiredCount_4 lX8_retired_4
      rw [if_pos (show (16 : Int32) ≤ nI 16 by decide), if_pos (show (16 : Int32) ≤ nI 16 by decide)]
      exact ⟨a, rfl, rfl⟩
    | succ d ih =>
      intro i f a hi hf
      obtain ⟨f, rfl⟩ : ∃ g, f = g + 1 := ⟨f - 1, by omega⟩
      have q : ¬ (16 : Int32) ≤ nI i := by rw [show (16 : Int32) = nI 16 from rfl, nI_leI (by decide) (by omega)]; omega
      obtain ⟨r1, -⟩ := z_ret h (show i < 16 by omega)
      have r2 := q_ofSpot (show i < 16 by omega) (j := 1) (by decide) μ
      unfold lX5_retiredCount_4 lX8_retired_4
      rw [if_neg q, if_neg q, ob_ r1, show fX8_ofSpot (nI i) 1 μ = fX8_ofSpot (nI i) (nI 1) μ from rfl, ob_ r2, nI_1]
      rcases (h.2.2.2.2.2 i (by omega)).2 with ⟨q1, q2⟩ | ⟨t, ht, q1, q2, -⟩
      · rw [if_pos q1, if_pos rfl, q2, Int32.add_zero]
        exact ih (i + 1) f _ (by omega) (by omega)
      · have q3 : ¬ σ 9 i = -1 := by
          rw [q1, fa_eq, nI_toInt (by have := h.1; omega)]
          have : (-1 : Int32).toInt = -1 := by decide
          omega
        rw [if_neg q3, if_neg (by decide), q2]
        exact ih (i + 1) f _ (by omega) (by omega)
  exact key 16 0 70 0 (by omega) (by omega)
end Z
