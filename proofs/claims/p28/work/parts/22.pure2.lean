/-! who hides where: counts and masks on both sides -/
def hd_ (σ : sg_T) (p : Nat) : Bool := decide (¬ σ 7 p = NO)
def at_ (σ : sg_T) (s p : Nat) : Bool := decide (σ 7 p = nI s)
def pc_ (m : Nat) : Nat := cn_ (fun i => m.testBit i) 8
theorem bo_ {P : Prop} [Decidable P] : (decide P = true) = P := by simp
theorem p_bits : ∀ m, m < 256 → fJ6_bitCount_0f7a4 (nI m) = some (nI (pc_ m)) := by decide +kernel
theorem q_bits : ∀ m, m < 256 → fX8_bits (nI m) = some (nI (pc_ m)) := by decide +kernel
theorem pc_or : ∀ p, p < 8 → ∀ a, a < 2 ^ p → pc_ (a ||| 2 ^ p) = pc_ a + 1 := by decide +kernel
theorem mk_256 (P : Nat → Bool) {n : Nat} (hn : n ≤ 8) : mk_ P n < 256 := Nat.lt_of_lt_of_le (mk_lt P n) (Nat.pow_le_pow_right (by decide) hn)
theorem pc_mk (P : Nat → Bool) : ∀ n, n ≤ 8 → pc_ (mk_ P n) = cn_ P n
  | 0, _ => by show pc_ 0 = 0; decide
  | n + 1, h => by
    show pc_ (mk_ P n ||| (if P n = true then 2 ^ n else 0)) = cn_ P n + (if P n = true then 1 else 0)
    by_cases q : P n = true
    · rw [if_pos q, if_pos q, pc_or n (by omega) _ (mk_lt P n), pc_mk P n (by omega)]
    · rw [if_neg q, if_neg q, Nat.or_zero, Nat.add_zero, pc_mk P n (by omega)]
section Z
variable {n R pt : Nat} {σ μ : sg_T}
theorem z_0 (h : r5_ n R pt σ (μ 1)) : n ≤ 8 ∧ σ 0 0 = nI n ∧ μ 1 4 = nI n := ⟨h.2.1.1, h.2.1.2.2.1, h.2.1.2.2.2.1⟩
theorem z_h (h : r5_ n R pt σ (μ 1)) {p : Nat} (hp : p < n) : μ 1 (12 + 6 * p + 5) = σ 7 p := (h.2.2.2.2.1.1 p hp).2.2.2.2.2
theorem z_isP (h : r5_ n R pt σ (μ 1)) {p : Nat} (hp : p < n) : fX5_isPlayer (nI p) σ = some 1 := by
  obtain ⟨hn, e1, e2⟩ := z_0 h
  unfold fX5_isPlayer
  rw [e1, if_neg (nI_pos (by omega)), if_neg (by rw [nI_leI (by omega) (by omega)]; omega)]
theorem z_hid (h : r5_ n R pt σ (μ 1)) {p : Nat} (hp : p < n) : fX5_isHidden (nI p) σ = some (if σ 7 p = NO then 0 else 1) := by
  obtain ⟨hn, -⟩ := z_0 h
  unfold fX5_isHidden
  rw [ob_ (z_isP h hp), if_neg (by decide), ox_ (by omega) (by decide), cl_ (by omega)]
  by_cases q : σ 7 p = NO
  · rw [if_pos q, if_pos q]
  · rw [if_neg q, if_neg q]
theorem z_hc (h : r5_ n R pt σ (μ 1)) : fX5_hiddenCount σ = some (nI (cn_ (hd_ σ) n)) ∧ fX8_hidden μ = some (nI (cn_ (hd_ σ) n)) := by
  obtain ⟨hn, e1, e2⟩ := z_0 h
  constructor
  · have key : ∀ d i f, i + d = n → d < f → lX5_hiddenCount_4 f (nI (cn_ (hd_ σ) i)) (nI i) σ = some (nI (cn_ (hd_ σ) n)) := by
      intro d
      induction d with
      | zero =>
        intro i f hi hf
        obtain ⟨f, rfl⟩ : ∃ g, f = g + 1 := ⟨f - 1, by omega⟩
        have hi : i = n := by omega
        subst hi
        unfold lX5_hiddenCount_4
        rw [e1, if_pos ((nI_leI (by omega) (by omega)).mpr (Nat.le_refl i))]
      | succ d ih =>
        intro i f hi hf
        obtain ⟨f, rfl⟩ : ∃ g, f = g + 1 := ⟨f - 1, by omega⟩
        unfold lX5_hiddenCount_4
        rw [e1, if_neg (by rw [nI_leI (by omega) (by omega)]; omega), ob_ (z_hid h (show i < n by omega)), nI_1, nI_1]
        have e : cn_ (hd_ σ) (i + 1) = cn_ (hd_ σ) i + (if hd_ σ i = true then 1 else 0) := rfl
        by_cases q : σ 7 i = NO
        · rw [if_pos q, if_pos rfl]
          have e' : cn_ (hd_ σ) (i + 1) = cn_ (hd_ σ) i := by rw [e, if_neg (by unfold hd_; rw [bo_]; exact fun z => z q)]; rfl
          rw [← e']
          exact ih (i + 1) f (by omega) (by omega)
        · rw [if_neg q, if_neg (by decide)]
          have e' : cn_ (hd_ σ) (i + 1) = cn_ (hd_ σ) i + 1 := by rw [e, if_pos (by unfold hd_; rw [bo_]; exact q)]
          rw [← e']
          exact ih (i + 1) f (by omega) (by omega)
    exact key n 0 70 (by omega) (by omega)
  · have key : ∀ d i f, i + d = n → d < f → lX8_hidden_4 f (nI (cn_ (hd_ σ) i)) (nI i) μ = some (nI (cn_ (hd_ σ) n)) := by
      intro d
      induction d with
      | zero =>
        intro i f hi hf
        obtain ⟨f, rfl⟩ : ∃ g, f = g + 1 := ⟨f - 1, by omega⟩
        have hi : i = n := by omega
        subst hi
        unfold lX8_hidden_4
        rw [show (4 : Int32).toNatClampNeg = 4 from rfl, e2, if_pos ((nI_leI (by omega) (by omega)).mpr (Nat.le_refl i))]
      | succ d ih =>
        intro i f hi hf
        obtain ⟨f, rfl⟩ : ∃ g, f = g + 1 := ⟨f - 1, by omega⟩
        unfold lX8_hidden_4
        rw [show (4 : Int32).toNatClampNeg = 4 from rfl, e2, if_neg (by rw [nI_leI (by omega) (by omega)]; omega), show (5 : Int32) = nI 5 from rfl, ob_ (q_of (show i < 8 by omega) (by decide) μ), z_h h (show i < n by omega), nI_1, nI_1]
        have e : cn_ (hd_ σ) (i + 1) = cn_ (hd_ σ) i + (if hd_ σ i = true then 1 else 0) := rfl
        by_cases q : σ 7 i = NO
        · rw [if_pos q]
          have e' : cn_ (hd_ σ) (i + 1) = cn_ (hd_ σ) i := by rw [e, if_neg (by unfold hd_; rw [bo_]; exact fun z => z q)]; rfl
          rw [Int32.add_zero, ← e']
          exact ih (i + 1) f (by omega) (by omega)
        · rw [if_neg q]
          have e' : cn_ (hd_ σ) (i + 1) = cn_ (hd_ σ) i + 1 := by rw [e, if_pos (by unfold hd_; rw [bo_]; exact q)]
          rw [← e']
          exact ih (i + 1) f (by omega) (by omega)
    exact key n 0 70 (by omega) (by omega)
theorem mk_1 {P : Nat → Bool} {i : Nat} (h : P i = true) : mk_ P (i + 1) = mk_ P i ||| 2 ^ i := by show mk_ P i ||| (if P i = true then 2 ^ i else 0) = _; rw [if_pos h]
theorem mk_n {P : Nat → Bool} {i : Nat} (h : ¬ P i = true) : mk_ P (i + 1) = mk_ P i := by show mk_ P i ||| (if P i = true then 2 ^ i else 0) = _; rw [if_neg h, Nat.or_zero]
theorem cn_1 {P : Nat → Bool} {i : Nat} (h : P i = true) : cn_ P (i + 1) = cn_ P i + 1 := by show cn_ P i + (if P i = true then 1 else 0) = _; rw [if_pos h]
theorem cn_n {P : Nat → Bool} {i : Nat} (h : ¬ P i = true) : cn_ P (i + 1) = cn_ P i := by show cn_ P i + (if P i = true then 1 else 0) = _; rw [if_neg h]; rfl
theorem z_mask (h : r5_ n R pt σ (μ 1)) {s : Nat} (hs : s < 16) : fX5_hidersAt (nI s) σ = some (nI (mk_ (at_ σ s) n)) ∧ fX8_hidersAt (nI s) μ = some (nI (mk_ (at_ σ s) n)) := by
  obtain ⟨hn, e1, e2⟩ := z_0 h
  constructor
  · have key : ∀ d i f, i + d = n → d < f → lX5_hidersAt_4 f (nI s) (nI (mk_ (at_ σ s) i)) (nI i) σ = some (nI (mk_ (at_ σ s) n)) := by
      intro d
      induction d with
      | zero =>
        intro i f hi hf
        obtain ⟨f, rfl⟩ : ∃ g, f = g + 1 := ⟨f - 1, by omega⟩
        have hi : i = n := by omega
        subst hi
        unfold lX5_hidersAt_4
        rw [e1, if_pos ((nI_leI (by omega) (by omega)).mpr (Nat.le_refl i))]
      | succ d ih =>
        intro i f hi hf
        obtain ⟨f, rfl⟩ : ∃ g, f = g + 1 := ⟨f - 1, by omega⟩
        unfold lX5_hidersAt_4
        rw [e1, if_neg (by rw [nI_leI (by omega) (by omega)]; omega), ox_ (by omega) (by decide), cl_ (by omega), nI_1, or_1 (by omega)]
        by_cases q : σ 7 i = nI s
        · rw [if_pos q, ← mk_1 (P := at_ σ s) (by unfold at_; rw [bo_]; exact q)]
          exact ih (i + 1) f (by omega) (by omega)
        · rw [if_neg q, ← mk_n (P := at_ σ s) (i := i) (by unfold at_; rw [bo_]; exact q)]
          exact ih (i + 1) f (by omega) (by omega)
    exact key n 0 70 (by omega) (by omega)
  · have key : ∀ d i f, i + d = n → d < f → lX8_hidersAt_4 f (nI s) (nI (mk_ (at_ σ s) i)) (nI i) μ = some (nI (mk_ (at_ σ s) n)) := by
      intro d
      induction d with
      | zero =>
        intro i f hi hf
        obtain ⟨f, rfl⟩ : ∃ g, f = g + 1 := ⟨f - 1, by omega⟩
        have hi : i = n := by omega
        subst hi
        unfold lX8_hidersAt_4
        rw [show (4 : Int32).toNatClampNeg = 4 from rfl, e2, if_pos ((nI_leI (by omega) (by omega)).mpr (Nat.le_refl i))]
      | succ d ih =>
        intro i f hi hf
        obtain ⟨f, rfl⟩ : ∃ g, f = g + 1 := ⟨f - 1, by omega⟩
        unfold lX8_hidersAt_4
        rw [show (4 : Int32).toNatClampNeg = 4 from rfl, e2, if_neg (by rw [nI_leI (by omega) (by omega)]; omega), show (5 : Int32) = nI 5 from rfl, ob_ (q_of (show i < 8 by omega) (by decide) μ), z_h h (show i < n by omega), nI_1, or_1 (by omega), or_0]
        by_cases q : σ 7 i = nI s
        · rw [if_pos q, ← mk_1 (P := at_ σ s) (by unfold at_; rw [bo_]; exact q)]
          exact ih (i + 1) f (by omega) (by omega)
        · rw [if_neg q, ← mk_n (P := at_ σ s) (i := i) (by unfold at_; rw [bo_]; exact q)]
          exact ih (i + 1) f (by omega) (by omega)
    exact key n 0 70 (by omega) (by omega)
theorem z_cnt (h : r5_ n R pt σ (μ 1)) {s : Nat} (hs : s < 16) : fX5_hiderCount (nI s) σ = some (nI (cn_ (at_ σ s) n)) ∧ fX8_bits (nI (mk_ (at_ σ s) n)) = some (nI (cn_ (at_ σ s) n)) := by
  obtain ⟨hn, -⟩ := z_0 h
  rw [q_bits _ (mk_256 _ hn), pc_mk _ n hn]
  refine ⟨?_, rfl⟩
  unfold fX5_hiderCount
  rw [ob_ (z_mask h hs).1, ob_ (p_bits _ (mk_256 _ hn)), pc_mk _ n hn]
/-- where one may hide, and where there is room -/
def gd_ (σ : sg_T) (b s : Nat) : Prop := ¬ s = 0 ∧ ds s 0 ≤ b ∧ σ 9 s = -1
end Z
