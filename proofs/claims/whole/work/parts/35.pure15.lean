/-! the record of what was: rows copied -/
theorem r5_c {n R pt : Nat} {σ : sg_T} {z z' : Nat → Int32} (h : r5_ n R pt σ z) (hz : ∀ j, j < 108 → z' j = z j) : r5_ n R pt σ z' := by
  obtain ⟨hR, ⟨a1, a2, a3, a4, a5, a6, a7, a8⟩, ⟨⟨b0, b1, b2, b3⟩, b4⟩, ⟨t1, t2, t3, t4, t5, t6⟩, ⟨p1, p2⟩, hh⟩ := h
  refine ⟨hR, ⟨a1, a2, a3, ?_, a5, ?_, a7, ?_⟩, ⟨⟨?_, ?_, ?_, ?_⟩, b4⟩, ⟨t1, ?_, ?_, t4, ?_, ?_⟩, ⟨?_, p2⟩, ?_⟩
  · rw [hz _ (by decide)]; exact a4
  · rw [hz _ (by decide)]; exact a6
  · rw [hz _ (by decide)]; exact a8
  · rw [hz _ (by decide)]; exact b0
  · rw [hz _ (by decide)]; exact b1
  · rw [hz _ (by decide)]; exact b2
  · rw [hz _ (by decide)]; exact b3
  · rw [hz 7 (by decide), hz 8 (by decide)]; exact t2
  · rw [hz 9 (by decide)]; exact t3
  · rw [hz 9 (by decide)]; exact t5
  · rw [hz 10 (by decide)]; exact t6
  · intro p hp
    rw [hz _ (by omega), hz _ (by omega), hz _ (by omega), hz _ (by omega), hz _ (by omega), hz _ (by omega)]
    exact p1 p hp
  · intro s hs
    rw [hz _ (by omega), hz _ (by omega), hz _ (by omega)]
    exact hh s hs
theorem RZ_c {B : Nat} {σ : sg_T} {z z' : Nat → Int32} (h : RZ B σ z) (hz : ∀ j, j < 108 → z' j = z j) : RZ B σ z' := by
  obtain ⟨n, R, pt, h1, h2⟩ := h
  exact ⟨n, R, pt, h1, r5_c h2 hz⟩
/-- a copy's first a -/
def wc_ (f g : Nat → Int32) (b a k : Nat) : Int32 := if b ≤ k ∧ k < b + a then g (k - b) else f k
theorem wc_0 (f g : Nat → Int32) (b : Nat) : wc_ f g b 0 = f := by
  funext k
  unfold wc_
  rw [if_neg (by omega)]
theorem wc_1 (f g : Nat → Int32) (b a : Nat) : upd (wc_ f g b a) (b + a) (g a) = wc_ f g b (a + 1) := by
  funext k
  unfold upd wc_
  by_cases h : k = b + a
  · rw [if_pos h, if_pos (by omega), h, Nat.add_sub_cancel_left]
  · rw [if_neg h]
    by_cases h2 : b ≤ k ∧ k < b + a
    · rw [if_pos h2, if_pos (by omega)]
    · rw [if_neg h2, if_neg (by omega)]
theorem wc_in {f g : Nat → Int32} {b a k : Nat} (h : k < a) : wc_ f g b a (b + k) = g k := by
  unfold wc_
  rw [if_pos (by omega), Nat.add_sub_cancel_left]
theorem wc_out {f g : Nat → Int32} {b a k : Nat} (h : k < b ∨ b + a ≤ k) : wc_ f g b a k = f k := by
  unfold wc_
  rw [if_neg (by omega)]
def wh_ (f : Nat → Int32) (a k : Nat) : Int32 := if k < a then f (k + 108) else f k
theorem wh_0 (f : Nat → Int32) : wh_ f 0 = f := by
  funext k
  unfold wh_
  rw [if_neg (by omega)]
theorem wh_1 (f : Nat → Int32) (a : Nat) : upd (wh_ f a) a (wh_ f a (a + 108)) = wh_ f (a + 1) := by
  funext k
  unfold upd wh_
  by_cases h : k = a
  · rw [if_pos h, if_neg (by omega), if_pos (by omega), h]
  · rw [if_neg h]
    by_cases h2 : k < a
    · rw [if_pos h2, if_pos (by omega)]
    · rw [if_neg h2, if_neg (by omega)]
theorem cx_ {c a : Nat} : nI c * 108 + nI a = nI (c * 108 + a) := by
  rw [show (108 : Int32) = nI 108 from rfl, nI_mul, nI_add]
theorem rec50 {μ : sg_T} {c : Nat} (hc : c < 5) (h0 : μ 0 0 = nI c) : ∀ d a f, a + d = 108 → d < f → lX8_record_50 f (nI a) (sg_a μ 2 (wc_ (μ 2) (μ 1) (c * 108) a)) = some (sg_a (sg_a μ 2 (wc_ (μ 2) (μ 1) (c * 108) 108)) 0 (sg_u (μ 0) 0 (nI (c + 1)))) := by
  intro d
  induction d with
  | zero =>
    intro a f ha hf
    obtain ⟨f, rfl⟩ : ∃ g, f = g + 1 := ⟨f - 1, by omega⟩
    have ha : a = 108 := by omega
    subst ha
    rw [lX8_record_50, if_pos (show (108 : Int32) ≤ nI 108 by decide), sg_an _ _ (show 0 ≠ 2 by decide), h0, nI_1]
  | succ d ih =>
    intro a f ha hf
    obtain ⟨f, rfl⟩ : ∃ g, f = g + 1 := ⟨f - 1, by omega⟩
    rw [lX8_record_50, if_neg (by rw [show (108 : Int32) = nI 108 from rfl, nI_leI (by decide) (by omega)]; omega), ox_ (by omega) (by decide), sg_an _ _ (show 0 ≠ 2 by decide), h0, cx_, ox_ (by omega) (by decide), cl_ (by omega), cl_ (by omega), nI_1, sg_as, sg_aa, sg_an _ _ (show 1 ≠ 2 by decide), wc_1]
    exact ih (a + 1) f (by omega) (by omega)
theorem rec10 {μ : sg_T} : ∀ d a f, a + d = 432 → d < f → lX8_record_10 f (nI a) (sg_a μ 2 (wh_ (μ 2) a)) = lX8_record_50 500 0 (sg_a (sg_a μ 2 (wh_ (μ 2) 432)) 0 (sg_u (μ 0) 0 (μ 0 0 - 1))) := by
  intro d
  induction d with
  | zero =>
    intro a f ha hf
    obtain ⟨f, rfl⟩ : ∃ g, f = g + 1 := ⟨f - 1, by omega⟩
    have ha : a = 432 := by omega
    subst ha
    rw [lX8_record_10, if_pos (show (432 : Int32) ≤ nI 432 by decide), sg_an _ _ (show 0 ≠ 2 by decide)]
  | succ d ih =>
    intro a f ha hf
    obtain ⟨f, rfl⟩ : ∃ g, f = g + 1 := ⟨f - 1, by omega⟩
    rw [lX8_record_10, if_neg (by rw [show (432 : Int32) = nI 432 from rfl, nI_leI (by decide) (by omega)]; omega), show (108 : Int32) = nI 108 from rfl, nI_add, ox_ (by omega) (by decide), ox_ (by omega) (by decide), cl_ (by omega), cl_ (by omega), nI_1, sg_as, sg_aa, wh_1]
    exact ih (a + 1) f (by omega) (by omega)
theorem z_rec {μ : sg_T} {c : Nat} (hc : c ≤ 5) (h0 : μ 0 0 = nI c) : ∃ μ' : sg_T, fX8_record μ = some μ' ∧ (∀ j, j ≠ 0 → j ≠ 2 → μ' j = μ j) ∧ (∀ k, k ≠ 0 → μ' 0 k = μ 0 k) ∧ ((c < 5 ∧ μ' 0 0 = nI (c + 1) ∧ (∀ j, j < 108 → μ' 2 (c * 108 + j) = μ 1 j) ∧ ∀ k, k < c * 108 → μ' 2 k = μ 2 k) ∨ (c = 5 ∧ μ' 0 0 = nI 5 ∧ (∀ j, j < 108 → μ' 2 (4 * 108 + j) = μ 1 j) ∧ ∀ k, k < 432 → μ' 2 k = μ 2 (k + 108))) := by
  unfold fX8_record
  rw [h0]
  by_cases q : c = 5
  · subst q
    rw [if_pos (show nI 5 = 5 from rfl)]
    have s1 := rec10 (μ := μ) 432 0 500 (by decide) (by decide)
    rw [wh_0, sg_ai, h0] at s1
    have s2 := rec50 (μ := sg_a (sg_a μ 2 (wh_ (μ 2) 432)) 0 (sg_u (μ 0) 0 (nI 5 - 1))) (c := 4) (by decide) (by rw [sg_as, sg_us]; rfl) 108 0 500 (by decide) (by decide)
    rw [wc_0, sg_ai] at s2
    refine ⟨_, s1.trans s2, fun j h1 h2 => ?_, fun k hk => ?_, Or.inr ⟨rfl, ?_, fun j hj => ?_, fun k hk => ?_⟩⟩
    · rw [sg_an _ _ h1, sg_an _ _ h2, sg_an _ _ h1, sg_an _ _ h2]
    · rw [sg_as, sg_un _ _ hk, sg_as, sg_un _ _ hk]
    · rw [sg_as, sg_us]
    · rw [sg_an _ _ (show 2 ≠ 0 by decide), sg_as, wc_in hj, sg_an _ _ (show 1 ≠ 0 by decide), sg_an _ _ (show 1 ≠ 2 by decide)]
    · rw [sg_an _ _ (show 2 ≠ 0 by decide), sg_as, wc_out (Or.inl (by omega)), sg_an _ _ (show 2 ≠ 0 by decide), sg_as]
      unfold wh_
      rw [if_pos hk]
  · have v : ¬ nI c = 5 := by rw [show (5 : Int32) = nI 5 from rfl, nI_eq (by omega) (by decide)]; exact q
    rw [if_neg v]
    have s2 := rec50 (μ := μ) (c := c) (by omega) h0 108 0 500 (by decide) (by decide)
    rw [wc_0, sg_ai] at s2
    refine ⟨_, s2, fun j h1 h2 => ?_, fun k hk => ?_, Or.inl ⟨by omega, ?_, fun j hj => ?_, fun k hk => ?_⟩⟩
    · rw [sg_an _ _ h1, sg_an _ _ h2]
    · rw [sg_as, sg_un _ _ hk]
    · rw [sg_as, sg_us]
    · rw [sg_an _ _ (show 2 ≠ 0 by decide), sg_as, wc_in hj]
    · rw [sg_an _ _ (show 2 ≠ 0 by decide), sg_as, wc_out (Or.inl (by omega))]
