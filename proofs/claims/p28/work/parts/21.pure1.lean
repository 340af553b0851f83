/-! the relation of a state of the class and a row of the model -/
def ds (a b : Nat) : Nat := if (b + 16 - a) % 16 ≤ 8 then (b + 16 - a) % 16 else 16 - (b + 16 - a) % 16
abbrev NO : Int32 := -10006
def rs_ (σ : sg_T) (z : Nat → Int32) : Prop := (z 0 = σ 1 0 ∧ z 1 = σ 1 1 ∧ z 2 = σ 1 2 ∧ z 3 = σ 1 3) ∧ (∃ q, q ≤ 3 ∧ σ 1 0 = nI q) ∧ (∃ q, 1 ≤ q ∧ q ≤ 9 ∧ σ 1 1 = nI q) ∧ (∃ q, q ≤ 9 ∧ σ 1 2 = nI q) ∧ (∃ q, 1 ≤ q ∧ q ≤ 9 ∧ σ 1 3 = nI q)
def rt_ (n pt : Nat) (σ : sg_T) (z : Nat → Int32) : Prop := (pt = 0 → σ 0 3 = NO ∧ σ 0 4 = NO) ∧ (pt ≠ 0 → ∃ k b, k < n ∧ 1 ≤ b ∧ b ≤ 8 ∧ σ 0 3 = nI k ∧ z 7 = nI k ∧ σ 0 4 = nI b ∧ z 8 = nI b) ∧ (pt = 2 → ∃ a, a < 16 ∧ σ 0 5 = nI a ∧ z 9 = nI a) ∧ (pt ≠ 2 → σ 0 5 = NO ∧ σ 0 6 = 0) ∧ (pt = 1 → z 9 = 0) ∧ z 10 = σ 0 6
def rp_ (n pt : Nat) (σ : sg_T) (z : Nat → Int32) : Prop := (∀ p, p < n → z (12 + 6 * p + 0) = σ 2 p ∧ z (12 + 6 * p + 1) = σ 3 p ∧ z (12 + 6 * p + 2) = σ 4 p ∧ z (12 + 6 * p + 3) = σ 5 p ∧ z (12 + 6 * p + 4) = σ 6 p ∧ z (12 + 6 * p + 5) = σ 7 p) ∧ (∀ p, p < 8 → σ 7 p = NO ∨ ∃ s, 1 ≤ s ∧ s < 16 ∧ σ 7 p = nI s) ∧ (∀ p, n ≤ p → p < 8 → σ 2 p = 0 ∧ σ 3 p = 0 ∧ σ 4 p = 0 ∧ σ 5 p = 0 ∧ σ 6 p = 0 ∧ σ 7 p = NO) ∧ (pt = 0 → ∀ p, p < 8 → σ 7 p = NO) ∧ (∀ s, 1 ≤ s → s < 16 → cn_ (fun p => decide (σ 7 p = nI s)) n ≤ 2)
def rh_ (R : Nat) (σ : sg_T) (z : Nat → Int32) : Prop := ∀ s, s < 16 → z (60 + 3 * s + 0) = σ 8 s ∧ ((σ 9 s = -1 ∧ z (60 + 3 * s + 1) = 0) ∨ ∃ t, t ≤ R ∧ σ 9 s = nI t ∧ z (60 + 3 * s + 1) = 1 ∧ z (60 + 3 * s + 2) = nI (R - t))
def r0_ (n R pt : Nat) (σ : sg_T) (z : Nat → Int32) : Prop := n ≤ 8 ∧ pt ≤ 2 ∧ σ 0 0 = nI n ∧ z 4 = nI n ∧ σ 0 1 = nI R ∧ z 5 = nI R ∧ σ 0 2 = nI pt ∧ z 6 = nI pt
def r5_ (n R pt : Nat) (σ : sg_T) (z : Nat → Int32) : Prop := R < 2 ^ 30 ∧ r0_ n R pt σ z ∧ rs_ σ z ∧ rt_ n pt σ z ∧ rp_ n pt σ z ∧ rh_ R σ z
def RZ (B : Nat) (σ : sg_T) (z : Nat → Int32) : Prop := ∃ n R pt, R ≤ B ∧ r5_ n R pt σ z
theorem RZ_m {B B' : Nat} {σ : sg_T} {z : Nat → Int32} (h : RZ B σ z) (hB : B ≤ B') : RZ B' σ z := by
  obtain ⟨n, R, pt, h1, h2⟩ := h
  exact ⟨n, R, pt, Nat.le_trans h1 hB, h2⟩
/-! distances -/
theorem p_dist : ∀ a, a < 16 → ∀ b, b < 16 → fX6_distance (nI a) (nI b) = some (nI (ds a b)) := by decide +kernel
theorem q_dist : ∀ a, a < 16 → ∀ b, b < 16 → fX8_distance (nI a) (nI b) = some (nI (ds a b)) := by decide +kernel
theorem ds_c : ∀ a, a < 16 → ∀ b, b < 16 → ds a b = ds b a := by decide +kernel
theorem ds_8 : ∀ a, a < 16 → ∀ b, b < 16 → ds a b ≤ 8 := by decide +kernel
theorem p_base_ : ∀ a, a < 16 → fX6_fromBase (nI a) = some (nI (ds a 0)) := by decide +kernel
theorem p_base {a : Nat} (h : a < 16) : fX6_fromBase (nI a) = some (nI (ds a 0)) := by
  exact p_base_ a h
/-! small tests on both sides -/
theorem nI_cmp {a b : Nat} (ha : a < 2 ^ 31) (hb : b < 2 ^ 31) : (nI a ≤ nI b ↔ a ≤ b) ∧ (nI a < nI b ↔ a < b) ∧ (nI a = nI b ↔ a = b) := ⟨nI_leI ha hb, nI_ltI ha hb, nI_eq ha hb⟩
theorem in_n {p : Int32} {n : Nat} (hn : n ≤ 8) (h1 : ¬ p < 0) (h2 : ¬ nI n ≤ p) : ∃ k, k < n ∧ p = nI k := by
  obtain ⟨j, hj, rfl⟩ := nI_of h1
  exact ⟨j, by rw [nI_leI (by omega) hj] at h2; omega, rfl⟩
theorem q_in (p a b : Int32) : fX8_in p a b = some (if p < a ∨ b < p then 0 else 1) := by
  unfold fX8_in
  by_cases h1 : p < a
  · rw [if_pos h1, if_pos (Or.inl h1)]
  · rw [if_neg h1]
    by_cases h2 : b < p
    · rw [if_pos h2, if_pos (Or.inr h2)]
    · rw [if_neg h2, if_neg (fun h => h.elim h1 h2)]
theorem o01 {c : Prop} [Decidable c] : (if c then (0 : Int32) else 1) = 0 ∨ (if c then (0 : Int32) else 1) = 1 := by
  by_cases h : c
  · rw [if_pos h]; exact Or.inl rfl
  · rw [if_neg h]; exact Or.inr rfl
theorem pl_12 {n : Nat} {p : Int32} (hn : n ≤ 8) : (p < 0 ∨ nI n - 1 < p) ↔ (p < 0 ∨ nI n ≤ p) := by
  by_cases h : p < 0
  · exact ⟨fun _ => Or.inl h, fun _ => Or.inl h⟩
  · obtain ⟨j, hj, rfl⟩ := nI_of h
    have e : (nI n - 1 < nI j) ↔ nI n ≤ nI j := by
      rw [nI_leI (by omega) hj]
      cases n with
      | zero =>
        refine ⟨fun _ => Nat.zero_le j, fun _ => ?_⟩
        rw [fa_lt, nI_toInt hj]
        have : (nI 0 - 1).toInt = -1 := by decide
        omega
      | succ n => rw [nI_pred, nI_ltI (by omega) hj]; omega
    exact or_congr Iff.rfl e
/-- a player's number: no on both sides, or a small number -/
theorem z_pl {n R pt : Nat} {σ : sg_T} {μ : sg_T} (h : r5_ n R pt σ (μ 1)) (p : Int32) : (fX5_isPlayer p σ = some 0 ∧ fX8_isPlayer p μ = some 0) ∨ (∃ k, k < n ∧ p = nI k ∧ fX5_isPlayer p σ = some 1 ∧ fX8_isPlayer p μ = some 1) := by
  obtain ⟨-, ⟨hn, -, e1, e2, -⟩, -⟩ := h
  have q : fX8_isPlayer p μ = some (if p < 0 ∨ nI n - 1 < p then 0 else 1) := by
    unfold fX8_isPlayer
    rw [show (4 : Int32).toNatClampNeg = 4 from rfl, e2, q_in]
    show o_k _ _ = _
    rw [ok_ o01]
  rw [q]
  unfold fX5_isPlayer
  rw [e1]
  by_cases h1 : p < 0
  · left
    rw [if_pos h1, if_pos (Or.inl h1)]
    exact ⟨rfl, rfl⟩
  · rw [if_neg h1]
    by_cases h2 : nI n ≤ p
    · left
      rw [if_pos h2, if_pos ((pl_12 hn).mpr (Or.inr h2))]
      exact ⟨rfl, rfl⟩
    · right
      obtain ⟨k, hk, rfl⟩ := in_n hn h1 h2
      rw [if_neg h2, if_neg (fun q => by rcases (pl_12 hn).mp q with q | q; exact h1 q; exact h2 q)]
      exact ⟨k, hk, rfl, rfl, rfl⟩
theorem z_sp (p : Int32) : (fX6_isSpot p = some 0 ∧ fX8_isSpot p = some 0) ∨ (∃ k, k < 16 ∧ p = nI k ∧ fX6_isSpot p = some 1 ∧ fX8_isSpot p = some 1) := by
  have q : fX8_isSpot p = some (if p < 0 ∨ 15 < p then 0 else 1) := by
    unfold fX8_isSpot
    rw [q_in]
    show o_k _ _ = _
    rw [ok_ o01]
  rw [q]
  unfold fX6_isSpot
  by_cases h1 : p < 0
  · left
    rw [if_pos h1, if_pos (Or.inl h1)]
    exact ⟨rfl, rfl⟩
  · rw [if_neg h1]
    obtain ⟨j, hj, rfl⟩ := nI_of h1
    by_cases h2 : (16 : Int32) ≤ nI j
    · left
      have h3 : (15 : Int32) < nI j := by
        rw [show (16 : Int32) = nI 16 from rfl, nI_leI (by decide) hj] at h2
        rw [show (15 : Int32) = nI 15 from rfl, nI_ltI (by decide) hj]
        omega
      rw [if_pos h2, if_pos (Or.inr h3)]
      exact ⟨rfl, rfl⟩
    · right
      rw [show (16 : Int32) = nI 16 from rfl, nI_leI (by decide) hj] at h2
      have h3 : ¬ (15 : Int32) < nI j := by
        rw [show (15 : Int32) = nI 15 from rfl, nI_ltI (by decide) hj]
        omega
      rw [if_neg (by rw [show (16 : Int32) = nI 16 from rfl, nI_leI (by decide) hj]; omega), if_neg (fun q => q.elim h1 h3)]
      exact ⟨j, by omega, rfl, rfl, rfl⟩
/-! the model's rows -/
theorem q_of {k j : Nat} (hk : k < 8) (hj : j < 6) (μ : sg_T) : fX8_of (nI k) (nI j) μ = some (μ 1 (12 + 6 * k + j)) := by
  unfold fX8_of
  rw [show (12 : Int32) = nI 12 from rfl, show (6 : Int32) = nI 6 from rfl, pz_, ox_ (by omega) (by decide), cl_ (by omega)]
theorem q_hides {k : Nat} (hk : k < 8) (v : Int32) (μ : sg_T) : fX8_hides (nI k) v μ = some (sg_a μ 1 (upd (μ 1) (12 + 6 * k + 5) v)) := by
  unfold fX8_hides
  rw [show (12 : Int32) = nI 12 from rfl, show (6 : Int32) = nI 6 from rfl, show (5 : Int32) = nI 5 from rfl, pz_, ox_ (by omega) (by decide), cl_ (by omega)]
theorem q_adds {k j : Nat} (hk : k < 8) (hj : j < 6) (v : Int32) (μ : sg_T) : fX8_adds (nI k) (nI j) v μ = some (sg_a μ 1 (upd (μ 1) (12 + 6 * k + j) (μ 1 (12 + 6 * k + j) + v))) := by
  unfold fX8_adds
  rw [show (12 : Int32) = nI 12 from rfl, show (6 : Int32) = nI 6 from rfl, pz_, ox_ (by omega) (by decide), cl_ (by omega)]
theorem q_ofSpot {s j : Nat} (hs : s < 16) (hj : j < 3) (μ : sg_T) : fX8_ofSpot (nI s) (nI j) μ = some (μ 1 (60 + 3 * s + j)) := by
  unfold fX8_ofSpot
  rw [show (60 : Int32) = nI 60 from rfl, show (3 : Int32) = nI 3 from rfl, sz_, ox_ (by omega) (by decide), cl_ (by omega)]
/-- a spot is retired: alike on both sides -/
theorem z_ret {n R pt : Nat} {σ : sg_T} {μ : sg_T} (h : r5_ n R pt σ (μ 1)) {s : Nat} (hs : s < 16) : fX5_isRetired (nI s) σ = some (if σ 9 s = -1 then 0 else 1) ∧ fX8_isRetired (nI s) μ = some (if σ 9 s = -1 then 0 else 1) := by
  obtain ⟨hR, -, -, -, -, hh⟩ := h
  constructor
  · unfold fX5_isRetired
    rcases z_sp (nI s) with ⟨e, -⟩ | ⟨k, -, -, e, -⟩
    · exfalso
      unfold fX6_isSpot at e
      rw [if_neg (nI_pos (by omega)), if_neg (by rw [show (16 : Int32) = nI 16 from rfl, nI_leI (by decide) (by omega)]; omega)] at e
      cases e
    · rw [ob_ e, if_neg (by decide), ox_ hs (by decide), cl_ (by omega)]
      by_cases q : σ 9 s = -1
      · rw [if_pos q, if_pos q]
      · rw [if_neg q, if_neg q]
  · unfold fX8_isRetired
    refine (ob_ (q_ofSpot hs (j := 1) (by decide) μ) _).trans ?_
    show (if μ 1 (60 + 3 * s + 1) = 1 then some (1 : Int32) else some 0) = _
    rcases (hh s hs).2 with ⟨q1, q2⟩ | ⟨t, ht, q1, q2, -⟩
    · rw [q2, q1, if_neg (by decide), if_pos rfl]
    · rw [q2, q1, if_pos rfl, if_neg]
      · rw [fa_eq, nI_toInt (by omega)]
        have : (-1 : Int32).toInt = -1 := by decide
        omega
