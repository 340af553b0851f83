theorem sg_ac (σ : sg_T) {j k : Nat} (f g : Nat → Int32) (h : j ≠ k) : sg_a (sg_a σ j f) k g = sg_a (sg_a σ k g) j f := by
  funext i
  by_cases q : i = k
  · subst q; rw [sg_as, sg_an _ _ (fun e => h e.symm), sg_as]
  · rw [sg_an _ _ q]
    by_cases q2 : i = j
    · subst q2; rw [sg_as, sg_as]
    · rw [sg_an _ _ q2, sg_an _ _ q2, sg_an _ _ q]
theorem cn_one {P Q : Nat → Bool} {k : Nat} : ∀ {n : Nat}, (∀ i, i < n → i ≠ k → P i = true → Q i = true) → cn_ P n ≤ cn_ Q n + 1
  | 0, _ => Nat.zero_le _
  | n + 1, h => by
    show cn_ P n + (if P n = true then 1 else 0) ≤ cn_ Q n + (if Q n = true then 1 else 0) + 1
    by_cases e : n = k
    · subst e
      have := cn_m (P := P) (Q := Q) (n := n) (fun i hi => h i (by omega) (by omega))
      split <;> split <;> omega
    · have := cn_one (P := P) (Q := Q) (k := k) (n := n) (fun i hi => h i (by omega))
      by_cases q : P n = true
      · rw [if_pos q, if_pos (h n (by omega) e q)]; omega
      · rw [if_neg q]; omega
theorem n10 : ¬ (1 : Int32) = 0 := by decide
theorem p00 : (0 : Int32) = 0 := rfl
/-! the fewest steps -/
def wt_ (a s : Nat) : Nat := (s + 16 - a) % 16
def nd_ (a q s up : Nat) : Nat := if ds a s ≤ q ∨ wt_ a s ≤ q + up then 0 else 16 - wt_ a s - q
/-- what the hidden of the first p need -/
def np_ (σ : sg_T) (a q up p : Nat) : Nat := if σ 7 p = NO then 0 else nd_ a q (σ 7 p).toNatClampNeg up
def Dn_ (σ : sg_T) (a q up : Nat) : Nat → Nat
  | 0 => 0
  | p + 1 => max (Dn_ σ a q up p) (np_ σ a q up p)
theorem p_up : ∀ a, a < 16 → ∀ s, s < 16 → fX6_stepsUp (nI a) (nI s) = some (nI (wt_ a s)) := by decide +kernel
theorem mx_ {a b : Nat} (ha : a < 2 ^ 31) (hb : b < 2 ^ 31) : fJ9_max_7cf53 (nI a) (nI b) = some (nI (max a b)) := by
  unfold fJ9_max_7cf53
  by_cases h : a < b
  · rw [if_pos ((nI_ltI ha hb).mpr h), Nat.max_eq_right (by omega)]
  · rw [if_neg (fun q => h ((nI_ltI ha hb).mp q)), Nat.max_eq_left (by omega)]
theorem mn_ {a b : Nat} (ha : a < 2 ^ 31) (hb : b < 2 ^ 31) : fJ9_min_7cf53 (nI a) (nI b) = some (nI (min a b)) := by
  unfold fJ9_min_7cf53
  by_cases h : b < a
  · rw [if_pos ((nI_ltI hb ha).mpr h), Nat.min_eq_right (by omega)]
  · rw [if_neg (fun q => h ((nI_ltI hb ha).mp q)), Nat.min_eq_left (by omega)]
theorem ds_w (a s : Nat) : (ds a s ≤ wt_ a s) ∧ (wt_ a s < 16) ∧ ds a s ≤ 16 - wt_ a s := by
  unfold ds wt_
  split <;> omega
theorem nd_le (a q s : Nat) (up : Nat) : nd_ a q s up = 0 ∨ up + nd_ a q s up < 16 := by
  unfold nd_
  have := ds_w a s
  split
  · exact Or.inl rfl
  · right; omega
theorem nd_15 (a q s : Nat) : nd_ a q s 15 = 0 := by
  unfold nd_
  have := ds_w a s
  rw [if_pos (Or.inr (by omega))]
theorem Dn_le (σ : sg_T) (a q up : Nat) (hu : up < 16) : ∀ p, up + Dn_ σ a q up p < 16
  | 0 => by show up + 0 < 16; omega
  | p + 1 => by
    have h1 := Dn_le σ a q up hu p
    have h2 : np_ σ a q up p = 0 ∨ up + np_ σ a q up p < 16 := by
      unfold np_
      split
      · exact Or.inl rfl
      · exact nd_le _ _ _ _
    show up + max (Dn_ σ a q up p) (np_ σ a q up p) < 16
    omega
theorem Dn_15 (σ : sg_T) (a q : Nat) : ∀ p, Dn_ σ a q 15 p = 0
  | 0 => rfl
  | p + 1 => by
    have h1 := Dn_15 σ a q p
    have h2 : np_ σ a q 15 p = 0 := by
      unfold np_
      split
      · rfl
      · exact nd_15 _ _ _
    show max (Dn_ σ a q 15 p) (np_ σ a q 15 p) = 0
    omega
def co_ (u d : Nat) : Nat := u + d + min u d
def fm_ (σ : sg_T) (a q n b : Nat) : Nat → Nat
  | 0 => b
  | u + 1 => min (fm_ σ a q n b u) (co_ u (Dn_ σ a q u n))
theorem fm_b (σ : sg_T) (a q n b c : Nat) : ∀ u, fm_ σ a q n (min b c) u = min b (fm_ σ a q n c u)
  | 0 => rfl
  | u + 1 => by
    show min (fm_ σ a q n (min b c) u) _ = min b (min (fm_ σ a q n c u) _)
    rw [fm_b σ a q n b c u]
    omega
theorem fm_e (σ : sg_T) (a q n : Nat) : fm_ σ a q n 16 16 = fm_ σ a q n 32 16 := by
  have h1 : fm_ σ a q n 16 16 = min 16 (fm_ σ a q n 32 16) := fm_b σ a q n 16 32 16
  have h2 : fm_ σ a q n 32 16 ≤ 15 := by
    show min (fm_ σ a q n 32 15) (co_ 15 (Dn_ σ a q 15 n)) ≤ 15
    rw [Dn_15, show co_ 15 0 = 15 from rfl]
    omega
  omega
theorem fm_le (σ : sg_T) (a q n b : Nat) (hb : b ≤ 32) : ∀ u, fm_ σ a q n b u ≤ 32
  | 0 => hb
  | u + 1 => by
    have := fm_le σ a q n b hb u
    show min (fm_ σ a q n b u) _ ≤ 32
    omega
section Z
variable {n R pt : Nat} {σ μ : sg_T}
theorem z_down (h : r5_ n R pt σ (μ 1)) {a q : Nat} (ha : a < 16) (hq : q ≤ 3) (a1 : σ 0 5 = nI a) (q1 : σ 1 0 = nI q) {up : Nat} (hu : up < 16) : fX0_stepsDownForTheRest (nI up) σ = some (nI (Dn_ σ a q up n)) := by
  obtain ⟨hn, f1, f2⟩ := z_0 h
  unfold fX0_stepsDownForTheRest
  have key : ∀ d i f, i + d = n → d < f → lX0_stepsDownForTheRest_4 f (nI up) (nI (Dn_ σ a q up i)) (nI i) σ = some (nI (Dn_ σ a q up n)) := by
    intro d
    induction d with
    | zero =>
      intro i f hi hf
      obtain ⟨f, rfl⟩ : ∃ g, f = g + 1 := ⟨f - 1, by omega⟩
      have hi : i = n := by omega
      subst hi
      rw [lX0_stepsDownForTheRest_4, f1, if_pos (Int32.le_refl _)]
    | succ d ih =>
      intro i f hi hf
      obtain ⟨f, rfl⟩ : ∃ g, f = g + 1 := ⟨f - 1, by omega⟩
      have q0 : ¬ nI n ≤ nI i := by rw [nI_leI (by omega) (by omega)]; omega
      have b0 := Dn_le σ a q up hu i
      have e0 : Dn_ σ a q up (i + 1) = max (Dn_ σ a q up i) (np_ σ a q up i) := rfl
      rw [lX0_stepsDownForTheRest_4, f1, if_neg q0, ob_ (z_hid h (show i < n by omega)), nI_1]
      have ih' := ih (i + 1) f (by omega) (by omega)
      by_cases c1 : σ 7 i = NO
      · rw [if_pos c1, if_pos p00]
        rw [e0, show np_ σ a q up i = 0 from if_pos c1, Nat.max_eq_left (Nat.zero_le _)] at ih'
        exact ih'
      · rcases h.2.2.2.2.1.2.1 i (by omega) with z | ⟨s, hs1, hs2, e⟩
        · exact absurd z c1
        · have e1 : np_ σ a q up i = nd_ a q s up := by
            unfold np_
            rw [if_neg c1, e, cl_ (by omega)]
          rw [e0, e1] at ih'
          rw [if_neg c1, if_neg n10, ox_ (by omega) (by decide), cl_ (by omega), e, ob_ (z_sees ha a1 q1 hs2), a1]
          have dw := ds_w a s
          by_cases c2 : nI q < nI (ds a s)
          · rw [if_pos c2, if_pos p00, ob_ (p_up a ha s hs2), show (0 : Int32).toNatClampNeg = 0 from rfl, q1]
            rw [nI_ltI (by omega) (by omega)] at c2
            rw [nI_sub' (show q ≤ wt_ a s by omega)]
            by_cases c3 : nI (wt_ a s - q) ≤ nI up
            · rw [if_pos c3]
              rw [nI_leI (by omega) (by omega)] at c3
              rw [show nd_ a q s up = 0 from if_pos (Or.inr (by omega)), Nat.max_eq_left (Nat.zero_le _)] at ih'
              exact ih'
            · rw [if_neg c3]
              rw [nI_leI (by omega) (by omega)] at c3
              rw [show nd_ a q s up = 16 - wt_ a s - q from if_neg (by omega)] at ih'
              rw [show (16 : Int32) = nI 16 from rfl, nI_sub' (by omega), nI_sub' (by omega), ob_ (mx_ (by omega) (by omega))]
              exact ih'
          · rw [if_neg c2, if_neg n10]
            rw [nI_ltI (by omega) (by omega)] at c2
            rw [show nd_ a q s up = 0 from if_pos (Or.inl (by omega)), Nat.max_eq_left (Nat.zero_le _)] at ih'
            exact ih'
  exact key n 0 70 (by omega) (by omega)
theorem z_stc (h : r5_ n R pt σ (μ 1)) (hp : pt = 2) {a q : Nat} (ha : a < 16) (hq : q ≤ 3) (a1 : σ 0 5 = nI a) (q1 : σ 1 0 = nI q) : fX0_stepsToSeeAll σ = some (nI (fm_ σ a q n 16 16)) := by
  subst hp
  have e1 := h.2.1.2.2.2.2.2.2.1
  unfold fX0_stepsToSeeAll
  rw [e1, if_pos (show nI 2 = 2 from rfl)]
  have key : ∀ d i f, i + d = 16 → d < f → lX0_stepsToSeeAll_17 f (nI (fm_ σ a q n 16 i)) (nI i) σ = some (nI (fm_ σ a q n 16 16)) := by
    intro d
    induction d with
    | zero =>
      intro i f hi hf
      obtain ⟨f, rfl⟩ : ∃ g, f = g + 1 := ⟨f - 1, by omega⟩
      have hi : i = 16 := by omega
      subst hi
      rw [lX0_stepsToSeeAll_17, if_pos (show (16 : Int32) ≤ nI 16 by decide)]
    | succ d ih =>
      intro i f hi hf
      obtain ⟨f, rfl⟩ : ∃ g, f = g + 1 := ⟨f - 1, by omega⟩
      have q0 : ¬ (16 : Int32) ≤ nI i := by rw [show (16 : Int32) = nI 16 from rfl, nI_leI (by decide) (by omega)]; omega
      have b1 := fm_le σ a q n 16 (by decide) i
      have b2 := Dn_le σ a q i (by omega) n
      rw [lX0_stepsToSeeAll_17, if_neg q0, ob_ (z_down h ha hq a1 q1 (show i < 16 by omega)), ob_ (mn_ (by omega) (by omega)), nI_add, nI_add, ob_ (mn_ (by omega) (by omega)), nI_1]
      exact ih (i + 1) f (by omega) (by omega)
  exact key 16 0 70 (by omega) (by omega)
end Z
