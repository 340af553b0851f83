/-! pure rows: functions, small numbers -/
theorem sg_as (σ : sg_T) (j : Nat) (f : Nat → Int32) : sg_a σ j f j = f := by
  unfold sg_a; rw [Nat.beq_refl]; rfl
theorem sg_an (σ : sg_T) {j k : Nat} (f : Nat → Int32) (h : k ≠ j) : sg_a σ j f k = σ k := by
  unfold sg_a
  cases hb : Nat.beq k j with
  | true => exact absurd (Nat.eq_of_beq_eq_true hb) h
  | false => rfl
theorem sg_aa (σ : sg_T) (j : Nat) (f g : Nat → Int32) : sg_a (sg_a σ j f) j g = sg_a σ j g := by
  funext k
  by_cases h : k = j
  · subst h; rw [sg_as, sg_as]
  · rw [sg_an _ _ h, sg_an _ _ h, sg_an _ _ h]
theorem sg_ai (σ : sg_T) (j : Nat) : sg_a σ j (σ j) = σ := by
  funext k
  by_cases h : k = j
  · subst h; rw [sg_as]
  · rw [sg_an _ _ h]
theorem sg_us (f : Nat → Int32) (k : Nat) (v : Int32) : sg_u f k v k = v := by
  unfold sg_u; rw [Nat.beq_refl]; rfl
theorem sg_un (f : Nat → Int32) {j k : Nat} (v : Int32) (h : k ≠ j) : sg_u f j v k = f k := by
  unfold sg_u
  cases hb : Nat.beq k j with
  | true => exact absurd (Nat.eq_of_beq_eq_true hb) h
  | false => rfl
theorem sg_3s (Λ : s3_T) (j : Nat) (σ : sg_T) : sg_3 Λ j σ j = σ := by
  unfold sg_3; rw [Nat.beq_refl]; rfl
theorem sg_3n (Λ : s3_T) {j k : Nat} (σ : sg_T) (h : k ≠ j) : sg_3 Λ j σ k = Λ k := by
  unfold sg_3
  cases hb : Nat.beq k j with
  | true => exact absurd (Nat.eq_of_beq_eq_true hb) h
  | false => rfl
theorem sg_33 (Λ : s3_T) (j : Nat) (σ τ : sg_T) : sg_3 (sg_3 Λ j σ) j τ = sg_3 Λ j τ := by
  funext k
  by_cases h : k = j
  · subst h; rw [sg_3s, sg_3s]
  · rw [sg_3n _ _ h, sg_3n _ _ h, sg_3n _ _ h]
theorem up_s (f : Nat → Int32) (k : Nat) (x : Int32) : upd f k x k = x := if_pos rfl
theorem up_n (f : Nat → Int32) {k j : Nat} (x : Int32) (h : j ≠ k) : upd f k x j = f j := if_neg h
/-- indices within -/
theorem ox_ {α : Type} {i n : Nat} (h : i < n) (hn : n < 2 ^ 31) (x : Option α) : o_x (nI i) n x = x := by
  unfold o_x
  rw [if_neg]
  exact vp_in_nI h hn
theorem ok_ {α : Type} {P : Prop} [Decidable P] (h : P) (x : Option α) : o_k P x = x := by unfold o_k; rw [if_pos h]
theorem ob_ {α β : Type} {x : Option α} {a : α} (h : x = some a) (f : α → Option β) : x.bind f = f a := by rw [h]; rfl
theorem cl_ {i : Nat} (h : i < 2 ^ 31) : (nI i).toNatClampNeg = i := nI_clamp h
theorem nI_mul (a b : Nat) : nI a * nI b = nI (a * b) := by
  unfold nI
  exact Int32.ofNat_mul a b |>.symm
theorem nI_sub' {a b : Nat} (h : b ≤ a) : nI a - nI b = nI (a - b) := by
  obtain ⟨t, rfl⟩ : ∃ t, a = t + b := ⟨a - b, by omega⟩
  rw [Nat.add_sub_cancel, ← nI_add]
  exact Int32.add_sub_cancel _ _
/-- the place of a player's number, of a spot's -/
theorem pz_ {k j : Nat} : nI 12 + nI 6 * nI k + nI j = nI (12 + 6 * k + j) := by rw [nI_mul, nI_add, nI_add]
theorem sz_ {s j : Nat} : nI 60 + nI 3 * nI s + nI j = nI (60 + 3 * s + j) := by rw [nI_mul, nI_add, nI_add]
theorem sz0_ {s : Nat} : nI 60 + nI 3 * nI s = nI (60 + 3 * s) := by rw [nI_mul, nI_add]
/-- the count of what holds below -/
def cn_ (P : Nat → Bool) : Nat → Nat
  | 0 => 0
  | n + 1 => cn_ P n + (if P n = true then 1 else 0)
theorem cn_le (P : Nat → Bool) : ∀ n, cn_ P n ≤ n
  | 0 => Nat.le_refl 0
  | n + 1 => by
    have := cn_le P n
    show cn_ P n + (if P n = true then 1 else 0) ≤ n + 1
    split <;> omega
theorem cn_c {P Q : Nat → Bool} : ∀ {n : Nat}, (∀ i, i < n → P i = Q i) → cn_ P n = cn_ Q n
  | 0, _ => rfl
  | n + 1, h => by
    show cn_ P n + _ = cn_ Q n + _
    rw [cn_c (fun i hi => h i (by omega)), h n (by omega)]
theorem cn_m {P Q : Nat → Bool} : ∀ {n : Nat}, (∀ i, i < n → P i = true → Q i = true) → cn_ P n ≤ cn_ Q n
  | 0, _ => Nat.le_refl 0
  | n + 1, h => by
    have h1 := cn_m (n := n) (fun i hi => h i (by omega))
    show cn_ P n + (if P n = true then 1 else 0) ≤ cn_ Q n + (if Q n = true then 1 else 0)
    by_cases hp : P n = true
    · rw [if_pos hp, if_pos (h n (by omega) hp)]; omega
    · rw [if_neg hp]; omega
theorem cn_0 {P : Nat → Bool} : ∀ {n : Nat}, cn_ P n = 0 ↔ ∀ i, i < n → P i = false
  | 0 => ⟨fun _ i hi => absurd hi (Nat.not_lt_zero i), fun _ => rfl⟩
  | n + 1 => by
    constructor
    · intro h i hi
      have h : cn_ P n + (if P n = true then 1 else 0) = 0 := h
      rcases Nat.lt_or_ge i n with q | q
      · exact cn_0.mp (by omega) i q
      · have e : i = n := by omega
        subst e
        cases hp : P i with
        | false => rfl
        | true => rw [if_pos hp] at h; omega
    · intro h
      show cn_ P n + (if P n = true then 1 else 0) = 0
      rw [cn_0.mpr (fun i hi => h i (by omega)), if_neg (by rw [h n (by omega)]; decide)]
/-- the mask of what holds below -/
def mk_ (P : Nat → Bool) : Nat → Nat
  | 0 => 0
  | n + 1 => mk_ P n ||| (if P n = true then 2 ^ n else 0)
theorem mk_c {P Q : Nat → Bool} : ∀ {n : Nat}, (∀ i, i < n → P i = Q i) → mk_ P n = mk_ Q n
  | 0, _ => rfl
  | n + 1, h => by
    show mk_ P n ||| _ = mk_ Q n ||| _
    rw [mk_c (fun i hi => h i (by omega)), h n (by omega)]
theorem mk_lt (P : Nat → Bool) : ∀ n, mk_ P n < 2 ^ n
  | 0 => Nat.zero_lt_one
  | n + 1 => by
    have h := mk_lt P n
    show mk_ P n ||| (if P n = true then 2 ^ n else 0) < 2 ^ (n + 1)
    refine Nat.or_lt_two_pow ?_ ?_
    · exact Nat.lt_of_lt_of_le h (Nat.pow_le_pow_right (by decide) (by omega))
    · split
      · exact Nat.pow_lt_pow_right (by decide) (by omega)
      · exact Nat.pos_of_ne_zero (by simp)
theorem sh_1 : ∀ p, p < 31 → (1 : Int32) <<< (nI p &&& 31) = nI (2 ^ p) := by decide +kernel
theorem or_1 {p a : Nat} (hp : p < 31) : nI a ||| ((1 : Int32) <<< (nI p &&& 31)) = nI (a ||| 2 ^ p) := by rw [sh_1 p hp, fa_or]
theorem or_0 (a : Int32) : a ||| 0 = a := Int32.or_zero
