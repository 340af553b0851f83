/-! ranks -/
def ah_ (σ : sg_T) (p q : Nat) : Bool := decide (σ 2 q < σ 2 p ∨ (σ 2 p = σ 2 q ∧ (σ 5 p < σ 5 q ∨ (σ 5 p = σ 5 q ∧ p < q))))
theorem fa_nle {a b : Int32} : ¬ a ≤ b ↔ b < a := by rw [fa_le, fa_lt]; omega
theorem ah_i {σ : sg_T} {p q : Nat} : ah_ σ p q = true ↔ (σ 2 q < σ 2 p ∨ (σ 2 p = σ 2 q ∧ (σ 5 p < σ 5 q ∨ (σ 5 p = σ 5 q ∧ p < q)))) := by unfold ah_; rw [bo_]
theorem ah_r {σ : sg_T} {p : Nat} : ah_ σ p p = false := by
  cases h : ah_ σ p p with
  | false => rfl
  | true =>
    rw [ah_i] at h
    simp only [fa_lt] at h
    omega
theorem ah_t {σ : sg_T} {p q r : Nat} (h1 : ah_ σ p q = true) (h2 : ah_ σ q r = true) : ah_ σ p r = true := by
  rw [ah_i] at h1 h2 ⊢
  simp only [fa_lt, fa_eq] at h1 h2 ⊢
  omega
theorem ah_3 {σ : sg_T} {p q : Nat} (h : p ≠ q) : ah_ σ p q = true ∨ ah_ σ q p = true := by
  rw [ah_i, ah_i]
  simp only [fa_lt, fa_eq]
  omega
theorem cn_lt {P Q : Nat → Bool} : ∀ {n : Nat}, (∀ i, i < n → P i = true → Q i = true) → ∀ j, j < n → P j = false → Q j = true → cn_ P n < cn_ Q n
  | 0, _, j, hj, _, _ => absurd hj (Nat.not_lt_zero j)
  | n + 1, h, j, hj, h1, h2 => by
    have hm := cn_m (n := n) (fun i hi => h i (by omega))
    rcases Nat.lt_or_ge j n with q | q
    · have hl := cn_lt (n := n) (fun i hi => h i (by omega)) j q h1 h2
      show cn_ P n + (if P n = true then 1 else 0) < cn_ Q n + (if Q n = true then 1 else 0)
      by_cases hp : P n = true
      · rw [if_pos hp, if_pos (h n (by omega) hp)]; omega
      · rw [if_neg hp]; omega
    · have e : j = n := by omega
      subst e
      rw [cn_n (by rw [h1]; decide), cn_1 h2]
      omega
def pl_ (σ : sg_T) (n p : Nat) : Nat := cn_ (fun q => ah_ σ q p) n
theorem pl_i {σ : sg_T} {n p q : Nat} (hp : p < n) (hq : q < n) (h : pl_ σ n p = pl_ σ n q) : p = q := by
  by_cases e : p = q
  · exact e
  · exfalso
    rcases ah_3 (σ := σ) e with z | z
    · have := cn_lt (P := fun i => ah_ σ i p) (Q := fun i => ah_ σ i q) (n := n) (fun i _ hi => ah_t hi z) p hp ah_r z
      unfold pl_ at h; omega
    · have := cn_lt (P := fun i => ah_ σ i q) (Q := fun i => ah_ σ i p) (n := n) (fun i _ hi => ah_t hi z) q hq ah_r z
      unfold pl_ at h; omega
section Z
variable {n R pt : Nat} {σ μ : sg_T}
theorem z_ah (h : r5_ n R pt σ (μ 1)) {p q : Nat} (hp : p < n) (hq : q < n) : fX4_isAhead (nI p) (nI q) σ = some (if ah_ σ p q = true then 1 else 0) ∧ fX8_isBefore (nI p) (nI q) μ = some (if ah_ σ p q = true then 1 else 0) := by
  obtain ⟨hn, -⟩ := z_0 h
  have pp := h.2.2.2.2.1.1 p hp
  have pq := h.2.2.2.2.1.1 q hq
  have o1 := q_of (show p < 8 by omega) (j := 0) (by decide) μ
  have o2 := q_of (show q < 8 by omega) (j := 0) (by decide) μ
  have o3 := q_of (show p < 8 by omega) (j := 3) (by decide) μ
  have o4 := q_of (show q < 8 by omega) (j := 3) (by decide) μ
  rw [pp.1] at o1
  rw [pq.1] at o2
  rw [pp.2.2.2.1] at o3
  rw [pq.2.2.2.1] at o4
  have r : (if σ 2 p = σ 2 q then (if σ 5 p = σ 5 q then (if nI q ≤ nI p then (some (0 : Int32)) else some 1) else (if σ 5 q ≤ σ 5 p then some 0 else some 1)) else (if σ 2 p ≤ σ 2 q then some 0 else some 1)) = some (if ah_ σ p q = true then 1 else 0) := by
    by_cases q1 : σ 2 p = σ 2 q
    · rw [if_pos q1]
      by_cases q2 : σ 5 p = σ 5 q
      · rw [if_pos q2]
        by_cases q3 : nI q ≤ nI p
        · rw [if_pos q3, if_neg]
          rw [ah_i]; rw [nI_leI (by omega) (by omega)] at q3
          simp only [fa_lt, fa_eq] at q1 q2 ⊢
          omega
        · rw [if_neg q3, if_pos]
          rw [ah_i]; rw [nI_leI (by omega) (by omega)] at q3
          simp only [fa_lt, fa_eq] at q1 q2 ⊢
          omega
      · rw [if_neg q2]
        by_cases q3 : σ 5 q ≤ σ 5 p
        · rw [if_pos q3, if_neg]
          rw [ah_i]
          simp only [fa_lt, fa_eq, fa_le] at q1 q2 q3 ⊢
          omega
        · rw [if_neg q3, if_pos]
          rw [ah_i]
          simp only [fa_lt, fa_eq, fa_le] at q1 q2 q3 ⊢
          omega
    · rw [if_neg q1]
      by_cases q3 : σ 2 p ≤ σ 2 q
      · rw [if_pos q3, if_neg]
        rw [ah_i]
        simp only [fa_lt, fa_eq, fa_le] at q1 q3 ⊢
        omega
      · rw [if_neg q3, if_pos]
        rw [ah_i]
        simp only [fa_lt, fa_eq, fa_le] at q1 q3 ⊢
        omega
  constructor
  · unfold fX4_isAhead
    rw [ox_ (by omega) (by decide), ox_ (by omega) (by decide), cl_ (by omega), cl_ (by omega)]
    exact r
  · unfold fX8_isBefore
    simp only [show fX8_of (nI p) 0 μ = fX8_of (nI p) (nI 0) μ from rfl, show fX8_of (nI q) 0 μ = fX8_of (nI q) (nI 0) μ from rfl, show fX8_of (nI p) 3 μ = fX8_of (nI p) (nI 3) μ from rfl, show fX8_of (nI q) 3 μ = fX8_of (nI q) (nI 3) μ from rfl, ob_ o1, ob_ o2, ob_ o3, ob_ o4]
    exact r
theorem z_place (h : r5_ n R pt σ (μ 1)) {p : Nat} (hp : p < n) : fX4_placeOf (nI p) σ = some (nI (pl_ σ n p)) ∧ fX8_placeOf (nI p) μ = some (nI (pl_ σ n p)) := by
  obtain ⟨hn, e1, e2⟩ := z_0 h
  have key : ∀ d i f, i + d = n → d < f → lX4_placeOf_4 f (nI p) (nI (cn_ (fun q => ah_ σ q p) i)) (nI i) σ = some (nI (pl_ σ n p)) ∧ lX8_placeOf_4 f (nI p) (nI (cn_ (fun q => ah_ σ q p) i)) (nI i) μ = some (nI (pl_ σ n p)) := by
    intro d
    induction d with
    | zero =>
      intro i f hi hf
      obtain ⟨f, rfl⟩ : ∃ g, f = g + 1 := ⟨f - 1, by omega⟩
      have hi : i = n := by omega
      subst hi
      rw [lX4_placeOf_4, lX8_placeOf_4, show (4 : Int32).toNatClampNeg = 4 from rfl, e1, e2, if_pos ((nI_leI (by omega) (by omega)).mpr (Nat.le_refl i)), if_pos ((nI_leI (by omega) (by omega)).mpr (Nat.le_refl i))]
      exact ⟨rfl, rfl⟩
    | succ d ih =>
      intro i f hi hf
      obtain ⟨f, rfl⟩ : ∃ g, f = g + 1 := ⟨f - 1, by omega⟩
      have q0 : ¬ nI n ≤ nI i := by rw [nI_leI (by omega) (by omega)]; omega
      obtain ⟨r1, r2⟩ := z_ah h (show i < n by omega) hp
      obtain ⟨i1, i2⟩ := ih (i + 1) f (by omega) (by omega)
      rw [lX4_placeOf_4, lX8_placeOf_4, show (4 : Int32).toNatClampNeg = 4 from rfl, e1, e2, if_neg q0, if_neg q0, ob_ r1, ob_ r2, nI_1, nI_1, Int32.add_zero]
      by_cases q : ah_ σ i p = true
      · rw [cn_1 (P := fun q => ah_ σ q p) q] at i1 i2
        have z : ¬ nI i = nI p := by
          rw [nI_eq (by omega) (by omega)]
          intro e
          rw [e, ah_r] at q
          cases q
        rw [if_pos q, if_neg (by decide), if_neg z, if_neg (by decide)]
        exact ⟨i1, i2⟩
      · rw [cn_n (P := fun q => ah_ σ q p) q] at i1 i2
        rw [if_neg q, if_pos rfl, if_pos rfl]
        refine ⟨i1, ?_⟩
        by_cases z : nI i = nI p
        · rw [if_pos z]; exact i2
        · rw [if_neg z]; exact i2
  obtain ⟨k1, k2⟩ := key n 0 70 (by omega) (by omega)
  exact ⟨k1, k2⟩
theorem z_ranked (h : r5_ n R pt σ (μ 1)) (v : Int32) : ∃ r, fX4_playerAt v σ = some r ∧ fX8_ranked v μ = some r := by
  obtain ⟨hn, e1, e2⟩ := z_0 h
  have after : ∀ d i f a, i + d = n → d < f → a < i → nI (pl_ σ n a) = v → lX8_ranked_6 f v (nI a) (nI i) μ = some (nI a) := by
    intro d
    induction d with
    | zero =>
      intro i f a hi hf ha hv
      obtain ⟨f, rfl⟩ : ∃ g, f = g + 1 := ⟨f - 1, by omega⟩
      have hi : i = n := by omega
      subst hi
      rw [lX8_ranked_6, show (4 : Int32).toNatClampNeg = 4 from rfl, e2, if_pos ((nI_leI (by omega) (by omega)).mpr (Nat.le_refl i))]
    | succ d ih =>
      intro i f a hi hf ha hv
      obtain ⟨f, rfl⟩ : ∃ g, f = g + 1 := ⟨f - 1, by omega⟩
      have q0 : ¬ nI n ≤ nI i := by rw [nI_leI (by omega) (by omega)]; omega
      have c1 := cn_le (fun q => ah_ σ q a) n
      have c2 := cn_le (fun q => ah_ σ q i) n
      have z : ¬ nI (pl_ σ n i) = v := by
        intro e
        rw [← hv, nI_eq (by unfold pl_; omega) (by unfold pl_; omega)] at e
        have := pl_i (show i < n by omega) (show a < n by omega) e
        omega
      rw [lX8_ranked_6, show (4 : Int32).toNatClampNeg = 4 from rfl, e2, if_neg q0, ob_ (z_place h (show i < n by omega)).2, if_neg z, nI_1]
      exact ih (i + 1) f a (by omega) (by omega) (by omega) hv
  have key : ∀ d i f, i + d = n → d < f → ∃ r, lX4_playerAt_2 f v (nI i) σ = some r ∧ lX8_ranked_6 f v (-10001) (nI i) μ = some r := by
    intro d
    induction d with
    | zero =>
      intro i f hi hf
      obtain ⟨f, rfl⟩ : ∃ g, f = g + 1 := ⟨f - 1, by omega⟩
      have hi : i = n := by omega
      subst hi
      rw [lX4_playerAt_2, lX8_ranked_6, show (4 : Int32).toNatClampNeg = 4 from rfl, e1, e2, if_pos ((nI_leI (by omega) (by omega)).mpr (Nat.le_refl i)), if_pos ((nI_leI (by omega) (by omega)).mpr (Nat.le_refl i))]
      exact ⟨_, rfl, rfl⟩
    | succ d ih =>
      intro i f hi hf
      obtain ⟨f, rfl⟩ : ∃ g, f = g + 1 := ⟨f - 1, by omega⟩
      have q0 : ¬ nI n ≤ nI i := by rw [nI_leI (by omega) (by omega)]; omega
      obtain ⟨p1, p2⟩ := z_place h (show i < n by omega)
      rw [lX4_playerAt_2, lX8_ranked_6, show (4 : Int32).toNatClampNeg = 4 from rfl, e1, e2, if_neg q0, if_neg q0, ob_ p1, ob_ p2, nI_1]
      by_cases q : nI (pl_ σ n i) = v
      · rw [if_pos q, if_pos q]
        exact ⟨nI i, rfl, after d (i + 1) f i (by omega) (by omega) (by omega) q⟩
      · rw [if_neg q, if_neg q]
        exact ih (i + 1) f (by omega) (by omega)
  exact key n 0 70 (by omega) (by omega)
theorem z_next (h : r5_ n R pt σ (μ 1)) : ∃ r, fX4_seekerOfNextRound σ = some r ∧ fX8_nextSeeker μ = some r := by
  obtain ⟨hn, e1, e2⟩ := z_0 h
  have key : ∀ d i f (m : Int32), i + d = n → d < f → (m = NO ∨ ∃ t, t < i ∧ m = nI t) → ∃ r, lX4_seekerOfNextRound_6 f m (nI i) σ = some r ∧ lX8_nextSeeker_6 f m (nI i) μ = some r := by
    intro d
    induction d with
    | zero =>
      intro i f m hi hf hm
      obtain ⟨f, rfl⟩ : ∃ g, f = g + 1 := ⟨f - 1, by omega⟩
      have hi : i = n := by omega
      subst hi
      rw [lX4_seekerOfNextRound_6, lX8_nextSeeker_6, show (4 : Int32).toNatClampNeg = 4 from rfl, e1, e2, if_pos ((nI_leI (by omega) (by omega)).mpr (Nat.le_refl i)), if_pos ((nI_leI (by omega) (by omega)).mpr (Nat.le_refl i))]
      exact ⟨_, rfl, rfl⟩
    | succ d ih =>
      intro i f m hi hf hm
      obtain ⟨f, rfl⟩ : ∃ g, f = g + 1 := ⟨f - 1, by omega⟩
      have q0 : ¬ nI n ≤ nI i := by rw [nI_leI (by omega) (by omega)]; omega
      rw [lX4_seekerOfNextRound_6, lX8_nextSeeker_6, show (4 : Int32).toNatClampNeg = 4 from rfl, e1, e2, if_neg q0, if_neg q0, nI_1]
      rcases hm with rfl | ⟨t, ht, rfl⟩
      · have z : fX5_isPlayer NO σ = some 0 := by unfold fX5_isPlayer; rw [if_pos (by decide)]
        rw [ob_ z, if_pos rfl, if_pos rfl]
        exact ih (i + 1) f _ (by omega) (by omega) (Or.inr ⟨i, by omega, rfl⟩)
      · have z : ¬ nI t = -10006 := by
          rw [fa_eq, nI_toInt (by omega)]
          have : (-10006 : Int32).toInt = -10006 := by decide
          omega
        have o1 := q_of (show i < 8 by omega) (j := 1) (by decide) μ
        have o2 := q_of (show t < 8 by omega) (j := 1) (by decide) μ
        rw [(h.2.2.2.2.1.1 i (by omega)).2.1] at o1
        rw [(h.2.2.2.2.1.1 t (by omega)).2.1] at o2
        obtain ⟨b1, b2⟩ := z_ah h (show t < n by omega) (show i < n by omega)
        have ss : fX4_seeksSooner (nI i) (nI t) σ = (if σ 3 i = σ 3 t then some (if ah_ σ t i = true then 1 else 0) else (if σ 3 t ≤ σ 3 i then some 0 else some 1)) := by
          unfold fX4_seeksSooner
          rw [ox_ (by omega) (by decide), ox_ (by omega) (by decide), cl_ (by omega), cl_ (by omega), ob_ b1]
          by_cases q : ah_ σ t i = true
          · rw [if_pos q]; rfl
          · rw [if_neg q]; rfl
        rw [ob_ (z_isP h (show t < n by omega)), if_neg (by decide), if_neg z, ss]
        simp only [show fX8_of (nI i) 1 μ = fX8_of (nI i) (nI 1) μ from rfl, show fX8_of (nI t) 1 μ = fX8_of (nI t) (nI 1) μ from rfl, ob_ o1, ob_ o2, ob_ b2]
        have g1 := ih (i + 1) f (nI i) (by omega) (by omega) (Or.inr ⟨i, by omega, rfl⟩)
        have g2 := ih (i + 1) f (nI t) (by omega) (by omega) (Or.inr ⟨t, by omega, rfl⟩)
        by_cases q1 : σ 3 i = σ 3 t
        · have q2 : ¬ σ 3 i < σ 3 t := by rw [q1, fa_lt]; omega
          rw [if_pos q1, if_neg q2, if_pos q1]
          by_cases q3 : ah_ σ t i = true
          · rw [if_pos q3, Option.bind_some, if_neg (by decide), if_neg (by decide)]
            exact g1
          · rw [if_neg q3, Option.bind_some, if_pos rfl, if_pos rfl]
            exact g2
        · rw [if_neg q1]
          by_cases q2 : σ 3 t ≤ σ 3 i
          · have q3 : ¬ σ 3 i < σ 3 t := by rw [fa_lt]; rw [fa_le] at q2; omega
            rw [if_pos q2, if_neg q3, if_neg q1, Option.bind_some, if_pos rfl]
            exact g2
          · have q3 : σ 3 i < σ 3 t := fa_nle.mp q2
            rw [if_neg q2, if_pos q3, Option.bind_some, if_neg (by decide)]
            exact g1
  exact key n 0 70 NO (by omega) (by omega) (Or.inl rfl)
end Z
