/-! the fewest steps as the law tries them -/
theorem nr_2 : ∀ s, s < 16 → ∀ q, q ≤ 3 → ds s ((s + q) % 16) ≤ q ∧ ds s ((s + 16 - q) % 16) ≤ q := by decide +kernel
theorem nw_1 {a s q u d : Nat} (ha : a < 16) (hs : s < 16) (hq : q ≤ 3) (hd : d ≤ 40) (h : nd_ a q s u ≤ d) : ∃ j, j ≤ u + d ∧ ds s ((a + 64 + j - d) % 16) ≤ q := by
  obtain ⟨n1, n2⟩ := nr_2 s hs q hq
  unfold nd_ at h
  unfold wt_ at h
  by_cases c1 : ds a s ≤ q
  · refine ⟨d, by omega, ?_⟩
    rw [show (a + 64 + d - d) % 16 = a by omega, ds_c s hs a ha]
    exact c1
  · have dw := ds_w a s
    unfold wt_ at dw
    by_cases c2 : (s + 16 - a) % 16 ≤ q + u
    · refine ⟨d + (s + 16 - a) % 16 - q, by omega, ?_⟩
      rw [show (a + 64 + (d + (s + 16 - a) % 16 - q) - d) % 16 = (s + 16 - q) % 16 by omega]
      exact n2
    · rw [if_neg (by omega)] at h
      refine ⟨d - (16 - (s + 16 - a) % 16 - q), by omega, ?_⟩
      rw [show (a + 64 + (d - (16 - (s + 16 - a) % 16 - q)) - d) % 16 = (s + q) % 16 by omega]
      exact n1
theorem nw_0 {a s q u d : Nat} (ha : a < 16) (hs : s < 16) (hq : q ≤ 3) (hd : d ≤ 40) (h : ¬ nd_ a q s u ≤ d) {j : Nat} (hj : j ≤ u + d) : q < ds s ((a + 64 + j - d) % 16) := by
  unfold nd_ at h
  have dw := ds_w a s
  unfold wt_ at h dw
  by_cases c1 : ds a s ≤ q ∨ (s + 16 - a) % 16 ≤ q + u
  · rw [if_pos c1] at h; omega
  · rw [if_neg c1] at h
    unfold ds
    have e : ((a + 64 + j - d) % 16 + 16 - s) % 16 = (16 - (s + 16 - a) % 16 + (j + 16 - d)) % 16 := by omega
    rw [e]
    split <;> omega
def tp_ (w : Bool) (a f m : Nat) : Nat := if f < m then (if w = true then (a + 64 + 2 * f - m) % 16 else (a + 64 + m - 2 * f) % 16) else (if w = true then (a + 64 + m) % 16 else (a + 64 - m) % 16)
theorem tp_lt (w : Bool) (a f m : Nat) : tp_ w a f m < 16 := by unfold tp_; split <;> (split <;> omega)
def wu8 (w : Bool) (f g : Nat) : Nat := if w = true then f else g - f
def wd8 (w : Bool) (f g : Nat) : Nat := if w = true then g - f else f
theorem vw_ {a s q f g : Nat} (w : Bool) (ha : a < 16) (hs : s < 16) (hf : f < 17) (hg : g < 34) : (∃ m, m ≤ f + g ∧ ds (tp_ w a f m) s ≤ q) ↔ (∃ j, j ≤ wu8 w f g + wd8 w f g ∧ ds s ((a + 64 + j - wd8 w f g) % 16) ≤ q) := by
  have sw : ∀ x, x < 16 → ds x s = ds s x := fun x hx => ds_c x hx s hs
  cases w with
  | true =>
    unfold wu8 wd8
    rw [if_pos rfl, if_pos rfl]
    constructor
    · rintro ⟨m, hm, h⟩
      rw [sw _ (tp_lt _ _ _ _)] at h
      unfold tp_ at h
      rw [if_pos rfl, if_pos rfl] at h
      by_cases c : f < m
      · rw [if_pos c] at h
        refine ⟨2 * f + (g - f) - m, by omega, ?_⟩
        rw [show a + 64 + (2 * f + (g - f) - m) - (g - f) = a + 64 + 2 * f - m by omega]
        exact h
      · rw [if_neg c] at h
        refine ⟨m + (g - f), by omega, ?_⟩
        rw [show a + 64 + (m + (g - f)) - (g - f) = a + 64 + m by omega]
        exact h
    · rintro ⟨j, hj, h⟩
      by_cases c : g - f ≤ j
      · refine ⟨j - (g - f), by omega, ?_⟩
        rw [sw _ (tp_lt _ _ _ _)]
        unfold tp_
        rw [if_neg (by omega), if_pos rfl, show a + 64 + (j - (g - f)) = a + 64 + j - (g - f) by omega]
        exact h
      · refine ⟨2 * f + (g - f) - j, by omega, ?_⟩
        rw [sw _ (tp_lt _ _ _ _)]
        unfold tp_
        rw [if_pos (by omega), if_pos rfl, show a + 64 + 2 * f - (2 * f + (g - f) - j) = a + 64 + j - (g - f) by omega]
        exact h
  | false =>
    unfold wu8 wd8
    rw [if_neg (by decide), if_neg (by decide)]
    constructor
    · rintro ⟨m, hm, h⟩
      rw [sw _ (tp_lt _ _ _ _)] at h
      unfold tp_ at h
      rw [if_neg (show ¬ false = true by decide), if_neg (show ¬ false = true by decide)] at h
      by_cases c : f < m
      · rw [if_pos c] at h
        refine ⟨m - f, by omega, ?_⟩
        rw [show a + 64 + (m - f) - f = a + 64 + m - 2 * f by omega]
        exact h
      · rw [if_neg c] at h
        refine ⟨f - m, by omega, ?_⟩
        rw [show a + 64 + (f - m) - f = a + 64 - m by omega]
        exact h
    · rintro ⟨j, hj, h⟩
      by_cases c : j ≤ f
      · refine ⟨f - j, by omega, ?_⟩
        rw [sw _ (tp_lt _ _ _ _)]
        unfold tp_
        rw [if_neg (by omega), if_neg (by decide), show a + 64 - (f - j) = a + 64 + j - f by omega]
        exact h
      · refine ⟨j + f, by omega, ?_⟩
        rw [sw _ (tp_lt _ _ _ _)]
        unfold tp_
        rw [if_pos (by omega), if_neg (by decide), show a + 64 + (j + f) - 2 * f = a + 64 + j - f by omega]
        exact h
/-- all who hide are seen on this way -/
def va8 (σ : sg_T) (a q : Nat) (w : Bool) (f g : Nat) : Prop := ∀ k, k < 8 → σ 7 k = NO ∨ ∃ m, m ≤ f + g ∧ ds (tp_ w a f m) (σ 7 k).toNatClampNeg ≤ q
theorem Dn_i (σ : sg_T) (a q u d : Nat) : ∀ n, Dn_ σ a q u n ≤ d ↔ ∀ p, p < n → np_ σ a q u p ≤ d
  | 0 => ⟨fun _ p hp => absurd hp (Nat.not_lt_zero p), fun _ => Nat.zero_le d⟩
  | n + 1 => by
    have ih := Dn_i σ a q u d n
    show max (Dn_ σ a q u n) (np_ σ a q u n) ≤ d ↔ _
    constructor
    · intro h p hp
      rcases Nat.lt_or_ge p n with z | z
      · exact ih.mp (by omega) p z
      · have : p = n := by omega
        rw [this]; omega
    · intro h
      have h1 := ih.mpr (fun p hp => h p (by omega))
      have h2 := h n (by omega)
      omega
theorem va_w {n pt : Nat} {σ : sg_T} (hp : pq_ n pt σ) (hn : n ≤ 8) {a q f g : Nat} (w : Bool) (ha : a < 16) (hq : q ≤ 3) (hf : f < 17) (hg : g < 34) : va8 σ a q w f g ↔ Dn_ σ a q (wu8 w f g) n ≤ wd8 w f g := by
  have hd : wd8 w f g ≤ 40 := by unfold wd8; split <;> omega
  rw [Dn_i]
  constructor
  · intro h p hpn
    unfold np_
    rcases hq_0 hp (show p < 8 by omega) with ⟨z, -⟩ | ⟨s, s1, s2, e, z, -⟩
    · rw [if_pos z]; exact Nat.zero_le _
    · rw [if_neg z, e, cl_ (by omega)]
      rcases h p (by omega) with y | y
      · exact absurd y z
      · rw [e, cl_ (by omega)] at y
        obtain ⟨j, j1, j2⟩ := (vw_ w ha s2 hf hg).mp y
        refine Decidable.byContradiction (fun k => ?_)
        have := nw_0 ha s2 hq hd k j1
        omega
  · intro h p hp8
    rcases hq_0 hp hp8 with ⟨z, -⟩ | ⟨s, s1, s2, e, z, -⟩
    · exact Or.inl z
    · right
      rw [e, cl_ (by omega)]
      have hpn : p < n := by
        rcases Nat.lt_or_ge p n with y | y
        · exact y
        · exact absurd (hp.2.1 p y hp8).2.2.2.2.2 z
      have k := h p hpn
      unfold np_ at k
      rw [if_neg z, e, cl_ (by omega)] at k
      exact (vw_ w ha s2 hf hg).mpr (nw_1 ha s2 hq hd k)
theorem fm_i (σ : sg_T) (a q n b : Nat) : ∀ u, (∀ v, v < u → fm_ σ a q n b u ≤ co_ v (Dn_ σ a q v n)) ∧ fm_ σ a q n b u ≤ b ∧ (fm_ σ a q n b u = b ∨ ∃ v, v < u ∧ fm_ σ a q n b u = co_ v (Dn_ σ a q v n))
  | 0 => ⟨fun v hv => absurd hv (Nat.not_lt_zero v), Nat.le_refl b, Or.inl rfl⟩
  | u + 1 => by
    obtain ⟨h1, h2, h3⟩ := fm_i σ a q n b u
    have e : fm_ σ a q n b (u + 1) = min (fm_ σ a q n b u) (co_ u (Dn_ σ a q u n)) := rfl
    refine ⟨fun v hv => ?_, by omega, ?_⟩
    · rcases Nat.lt_or_ge v u with z | z
      · have := h1 v z; omega
      · have : v = u := by omega
        rw [this]; omega
    · rcases Nat.le_total (fm_ σ a q n b u) (co_ u (Dn_ σ a q u n)) with z | z
      · rcases h3 with h3 | ⟨v, v1, v2⟩
        · left; omega
        · right; exact ⟨v, by omega, by omega⟩
      · right; exact ⟨u, by omega, by omega⟩
theorem fm_15 (σ : sg_T) (a q n : Nat) : fm_ σ a q n 16 16 ≤ 15 := by
  have := (fm_i σ a q n 16 16).1 15 (by decide)
  rw [Dn_15, show co_ 15 0 = 15 from rfl] at this
  exact this
/-- the least over the law's ways is the class's -/
theorem lv_1 {n pt : Nat} {σ : sg_T} (hp : pq_ n pt σ) (hn : n ≤ 8) {a q f g : Nat} (w : Bool) (ha : a < 16) (hq : q ≤ 3) (hf : f < 17) (hg : g < 34) (h : va8 σ a q w f g) : fm_ σ a q n 16 16 ≤ f + g := by
  have h := (va_w hp hn w ha hq hf hg).mp h
  obtain ⟨h1, h2, -⟩ := fm_i σ a q n 16 16
  cases w with
  | true =>
    unfold wu8 wd8 at h
    rw [if_pos rfl, if_pos rfl] at h
    by_cases c : f < 16
    · have := h1 f c
      unfold co_ at this
      omega
    · omega
  | false =>
    unfold wu8 wd8 at h
    rw [if_neg (by decide), if_neg (by decide)] at h
    by_cases c : g - f < 16
    · have := h1 (g - f) c
      unfold co_ at this
      omega
    · omega
theorem lv_2 {n pt : Nat} {σ : sg_T} (hp : pq_ n pt σ) (hn : n ≤ 8) {a q : Nat} (ha : a < 16) (hq : q ≤ 3) : ∃ w f g, f < 17 ∧ g < 34 ∧ va8 σ a q w f g ∧ f + g = fm_ σ a q n 16 16 := by
  have h15 := fm_15 σ a q n
  obtain ⟨-, -, h3⟩ := fm_i σ a q n 16 16
  rcases h3 with h3 | ⟨v, v1, v2⟩
  · omega
  · unfold co_ at v2
    have hD := Dn_le σ a q v v1 n
    by_cases c0 : Dn_ σ a q v n = 0
    · refine ⟨true, v, 0, by omega, by omega, (va_w hp hn true ha hq (by omega) (by omega)).mpr ?_, by omega⟩
      unfold wu8 wd8
      rw [if_pos rfl, if_pos rfl]
      omega
    · by_cases c : v ≤ Dn_ σ a q v n
      · refine ⟨true, v, v + Dn_ σ a q v n, by omega, by omega, (va_w hp hn true ha hq (by omega) (by omega)).mpr ?_, by omega⟩
        unfold wu8 wd8
        rw [if_pos rfl, if_pos rfl]
        omega
      · refine ⟨false, Dn_ σ a q v n, Dn_ σ a q v n + v, by omega, by omega, (va_w hp hn false ha hq (by omega) (by omega)).mpr ?_, by omega⟩
        unfold wu8 wd8
        rw [if_neg (by decide), if_neg (by decide), show Dn_ σ a q v n + v - Dn_ σ a q v n = v by omega]
        omega
