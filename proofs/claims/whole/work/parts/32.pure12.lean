/-! the fewest steps, the model -/
def ps_ (a j d : Nat) : Nat := (a + j + 32 - d) % 16
theorem md_ : ∀ x, x < 96 → nI x - nI x / 16 * 16 = nI (x % 16) := by decide +kernel
theorem jd_ {a j d : Nat} (hd : d < 16) : nI a + (nI j - nI d) + 32 = nI (a + j + 32 - d) := by
  rw [show (32 : Int32) = nI 32 from rfl, ← nI_sub' (show d ≤ a + j + 32 by omega), ← nI_add, ← nI_add]
  rw [Int32.sub_eq_add_neg, Int32.sub_eq_add_neg, Int32.add_assoc, Int32.add_assoc, Int32.add_assoc, Int32.add_assoc]
  congr 2
  exact Int32.add_comm _ _
theorem jd1 (j d : Nat) : nI j - nI d + 1 = nI (j + 1) - nI d := by
  rw [← nI_1, Int32.sub_eq_add_neg, Int32.sub_eq_add_neg, Int32.add_assoc, Int32.add_assoc]
  congr 1
  exact Int32.add_comm _ _
theorem jd0 (d : Nat) : -(nI d) = nI 0 - nI d := by
  rw [Int32.sub_eq_add_neg, show nI 0 = 0 from rfl, Int32.zero_add]
theorem jd2 {u j d : Nat} (hu : u < 16) (hd : d < 16) (hj : j < 64) : (nI u < nI j - nI d ↔ u + d < j) := by
  rw [fa_lt, nI_toInt (by omega)]
  have e : (nI j - nI d).toInt = (j : Int) - d := by
    by_cases q : d ≤ j
    · rw [nI_sub' q, nI_toInt (by omega)]; omega
    · have : nI j - nI d = -(nI (d - j)) := by
        rw [← nI_sub' (show j ≤ d by omega), Int32.neg_sub]
      rw [this, Int32.toInt_neg, nI_toInt (by omega)]
      have : (-((d - j : Nat) : Int)).bmod (2 ^ 32) = -((d - j : Nat) : Int) := by
        apply Int.bmod_eq_of_le <;> omega
      rw [this]; omega
  rw [e]; omega
/-- near enough -/
theorem nr_2 : ∀ s, s < 16 → ∀ q, q ≤ 3 → ds s ((s + q) % 16) ≤ q ∧ ds s ((s + 16 - q) % 16) ≤ q := by decide +kernel
theorem nr_1 {a s q u d : Nat} (ha : a < 16) (hs : s < 16) (hq : q ≤ 3) (hud : u + d < 16) (h : nd_ a q s u ≤ d) : ∃ j, j ≤ u + d ∧ ds s (ps_ a j d) ≤ q := by
  obtain ⟨n1, n2⟩ := nr_2 s hs q hq
  unfold nd_ at h
  unfold ps_
  unfold wt_ at h
  by_cases c1 : ds a s ≤ q
  · refine ⟨d, by omega, ?_⟩
    rw [show (a + d + 32 - d) % 16 = a by omega, ds_c s hs a ha]
    exact c1
  · have dw := ds_w a s
    unfold wt_ at dw
    by_cases c2 : (s + 16 - a) % 16 ≤ q + u
    · refine ⟨d + (s + 16 - a) % 16 - q, by omega, ?_⟩
      rw [show (a + (d + (s + 16 - a) % 16 - q) + 32 - d) % 16 = (s + 16 - q) % 16 by omega]
      exact n2
    · rw [if_neg (by omega)] at h
      refine ⟨d - (16 - (s + 16 - a) % 16 - q), by omega, ?_⟩
      rw [show (a + (d - (16 - (s + 16 - a) % 16 - q)) + 32 - d) % 16 = (s + q) % 16 by omega]
      exact n1
theorem nr_0 {a s q u d : Nat} (ha : a < 16) (hs : s < 16) (hq : q ≤ 3) (hud : u + d < 16) (h : ¬ nd_ a q s u ≤ d) {j : Nat} (hj : j ≤ u + d) : q < ds s (ps_ a j d) := by
  unfold nd_ at h
  have dw := ds_w a s
  unfold wt_ at h dw
  by_cases c1 : ds a s ≤ q ∨ (s + 16 - a) % 16 ≤ q + u
  · rw [if_pos c1] at h; omega
  · rw [if_neg c1] at h
    unfold ds ps_
    have e : ((a + j + 32 - d) % 16 + 16 - s) % 16 = (16 - (s + 16 - a) % 16 + (j + 16 - d)) % 16 := by omega
    rw [e]
    split <;> omega
section Z
variable {n R pt : Nat} {σ μ : sg_T}
theorem z_saL {a q u d p s : Nat} (ha : a < 16) (hq : q ≤ 3) (hud : u + d < 16) (hs : s < 16) (hp : p < 8) (a2 : μ 1 9 = nI a) (q2 : μ 1 0 = nI q) (e : μ 1 (12 + 6 * p + 5) = nI s) (a3 : Int32) : ∀ k j f, j + k = u + d + 1 → k < f → ∀ fl : Int32, (fl = 0 ∨ fl = 1) → ∃ (g : Int32) (c : Int32), (g = 0 ∨ g = 1) ∧ (g = 1 ↔ fl = 1 ∨ ∃ i, j ≤ i ∧ i ≤ u + d ∧ ds s (ps_ a i d) ≤ q) ∧ lX8_seesAll_40 f (nI u) (nI d) a3 (nI p) fl (nI j - nI d) μ = some (nI u, nI d, a3, nI p, g, c) := by
  intro k
  induction k with
  | zero =>
    intro j f hj hf fl hfl
    obtain ⟨f, rfl⟩ : ∃ g, f = g + 1 := ⟨f - 1, by omega⟩
    refine ⟨fl, nI j - nI d, hfl, ⟨Or.inl, fun h => h.elim id (fun ⟨i, h1, h2, _⟩ => by omega)⟩, ?_⟩
    rw [lX8_seesAll_40, if_pos ((jd2 (by omega) (by omega) (by omega)).mpr (by omega))]
  | succ k ih =>
    intro j f hj hf fl hfl
    obtain ⟨f, rfl⟩ : ∃ g, f = g + 1 := ⟨f - 1, by omega⟩
    rw [lX8_seesAll_40, if_neg (fun z => by have := (jd2 (by omega) (by omega) (by omega)).mp z; omega), jd1]
    rcases hfl with rfl | rfl
    · rw [if_pos p00, show fX8_of (nI p) 5 μ = fX8_of (nI p) (nI 5) μ from rfl, ob_ (q_of hp (by decide) μ), e, show (9 : Int32).toNatClampNeg = 9 from rfl, show (0 : Int32).toNatClampNeg = 0 from rfl, a2, q2, jd_ (by omega), md_ _ (by omega)]
      have hx : (a + j + 32 - d) % 16 < 16 := by omega
      rw [ob_ (q_dist s hs _ hx)]
      have d8 := ds_8 s hs _ hx
      by_cases c : nI q < nI (ds s ((a + j + 32 - d) % 16))
      · rw [if_pos c]
        obtain ⟨g, c', g1, g2, g3⟩ := ih (j + 1) f (by omega) (by omega) 0 (Or.inl rfl)
        rw [nI_ltI (by omega) (by omega)] at c
        refine ⟨g, c', g1, ⟨fun z => ?_, fun z => ?_⟩, g3⟩
        · rcases g2.mp z with z | ⟨i, i1, i2, i3⟩
          · exact Or.inl z
          · exact Or.inr ⟨i, by omega, i2, i3⟩
        · rcases z with z | ⟨i, i1, i2, i3⟩
          · exact absurd z.symm n10
          · refine g2.mpr (Or.inr ⟨i, ?_, i2, i3⟩)
            by_cases z : i = j
            · subst z
              unfold ps_ at i3
              omega
            · omega
      · rw [if_neg c]
        obtain ⟨g, c', g1, g2, g3⟩ := ih (j + 1) f (by omega) (by omega) 1 (Or.inr rfl)
        rw [nI_ltI (by omega) (by omega)] at c
        refine ⟨g, c', g1, ⟨fun z => Or.inr ⟨j, Nat.le_refl _, by omega, by unfold ps_; omega⟩, fun z => g2.mpr (Or.inl rfl)⟩, g3⟩
    · rw [if_neg n10]
      obtain ⟨g, c', g1, g2, g3⟩ := ih (j + 1) f (by omega) (by omega) 1 (Or.inr rfl)
      exact ⟨g, c', g1, ⟨fun z => Or.inl rfl, fun z => g2.mpr (Or.inl rfl)⟩, g3⟩
/-- whoever is not hidden -/
theorem z_saN {u d : Nat} (hud : u + d < 16) (a3 p : Int32) : ∀ k j f, j + k = u + d + 1 → k < f → ∃ c : Int32, lX8_seesAll_40 f (nI u) (nI d) a3 p 1 (nI j - nI d) μ = some (nI u, nI d, a3, p, 1, c) := by
  intro k
  induction k with
  | zero =>
    intro j f hj hf
    obtain ⟨f, rfl⟩ : ∃ g, f = g + 1 := ⟨f - 1, by omega⟩
    refine ⟨nI j - nI d, ?_⟩
    rw [lX8_seesAll_40, if_pos ((jd2 (by omega) (by omega) (by omega)).mpr (by omega))]
  | succ k ih =>
    intro j f hj hf
    obtain ⟨f, rfl⟩ : ∃ g, f = g + 1 := ⟨f - 1, by omega⟩
    rw [lX8_seesAll_40, if_neg (fun z => by have := (jd2 (by omega) (by omega) (by omega)).mp z; omega), jd1, if_neg n10]
    exact ih (j + 1) f (by omega) (by omega)
theorem z_sa (h : r5_ n R pt σ (μ 1)) {a q u d : Nat} (ha : a < 16) (hq : q ≤ 3) (hud : u + d < 16) (a2 : μ 1 9 = nI a) (q2 : μ 1 0 = nI q) : ∃ g : Int32, (g = 0 ∨ g = 1) ∧ (g = 1 ↔ Dn_ σ a q u n ≤ d) ∧ fX8_seesAll (nI u) (nI d) μ = some g := by
  obtain ⟨hn, f1, f2⟩ := z_0 h
  unfold fX8_seesAll
  have key : ∀ k i f, i + k = n → k < f → ∀ fl : Int32, (fl = 0 ∨ fl = 1) → (fl = 1 ↔ Dn_ σ a q u i ≤ d) → ∃ g : Int32, (g = 0 ∨ g = 1) ∧ (g = 1 ↔ Dn_ σ a q u n ≤ d) ∧ lX8_seesAll_5 f (nI u) (nI d) fl (nI i) μ = some g := by
    intro k
    induction k with
    | zero =>
      intro i f hi hf fl hfl hfl2
      obtain ⟨f, rfl⟩ : ∃ g, f = g + 1 := ⟨f - 1, by omega⟩
      have hi : i = n := by omega
      subst hi
      refine ⟨fl, hfl, hfl2, ?_⟩
      rw [lX8_seesAll_5, show (4 : Int32).toNatClampNeg = 4 from rfl, f2, if_pos (Int32.le_refl _), ok_ hfl]
    | succ k ih =>
      intro i f hi hf fl hfl hfl2
      obtain ⟨f, rfl⟩ : ∃ g, f = g + 1 := ⟨f - 1, by omega⟩
      have q0 : ¬ nI n ≤ nI i := by rw [nI_leI (by omega) (by omega)]; omega
      have e0 : Dn_ σ a q u (i + 1) = max (Dn_ σ a q u i) (np_ σ a q u i) := rfl
      rw [lX8_seesAll_5, show (4 : Int32).toNatClampNeg = 4 from rfl, f2, if_neg q0, show fX8_of (nI i) 5 μ = fX8_of (nI i) (nI 5) μ from rfl, ob_ (q_of (show i < 8 by omega) (by decide) μ), z_h h (show i < n by omega), jd0]
      by_cases c1 : σ 7 i = NO
      · rw [if_pos c1]
        obtain ⟨c, hc⟩ := z_saN (μ := μ) hud fl (nI i) (u + d + 1) 0 70 (by omega) (by omega)
        rw [ob_ hc]
        have e1 : np_ σ a q u i = 0 := if_pos c1
        simp only [if_neg n10, nI_1]
        rcases hfl with rfl | rfl
        · rw [if_pos p00]
          exact ih (i + 1) f (by omega) (by omega) 0 (Or.inl rfl) (by rw [e0, e1, Nat.max_eq_left (Nat.zero_le _)]; exact hfl2)
        · rw [if_neg n10]
          exact ih (i + 1) f (by omega) (by omega) 1 (Or.inr rfl) (by rw [e0, e1, Nat.max_eq_left (Nat.zero_le _)]; exact hfl2)
      · rcases h.2.2.2.2.1.2.1 i (by omega) with z | ⟨s, hs1, hs2, e⟩
        · exact absurd z c1
        · have e1 : np_ σ a q u i = nd_ a q s u := by
            unfold np_
            rw [if_neg c1, e, cl_ (by omega)]
          have e2 : μ 1 (12 + 6 * i + 5) = nI s := (z_h h (show i < n by omega)).trans e
          obtain ⟨g, c, g1, g2, g3⟩ := z_saL ha hq hud hs2 (show i < 8 by omega) a2 q2 e2 fl (u + d + 1) 0 70 (by omega) (by omega) 0 (Or.inl rfl)
          have g4 : g = 1 ↔ nd_ a q s u ≤ d := by
            refine g2.trans ⟨fun z => ?_, fun z => ?_⟩
            · rcases z with z | ⟨i', i1, i2, i3⟩
              · exact absurd z.symm n10
              · by_cases w : nd_ a q s u ≤ d
                · exact w
                · have := nr_0 ha hs2 hq hud w i2
                  omega
            · obtain ⟨i', i1, i2⟩ := nr_1 ha hs2 hq hud z
              exact Or.inr ⟨i', Nat.zero_le _, i1, i2⟩
          rw [if_neg c1, ob_ g3]
          simp only [nI_1]
          rcases hfl with rfl | rfl
          · rw [if_pos p00]
            exact ih (i + 1) f (by omega) (by omega) 0 (Or.inl rfl) ⟨fun z => absurd z.symm n10, fun z => by rw [e0] at z; exact hfl2.mpr (by omega)⟩
          · have d1 := hfl2.mp rfl
            rw [if_neg n10]
            rcases g1 with rfl | rfl
            · rw [if_pos p00]
              exact ih (i + 1) f (by omega) (by omega) 0 (Or.inl rfl) ⟨fun z => absurd z.symm n10, fun z => by rw [e0, e1] at z; exact g4.mpr (by omega)⟩
            · rw [if_neg n10]
              have d2 := g4.mp rfl
              exact ih (i + 1) f (by omega) (by omega) 1 (Or.inr rfl) ⟨fun _ => by rw [e0, e1]; omega, fun _ => rfl⟩
  exact key n 0 70 (by omega) (by omega) 1 (Or.inr rfl) ⟨fun _ => Nat.zero_le _, fun _ => rfl⟩
end Z
