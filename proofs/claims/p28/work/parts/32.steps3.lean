/-! the law's steps, its loops -/
def wy8 (w : Bool) : Int32 := if w = true then 1 else -1
theorem ad_ {x y : Int32} (h1 : -1000000 ≤ x.toInt) (h2 : x.toInt ≤ 1000000) (h3 : -1000000 ≤ y.toInt) (h4 : y.toInt ≤ 1000000) : (x + y).toInt = x.toInt + y.toInt := by
  rw [Int32.toInt_add]
  exact Int.bmod_eq_of_le (by omega) (by omega)
theorem mu1 {x : Int32} (h1 : -1000000 ≤ x.toInt) (h2 : x.toInt ≤ 1000000) (w : Bool) : (wy8 w * x).toInt = if w = true then x.toInt else -x.toInt := by
  unfold wy8
  cases w with
  | true =>
    rw [if_pos rfl, if_pos rfl, Int32.toInt_mul, show (1 : Int32).toInt = 1 by decide, Int.one_mul]
    exact Int.bmod_eq_of_le (by omega) (by omega)
  | false =>
    rw [if_neg (by decide), if_neg (by decide), Int32.toInt_mul, show (-1 : Int32).toInt = -1 by decide, Int.neg_one_mul]
    exact Int.bmod_eq_of_le (by omega) (by omega)
theorem rm16 {x : Int32} {N : Nat} (hN : N < 1000) (h : x.toInt = N) : x - x / (16 : Int32) * (16 : Int32) = nI (N % 16) := by
  have e : x = nI N := by rw [fa_eq, nI_toInt (by omega)]; exact h
  rw [e]
  exact pk_rem (by omega) (by decide) (by decide)
theorem tp_e {a f m : Nat} (w : Bool) (ha : a < 16) (hf : f < 17) (hm : m ≤ 50) : ∃ x : Int32, (if nI f < nI m then (some (wy8 w * (nI f - (nI m - nI f)))) else (some (wy8 w * nI m))) = some x ∧ (((nI a + x) + (64 : Int32)) - ((nI a + x) + (64 : Int32)) / (16 : Int32) * (16 : Int32)) = nI (tp_ w a f m) := by
  have t64 : (64 : Int32).toInt = 64 := by decide
  have ta : (nI a).toInt = a := nI_toInt (by omega)
  have tm : (nI m).toInt = m := nI_toInt (by omega)
  have tf : (nI f).toInt = f := nI_toInt (by omega)
  unfold tp_
  by_cases c : f < m
  · have s1 : (nI m - nI f).toInt = (m : Int) - f := pk_sub_toInt (by omega) (by omega)
    have s2 : (nI f - (nI m - nI f)).toInt = 2 * (f : Int) - m := by
      rw [su_ (B := 1000000) (by omega) (by omega) (by omega) (by omega) (by omega), s1, tf]; omega
    have s3 := mu1 (x := nI f - (nI m - nI f)) (by omega) (by omega) w
    refine ⟨_, if_pos ((nI_ltI (by omega) (by omega)).mpr c), ?_⟩
    rw [if_pos c]
    cases w with
    | true =>
      rw [if_pos rfl] at s3
      rw [if_pos rfl]
      refine rm16 (by omega) ?_
      rw [ad_ (by rw [ad_ (by omega) (by omega) (by omega) (by omega)]; omega) (by rw [ad_ (by omega) (by omega) (by omega) (by omega)]; omega) (by omega) (by omega), ad_ (by omega) (by omega) (by omega) (by omega), s3, s2, ta, t64]
      omega
    | false =>
      rw [if_neg (by decide)] at s3
      rw [if_neg (by decide)]
      refine rm16 (by omega) ?_
      rw [ad_ (by rw [ad_ (by omega) (by omega) (by omega) (by omega)]; omega) (by rw [ad_ (by omega) (by omega) (by omega) (by omega)]; omega) (by omega) (by omega), ad_ (by omega) (by omega) (by omega) (by omega), s3, s2, ta, t64]
      omega
  · have s3 := mu1 (x := nI m) (by omega) (by omega) w
    refine ⟨_, if_neg (fun z => c ((nI_ltI (by omega) (by omega)).mp z)), ?_⟩
    rw [if_neg c]
    cases w with
    | true =>
      rw [if_pos rfl] at s3
      rw [if_pos rfl]
      refine rm16 (by omega) ?_
      rw [ad_ (by rw [ad_ (by omega) (by omega) (by omega) (by omega)]; omega) (by rw [ad_ (by omega) (by omega) (by omega) (by omega)]; omega) (by omega) (by omega), ad_ (by omega) (by omega) (by omega) (by omega), s3, tm, ta, t64]
      omega
    | false =>
      rw [if_neg (by decide)] at s3
      rw [if_neg (by decide)]
      refine rm16 (by omega) ?_
      rw [ad_ (by rw [ad_ (by omega) (by omega) (by omega) (by omega)]; omega) (by rw [ad_ (by omega) (by omega) (by omega) (by omega)]; omega) (by omega) (by omega), ad_ (by omega) (by omega) (by omega) (by omega), s3, tm, ta, t64]
      omega
section Z
variable {n R pt : Nat} {σ Ω : sg_T}
theorem g_65 {a q f g k s : Nat} (w : Bool) (ha : a < 16) (hq : q ≤ 3) (hf : f < 17) (hg : g < 34) (hk : k < 8) (hs : s < 16) (a9 : Ω 4 9 = nI a) (q0 : Ω 4 0 = nI q) (e : Ω 1 (6 * k + 5) = nI s) (a2 a6 : Int32) : ∀ d j F, j + d = f + g + 1 → d < F → ∀ fl : Int32, (fl = 0 ∨ fl = 1) → ∃ r : Int32, (r = 0 ∨ r = 1) ∧ (r = 1 ↔ fl = 1 ∨ ∃ m, j ≤ m ∧ m ≤ f + g ∧ ds (tp_ w a f m) s ≤ q) ∧ lL_steps_65 F a2 (wy8 w) (nI f) (nI g) a6 (nI k) fl (nI j) Ω = some r := by
  intro d
  induction d with
  | zero =>
    intro j F hj hF fl hfl
    obtain ⟨F, rfl⟩ : ∃ g, F = g + 1 := ⟨F - 1, by omega⟩
    refine ⟨fl, hfl, ⟨Or.inl, fun z => z.elim id (fun ⟨m, m1, m2, _⟩ => by omega)⟩, ?_⟩
    rw [lL_steps_65, nI_add, if_pos ((nI_ltI (by omega) (by omega)).mpr (by omega))]
  | succ d ih =>
    intro j F hj hF fl hfl
    obtain ⟨F, rfl⟩ : ∃ g, F = g + 1 := ⟨F - 1, by omega⟩
    obtain ⟨x, x1, x2⟩ := tp_e (m := j) w ha hf (by omega)
    rw [lL_steps_65, nI_add, if_neg (fun z => by have := (nI_ltI (by omega) (by omega)).mp z; omega), ob_ x1, nI_1]
    rcases hfl with rfl | rfl
    · have tl := tp_lt w a f j
      have d8 := ds_8 _ tl s hs
      rw [if_pos p00, o6_5 hk, k_9, k_0, a9, q0, c6_5 hk, e, x2, ob_ (a_ap _ tl s hs)]
      by_cases c : nI q < nI (ds (tp_ w a f j) s)
      · rw [if_pos c, Option.bind_some]
        rw [nI_ltI (by omega) (by omega)] at c
        obtain ⟨r, r1, r2, r3⟩ := ih (j + 1) F (by omega) (by omega) 0 (Or.inl rfl)
        refine ⟨r, r1, ⟨fun z => ?_, fun z => ?_⟩, r3⟩
        · rcases r2.mp z with y | ⟨m, m1, m2, m3⟩
          · exact Or.inl y
          · exact Or.inr ⟨m, by omega, m2, m3⟩
        · rcases z with y | ⟨m, m1, m2, m3⟩
          · exact absurd y.symm n10
          · refine r2.mpr (Or.inr ⟨m, ?_, m2, m3⟩)
            by_cases z : m = j
            · subst z; omega
            · omega
      · rw [if_neg c, Option.bind_some]
        rw [nI_ltI (by omega) (by omega)] at c
        obtain ⟨r, r1, r2, r3⟩ := ih (j + 1) F (by omega) (by omega) 1 (Or.inr rfl)
        exact ⟨r, r1, ⟨fun _ => Or.inr ⟨j, Nat.le_refl _, by omega, by omega⟩, fun _ => r2.mpr (Or.inl rfl)⟩, r3⟩
    · rw [if_neg n10, Option.bind_some]
      obtain ⟨r, r1, r2, r3⟩ := ih (j + 1) F (by omega) (by omega) 1 (Or.inr rfl)
      exact ⟨r, r1, ⟨fun _ => Or.inl rfl, fun _ => r2.mpr (Or.inl rfl)⟩, r3⟩
theorem g_65N {a f g : Nat} (w : Bool) (ha : a < 16) (hf : f < 17) (hg : g < 34) (a2 a6 a7 : Int32) : ∀ d j F, j + d = f + g + 1 → d < F → lL_steps_65 F a2 (wy8 w) (nI f) (nI g) a6 a7 1 (nI j) Ω = some 1 := by
  intro d
  induction d with
  | zero =>
    intro j F hj hF
    obtain ⟨F, rfl⟩ : ∃ g, F = g + 1 := ⟨F - 1, by omega⟩
    rw [lL_steps_65, nI_add, if_pos ((nI_ltI (by omega) (by omega)).mpr (by omega))]
  | succ d ih =>
    intro j F hj hF
    obtain ⟨F, rfl⟩ : ∃ g, F = g + 1 := ⟨F - 1, by omega⟩
    obtain ⟨x, x1, x2⟩ := tp_e (m := j) w ha hf (by omega)
    rw [lL_steps_65, nI_add, if_neg (fun z => by have := (nI_ltI (by omega) (by omega)).mp z; omega), ob_ x1, if_neg n10, Option.bind_some, nI_1]
    exact ih (j + 1) F (by omega) (by omega)
theorem g_36 (hp : pq_ n pt σ) (h2 : m2_ σ Ω) {a q f g : Nat} (w : Bool) (ha : a < 16) (hq : q ≤ 3) (hf : f < 17) (hg : g < 34) (a9 : Ω 4 9 = nI a) (q0 : Ω 4 0 = nI q) (a2 : Int32) : ∀ d i F, i + d = 8 → d < F → ∀ fl : Int32, (fl = 0 ∨ fl = 1) → ∃ r : Int32, (r = 0 ∨ r = 1) ∧ (r = 1 ↔ fl = 1 ∧ ∀ k, i ≤ k → k < 8 → (σ 7 k = NO ∨ ∃ m, m ≤ f + g ∧ ds (tp_ w a f m) (σ 7 k).toNatClampNeg ≤ q)) ∧ lL_steps_36 F a2 (wy8 w) (nI f) (nI g) fl (nI i) Ω = some r := by
  intro d
  induction d with
  | zero =>
    intro i F hi hF fl hfl
    obtain ⟨F, rfl⟩ : ∃ g, F = g + 1 := ⟨F - 1, by omega⟩
    have hi : i = 8 := by omega
    subst hi
    refine ⟨fl, hfl, ⟨fun z => ⟨z, fun k k1 k2 => by omega⟩, fun z => z.1⟩, ?_⟩
    rw [lL_steps_36, if_pos (show (8 : Int32) ≤ nI 8 by decide)]
  | succ d ih =>
    intro i F hi hF fl hfl
    obtain ⟨F, rfl⟩ : ∃ g, F = g + 1 := ⟨F - 1, by omega⟩
    have hi8 : i < 8 := by omega
    have seen : ∃ r : Int32, (r = 0 ∨ r = 1) ∧ (r = 1 ↔ (σ 7 i = NO ∨ ∃ m, m ≤ f + g ∧ ds (tp_ w a f m) (σ 7 i).toNatClampNeg ≤ q)) ∧ ((if 0 ≤ Ω 1 (6 * i + 5) then (some (0 : Int32)) else (some (1 : Int32))).bind fun q_7 => lL_steps_65 70 a2 (wy8 w) (nI f) (nI g) fl (nI i) q_7 0 Ω) = some r := by
      rcases hq_0 hp hi8 with ⟨z, y⟩ | ⟨s, s1, s2, e, z, y⟩
      · refine ⟨1, Or.inr rfl, ⟨fun _ => Or.inl z, fun _ => rfl⟩, ?_⟩
        rw [h2 i hi8, y, if_neg (by decide), Option.bind_some]
        exact g_65N w ha hf hg _ _ _ (f + g + 1) 0 70 (by omega) (by omega)
      · have eo : Ω 1 (6 * i + 5) = nI s := (h2 i hi8).trans y
        obtain ⟨r, r1, r2, r3⟩ := g_65 w ha hq hf hg hi8 s2 a9 q0 eo a2 fl (f + g + 1) 0 70 (by omega) (by omega) 0 (Or.inl rfl)
        refine ⟨r, r1, ?_, ?_⟩
        · rw [r2, e, cl_ (by omega)]
          constructor
          · rintro (x | ⟨m, _, m2, m3⟩)
            · exact absurd x.symm n10
            · exact Or.inr ⟨m, m2, m3⟩
          · rintro (x | ⟨m, m2, m3⟩)
            · exact absurd x (nI_NO (by omega))
            · exact Or.inr ⟨m, Nat.zero_le _, m2, m3⟩
        · rw [eo, if_pos (nI_pos' (by omega)), Option.bind_some]
          exact r3
    obtain ⟨r, r1, r2, r3⟩ := seen
    obtain ⟨v, v1, v2⟩ := o_bh r3
    have fl2 : ∃ fl2 : Int32, (fl2 = 0 ∨ fl2 = 1) ∧ (fl2 = 1 ↔ fl = 1 ∧ r = 1) ∧ (if fl = 0 then (some (0 : Int32)) else (if r = 0 then (some (0 : Int32)) else (some (1 : Int32)))) = some fl2 := by
      rcases hfl with rfl | rfl
      · exact ⟨0, Or.inl rfl, ⟨fun z => absurd z.symm n10, fun z => z.1⟩, if_pos rfl⟩
      · rcases r1 with rfl | rfl
        · exact ⟨0, Or.inl rfl, ⟨fun z => absurd z.symm n10, fun z => z.2⟩, by rw [if_neg n10, if_pos rfl]⟩
        · exact ⟨1, Or.inr rfl, ⟨fun _ => ⟨rfl, rfl⟩, fun _ => rfl⟩, by rw [if_neg n10, if_neg n10]⟩
    obtain ⟨fl2, w1, w2, w3⟩ := fl2
    obtain ⟨u, u1, u2, u3⟩ := ih (i + 1) F (by omega) (by omega) fl2 w1
    refine ⟨u, u1, ?_, ?_⟩
    · rw [u2, w2, r2]
      constructor
      · rintro ⟨⟨x1, x2⟩, x3⟩
        refine ⟨x1, fun k k1 k2 => ?_⟩
        by_cases c : k = i
        · subst c; exact x2
        · exact x3 k (by omega) k2
      · rintro ⟨x1, x2⟩
        exact ⟨⟨x1, x2 i (Nat.le_refl _) hi8⟩, fun k k1 k2 => x2 k (by omega) k2⟩
    · rw [lL_steps_36, if_neg (gt_8 hi8), o6_5 hi8, c6_5 hi8, ob_ v1, ob_ v2, ob_ w3, nI_1]
      exact u3
theorem g_23 (hp : pq_ n pt σ) (h2 : m2_ σ Ω) {a q f : Nat} (w : Bool) (ha : a < 16) (hq : q ≤ 3) (hf : f < 17) (a9 : Ω 4 9 = nI a) (q0 : Ω 4 0 = nI q) : ∀ d g F, g + d = 34 → d < F → ∀ L, L ≤ 99 → ∃ L', L' ≤ L ∧ (L' = L ∨ ∃ g', g' < 34 ∧ va8 σ a q w f g' ∧ L' = f + g') ∧ (∀ g', g ≤ g' → g' < 34 → va8 σ a q w f g' → L' ≤ f + g') ∧ lL_steps_23 F (nI L) (wy8 w) (nI f) (nI g) Ω = some (nI L') := by
  intro d
  induction d with
  | zero =>
    intro g F hg hF L hL
    obtain ⟨F, rfl⟩ : ∃ g, F = g + 1 := ⟨F - 1, by omega⟩
    have hg : g = 34 := by omega
    subst hg
    refine ⟨L, Nat.le_refl _, Or.inl rfl, fun g' h1 h2 => by omega, ?_⟩
    rw [lL_steps_23, if_pos (show (34 : Int32) ≤ nI 34 by decide)]
  | succ d ih =>
    intro g F hg hF L hL
    obtain ⟨F, rfl⟩ : ∃ g, F = g + 1 := ⟨F - 1, by omega⟩
    obtain ⟨r, r1, r2, r3⟩ := g_36 hp h2 w ha hq hf (show g < 34 by omega) a9 q0 (nI L) 8 0 70 (by omega) (by omega) 1 (Or.inr rfl)
    have r2 : r = 1 ↔ va8 σ a q w f g := r2.trans ⟨fun z k hk => z.2 k (Nat.zero_le _) hk, fun z => ⟨rfl, fun k _ hk => z k hk⟩⟩
    have q34 : ¬ (34 : Int32) ≤ nI g := by rw [show (34 : Int32) = nI 34 from rfl, nI_leI (by decide) (by omega)]; omega
    have r3 : lL_steps_36 70 (nI L) (wy8 w) (nI f) (nI g) (1 : Int32) (0 : Int32) Ω = some r := r3
    rw [lL_steps_23, if_neg q34, ob_ r3]
    rcases r1 with rfl | rfl
    · rw [if_pos p00, Option.bind_some, if_pos p00, Option.bind_some, nI_1]
      obtain ⟨L', l1, l2, l3, l4⟩ := ih (g + 1) F (by omega) (by omega) L hL
      refine ⟨L', l1, l2, fun g' h1 h3 h4 => ?_, l4⟩
      by_cases c : g' = g
      · subst c
        exact absurd (r2.mpr h4).symm n10
      · exact l3 g' (by omega) h3 h4
    · rw [if_neg n10, if_neg n10, nI_add]
      obtain ⟨F, rfl⟩ : ∃ g, F = g + 1 := ⟨F - 1, by omega⟩
      have v := r2.mp rfl
      by_cases c : nI L ≤ nI (f + g)
      · rw [if_pos c, Option.bind_some, Option.bind_some, lL_steps_23, if_pos (by decide)]
        rw [nI_leI (by omega) (by omega)] at c
        exact ⟨L, Nat.le_refl _, Or.inl rfl, fun g' h1 h3 h4 => by omega, rfl⟩
      · rw [if_neg c, Option.bind_some, Option.bind_some, lL_steps_23, if_pos (by decide)]
        rw [nI_leI (by omega) (by omega)] at c
        exact ⟨f + g, by omega, Or.inr ⟨g, by omega, v, rfl⟩, fun g' h1 h3 h4 => by omega, rfl⟩
theorem g_13 (hp : pq_ n pt σ) (h2 : m2_ σ Ω) {a q : Nat} (w : Bool) (ha : a < 16) (hq : q ≤ 3) (a9 : Ω 4 9 = nI a) (q0 : Ω 4 0 = nI q) : ∀ d f F, f + d = 17 → d < F → ∀ L, L ≤ 99 → ∃ L', L' ≤ L ∧ (L' = L ∨ ∃ f' g', f' < 17 ∧ g' < 34 ∧ va8 σ a q w f' g' ∧ L' = f' + g') ∧ (∀ f' g', f ≤ f' → f' < 17 → g' < 34 → va8 σ a q w f' g' → L' ≤ f' + g') ∧ lL_steps_13 F (nI L) (wy8 w) (nI f) Ω = some (nI L') := by
  intro d
  induction d with
  | zero =>
    intro f F hf hF L hL
    obtain ⟨F, rfl⟩ : ∃ g, F = g + 1 := ⟨F - 1, by omega⟩
    have hf : f = 17 := by omega
    subst hf
    refine ⟨L, Nat.le_refl _, Or.inl rfl, fun f' g' h1 h2 => by omega, ?_⟩
    rw [lL_steps_13, if_pos (show (17 : Int32) ≤ nI 17 by decide)]
  | succ d ih =>
    intro f F hf hF L hL
    obtain ⟨F, rfl⟩ : ∃ g, F = g + 1 := ⟨F - 1, by omega⟩
    obtain ⟨M, m1, m2, m3, m4⟩ := g_23 hp h2 w ha hq (show f < 17 by omega) a9 q0 34 0 70 (by omega) (by omega) L hL
    have m4 : lL_steps_23 70 (nI L) (wy8 w) (nI f) (0 : Int32) Ω = some (nI M) := m4
    obtain ⟨L', l1, l2, l3, l4⟩ := ih (f + 1) F (by omega) (by omega) M (by omega)
    refine ⟨L', by omega, ?_, fun f' g' h1 h3 h4 h5 => ?_, ?_⟩
    · rcases l2 with rfl | l2
      · rcases m2 with rfl | ⟨g', x1, x2, x3⟩
        · exact Or.inl rfl
        · exact Or.inr ⟨f, g', by omega, x1, x2, x3⟩
      · exact Or.inr l2
    · by_cases c : f' = f
      · subst c
        have := m3 g' (Nat.zero_le _) h4 h5
        omega
      · exact l3 f' g' (by omega) h3 h4 h5
    · rw [lL_steps_13, if_neg (by rw [show (17 : Int32) = nI 17 from rfl, nI_leI (by decide) (by omega)]; omega), ob_ m4, nI_1]
      exact l4
theorem g_steps (hp : pq_ n pt σ) (hn : n ≤ 8) (h2 : m2_ σ Ω) {a q : Nat} (ha : a < 16) (hq : q ≤ 3) (a9 : Ω 4 9 = nI a) (q0 : Ω 4 0 = nI q) : fL_steps Ω = some (nI (fm_ σ a q n 16 16)) := by
  obtain ⟨M, m1, m2, m3, m4⟩ := g_13 hp h2 false ha hq a9 q0 17 0 70 (by omega) (by omega) 99 (by omega)
  obtain ⟨L, l1, l2, l3, l4⟩ := g_13 hp h2 true ha hq a9 q0 17 0 70 (by omega) (by omega) M (by omega)
  have e : L = fm_ σ a q n 16 16 := by
    obtain ⟨w, f, g, w1, w2, w3, w4⟩ := lv_2 hp hn ha hq (σ := σ) (n := n)
    have f15 := fm_15 σ a q n
    have le : L ≤ fm_ σ a q n 16 16 := by
      cases w with
      | true => have := l3 f g (Nat.zero_le _) w1 w2 w3; omega
      | false => have := m3 f g (Nat.zero_le _) w1 w2 w3; omega
    have ge : fm_ σ a q n 16 16 ≤ L := by
      rcases l2 with l2 | ⟨f', g', x1, x2, x3, x4⟩
      · rcases m2 with m2 | ⟨f', g', x1, x2, x3, x4⟩
        · omega
        · have := lv_1 hp hn false ha hq x1 x2 x3; omega
      · have := lv_1 hp hn true ha hq x1 x2 x3; omega
    omega
  have key : ∀ F, lL_steps_5 (F + 1 + 1 + 1) (99 : Int32) (-1 : Int32) Ω = some (nI L) := by
    intro F
    have m4 : lL_steps_13 70 (99 : Int32) (-1 : Int32) (0 : Int32) Ω = some (nI M) := m4
    have l4 : lL_steps_13 70 (nI M) ((-1 : Int32) + (2 : Int32)) (0 : Int32) Ω = some (nI L) := l4
    rw [lL_steps_5, if_neg (by decide), ob_ m4, lL_steps_5, if_neg (by decide), ob_ l4, lL_steps_5, if_pos (by decide)]
  unfold fL_steps
  rw [ob_ (key 67), e]
end Z
