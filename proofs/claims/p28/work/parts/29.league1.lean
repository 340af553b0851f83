/-! the law's league, told player by player -/
theorem t_0 (Λ : s3_T) (π : Nat → Nat) : fX7_total 0 Λ π = some (Λ 0 0 0) := by unfold fX7_total; rw [if_pos rfl]
theorem t_1 (Λ : s3_T) (π : Nat → Nat) : fX7_total 1 Λ π = some (Λ 0 0 1) := by unfold fX7_total; rw [if_neg (by decide), if_pos rfl]
theorem t_2 (Λ : s3_T) (π : Nat → Nat) : fX7_total 2 Λ π = some (Λ 0 0 2) := by unfold fX7_total; rw [if_neg (by decide), if_neg (by decide), if_pos rfl]
theorem t_3 (Λ : s3_T) (π : Nat → Nat) : fX7_total 3 Λ π = some (Λ 0 0 3) := by unfold fX7_total; rw [if_neg (by decide), if_neg (by decide), if_neg (by decide), if_pos rfl]
theorem t_4 (Λ : s3_T) (π : Nat → Nat) : fX7_total 4 Λ π = some (Λ 0 0 4) := by unfold fX7_total; rw [if_neg (by decide), if_neg (by decide), if_neg (by decide), if_neg (by decide), if_pos rfl]
theorem t_5 (Λ : s3_T) (π : Nat → Nat) : fX7_total 5 Λ π = some (Λ 0 0 5) := by unfold fX7_total; rw [if_neg (by decide), if_neg (by decide), if_neg (by decide), if_neg (by decide), if_neg (by decide), if_pos rfl]
theorem t_6 (Λ : s3_T) (π : Nat → Nat) : fX7_total 6 Λ π = some (Λ 0 0 6) := by unfold fX7_total; rw [if_neg (by decide), if_neg (by decide), if_neg (by decide), if_neg (by decide), if_neg (by decide), if_neg (by decide), if_pos rfl]
theorem t_7 (Λ : s3_T) (π : Nat → Nat) : fX7_total 7 Λ π = (fX5_hiddenCount (Λ 0)).bind fun r_9 => (some r_9) := by unfold fX7_total; rw [if_neg (by decide), if_neg (by decide), if_neg (by decide), if_neg (by decide), if_neg (by decide), if_neg (by decide), if_neg (by decide), if_pos rfl]
theorem t_8 (Λ : s3_T) (π : Nat → Nat) : fX7_total 8 Λ π = (fX5_retiredCount (Λ 0)).bind fun r_9 => (some r_9) := by unfold fX7_total; rw [if_neg (by decide), if_neg (by decide), if_neg (by decide), if_neg (by decide), if_neg (by decide), if_neg (by decide), if_neg (by decide), if_neg (by decide), if_pos rfl]
theorem t_9 (Λ : s3_T) (π : Nat → Nat) : fX7_total 9 Λ π = (fX5_sumOfPoints (Λ 0)).bind fun r_9 => (some r_9) := by unfold fX7_total; rw [if_neg (by decide), if_neg (by decide), if_neg (by decide), if_neg (by decide), if_neg (by decide), if_neg (by decide), if_neg (by decide), if_neg (by decide), if_neg (by decide), if_pos rfl]
section Z
variable {n R pt P C : Nat} {Λ : s3_T} {π : Nat → Nat} {σ Ω : sg_T}
theorem g_pl (h : r5_ n R pt (Λ 0) (mu_ R (Λ 0) Ω 1)) {k j : Nat} (hk : k < n) (hj : j < 5) : fX7_player (nI k) (nI j) Λ π = some (Λ 0 (2 + j) k) := by
  obtain ⟨hn, -⟩ := z_0 h
  unfold fX7_player
  rw [ob_ (z_isP h hk), if_neg n10]
  rcases (show j = 0 ∨ j = 1 ∨ j = 2 ∨ j = 3 ∨ j = 4 by omega) with rfl | rfl | rfl | rfl | rfl
  · rw [if_pos (by decide), ox_ (by omega) (by decide), cl_ (by omega)]
  · rw [if_neg (by decide), if_pos (by decide), ox_ (by omega) (by decide), cl_ (by omega)]
  · rw [if_neg (by decide), if_neg (by decide), if_pos (by decide), ox_ (by omega) (by decide), cl_ (by omega)]
  · rw [if_neg (by decide), if_neg (by decide), if_neg (by decide), if_pos (by decide), ox_ (by omega) (by decide), cl_ (by omega)]
  · rw [if_neg (by decide), if_neg (by decide), if_neg (by decide), if_neg (by decide), if_pos (by decide), ox_ (by omega) (by decide), cl_ (by omega)]
theorem g_pl5 (h : r5_ n R pt (Λ 0) (mu_ R (Λ 0) Ω 1)) {k : Nat} (hk : k < n) : fX7_player (nI k) 5 Λ π = some (nI (pl_ (Λ 0) n k)) := by
  unfold fX7_player
  rw [ob_ (z_isP h hk), if_neg n10, if_neg (by decide), if_neg (by decide), if_neg (by decide), if_neg (by decide), if_neg (by decide), if_pos (by decide), ob_ (z_place h hk).1]
theorem g_pl6 (h : r5_ n R pt (Λ 0) (mu_ R (Λ 0) Ω 1)) {k : Nat} (hk : k < n) : fX7_player (nI k) 6 Λ π = some (Λ 0 7 k) := by
  obtain ⟨hn, -⟩ := z_0 h
  unfold fX7_player
  rw [ob_ (z_isP h hk), if_neg n10, if_neg (by decide), if_neg (by decide), if_neg (by decide), if_neg (by decide), if_neg (by decide), if_neg (by decide), if_pos (by decide), ox_ (by omega) (by decide), cl_ (by omega)]
theorem g_32 (hP : P ≤ 1000000) (hC : C ≤ 1000000) (hb : bd_ P C σ) (h1 : m1_ σ Ω) (hn : n ≤ 8) (e4 : Ω 4 4 = nI n) {k : Nat} (hk : k < n) (a5 a6 a7 a8 : Int32) : lL_league_32 70 a5 a6 a7 a8 (nI k) 0 0 Λ π Ω = some (nI (pl_ σ n k)) := by
  have key : ∀ d i f, i + d = n → d < f → lL_league_32 f a5 a6 a7 a8 (nI k) (nI (cn_ (fun q => ah_ σ q k) i)) (nI i) Λ π Ω = some (nI (pl_ σ n k)) := by
    intro d
    induction d with
    | zero =>
      intro i f hi hf
      obtain ⟨f, rfl⟩ : ∃ g, f = g + 1 := ⟨f - 1, by omega⟩
      have hi : i = n := by omega
      subst hi
      rw [lL_league_32, show (4 : Int32).toNatClampNeg = 4 from rfl, e4, if_pos (Int32.le_refl _)]
      rfl
    | succ d ih =>
      intro i f hi hf
      obtain ⟨f, rfl⟩ : ∃ g, f = g + 1 := ⟨f - 1, by omega⟩
      have g := ih (i + 1) f (by omega) (by omega)
      rw [lL_league_32, show (4 : Int32).toNatClampNeg = 4 from rfl, e4, if_neg (by rw [nI_leI (by omega) (by omega)]; omega), nI_1]
      by_cases q : ah_ σ i k = true
      · have z : ¬ nI i = nI k := by
          rw [nI_eq (by omega) (by omega)]
          intro e
          rw [e, ah_r] at q
          cases q
        rw [cn_1 (P := fun q => ah_ σ q k) q] at g
        rw [if_neg z, ob_ (a_ahead hP hC hb h1 (by omega) (by omega)), if_pos q, if_neg n10, Option.bind_some, nI_1]
        exact g
      · rw [cn_n (P := fun q => ah_ σ q k) q] at g
        have e : (if nI i = nI k then some (0 : Int32) else ((fL_ahead (nI i) (nI k) Ω).bind fun r_7 => (if r_7 = 0 then (some (0 : Int32)) else (some (1 : Int32))))) = some 0 := by
          by_cases z : nI i = nI k
          · rw [if_pos z]
          · rw [if_neg z, ob_ (a_ahead hP hC hb h1 (by omega) (by omega)), if_neg q, if_pos p00]
        rw [ob_ e, Int32.add_zero]
        exact g
  exact key n 0 70 (by omega) (by omega)
theorem g_157 (h : r5_ n R pt (Λ 0) (mu_ R (Λ 0) Ω 1)) (h1 : m1_ (Λ 0) Ω) {k : Nat} (hk : k < n) (a5 a6 a7 a8 a10 : Int32) : lL_league_157 70 a5 a6 a7 a8 (nI k) a10 0 Λ π Ω = some 0 := by
  obtain ⟨hn, -⟩ := z_0 h
  have key : ∀ d i f, i + d = 5 → d < f → lL_league_157 f a5 a6 a7 a8 (nI k) a10 (nI i) Λ π Ω = some 0 := by
    intro d
    induction d with
    | zero =>
      intro i f hi hf
      obtain ⟨f, rfl⟩ : ∃ g, f = g + 1 := ⟨f - 1, by omega⟩
      have hi : i = 5 := by omega
      subst hi
      rw [lL_league_157, if_pos (show (5 : Int32) ≤ nI 5 by decide)]
    | succ d ih =>
      intro i f hi hf
      obtain ⟨f, rfl⟩ : ∃ g, f = g + 1 := ⟨f - 1, by omega⟩
      rw [lL_league_157, if_neg (by rw [show (5 : Int32) = nI 5 from rfl, nI_leI (by decide) (by omega)]; omega), ob_ (g_pl h hk (show i < 5 by omega)), show (6 : Int32) = nI 6 from rfl, px_, ox_ (by omega) (by decide), cl_ (by omega), h1 k (by omega) i (by omega), if_pos rfl, nI_1]
      exact ih (i + 1) f (by omega) (by omega)
  exact key 5 0 70 (by omega) (by omega)
theorem g_nx (hn : n ≤ 8) (hP : P ≤ 1000000) (hC : C ≤ 1000000) (hb : bd_ P C σ) (h1 : m1_ σ Ω) {i : Nat} (hin : i < n) {m : Int32} (hm : m < 0) : (if nv_ σ m i < 0 then (some (nI i)) else (o_x ((6 : Int32) * nI i + (1 : Int32)) 48 (o_x ((6 : Int32) * nv_ σ m i + (1 : Int32)) 48 (if Ω 1 ((6 : Int32) * nI i + (1 : Int32)).toNatClampNeg < Ω 1 ((6 : Int32) * nv_ σ m i + (1 : Int32)).toNatClampNeg then (some (nI i)) else (if Ω 1 ((6 : Int32) * nI i + (1 : Int32)).toNatClampNeg = Ω 1 ((6 : Int32) * nv_ σ m i + (1 : Int32)).toNatClampNeg then ((fL_ahead (nv_ σ m i) (nI i) Ω).bind fun r_42 => (if r_42 = 0 then (some (nv_ σ m i)) else (some (nI i)))) else (some (nv_ σ m i))))))) = some (nv_ σ m (i + 1)) := by
  by_cases hi0 : i = 0
  · subst hi0
    rw [show nv_ σ m 0 = m from rfl, if_pos hm]
    rfl
  · have ht := nn_lt σ i (by omega)
    have k : so_ σ i (nn_ σ i) = true ↔ (σ 3 i < σ 3 (nn_ σ i) ∨ (σ 3 i = σ 3 (nn_ σ i) ∧ ah_ σ (nn_ σ i) i = true)) := by unfold so_; rw [bo_]
    rw [nv_1 _ _ hi0, nv_n _ _ hi0, if_neg (nI_pos (by omega)), o6_1 (by omega), o6_1 (by omega), c6_1 (by omega), c6_1 (by omega), h1 i (by omega) 1 (by decide), h1 _ (show nn_ σ i < 8 by omega) 1 (by decide), ob_ (a_ahead hP hC hb h1 (by omega) (by omega))]
    show (if σ 3 i < σ 3 (nn_ σ i) then _ else if σ 3 i = σ 3 (nn_ σ i) then _ else _) = _
    by_cases c1 : σ 3 i < σ 3 (nn_ σ i)
    · rw [if_pos c1, if_pos (k.mpr (Or.inl c1))]
    · rw [if_neg c1]
      by_cases c2 : σ 3 i = σ 3 (nn_ σ i)
      · rw [if_pos c2]
        by_cases c3 : ah_ σ (nn_ σ i) i = true
        · rw [if_pos c3, if_neg n10, if_pos (k.mpr (Or.inr ⟨c2, c3⟩))]
        · rw [if_neg c3, if_pos p00, if_neg (fun z => (k.mp z).elim c1 (fun w => c3 w.2))]
      · rw [if_neg c2, if_neg (fun z => (k.mp z).elim c1 (fun w => c2 w.1))]
theorem hq_n {v : Int32} (h : (v = NO ∧ hq_ v = -1) ∨ (∃ s, 1 ≤ s ∧ s < 16 ∧ v = nI s ∧ ¬ v = NO ∧ hq_ v = nI s)) : (if 0 ≤ hq_ v then (some (hq_ v)) else (some (-10006 : Int32))) = some v := by
  rcases h with ⟨q, e⟩ | ⟨s, s1, s2, q, q', e⟩
  · rw [e, if_neg (by decide), q]
  · rw [e, if_pos (nI_pos' (by omega)), q]
theorem g_17 (h : rq_ n R pt (Λ 0) Ω) (hP : P ≤ 1000000) (hC : C ≤ 1000000) (hb : bd_ P C (Λ 0)) (a7 : Int32) {m : Int32} (hm : m < 0) : lL_league_17 70 (-10006) 0 a7 m 0 Λ π Ω = some (sm_ (Λ 0) n, nv_ (Λ 0) m n) := by
  have h5 := rq_r5 h.1
  obtain ⟨⟨hR, ⟨hn, -, -, e4, -⟩, -, -, hp, h1, -⟩, h2⟩ := h
  have key : ∀ d i f, i + d = n → d < f → lL_league_17 f (-10006) (sm_ (Λ 0) i) a7 (nv_ (Λ 0) m i) (nI i) Λ π Ω = some (sm_ (Λ 0) n, nv_ (Λ 0) m n) := by
    intro d
    induction d with
    | zero =>
      intro i f hi hf
      obtain ⟨f, rfl⟩ : ∃ g, f = g + 1 := ⟨f - 1, by omega⟩
      have hi : i = n := by omega
      subst hi
      rw [lL_league_17, show (4 : Int32).toNatClampNeg = 4 from rfl, e4, if_pos (Int32.le_refl _)]
    | succ d ih =>
      intro i f hi hf
      obtain ⟨f, rfl⟩ : ∃ g, f = g + 1 := ⟨f - 1, by omega⟩
      have hin : i < n := by omega
      have g := ih (i + 1) f (by omega) (by omega)
      have x0 : Ω 1 (6 * i) = Λ 0 2 i := h1 i (by omega) 0 (by decide)
      have rk : fX7_ranked (nI (pl_ (Λ 0) n i)) Λ π = some (nI i) := by
        unfold fX7_ranked
        rw [ob_ (c_rank h5 hin)]
      rw [lL_league_17, show (4 : Int32).toNatClampNeg = 4 from rfl, e4, if_neg (by rw [nI_leI (by omega) (by omega)]; omega), ob_ (g_32 hP hC hb h1 hn e4 hin _ _ _ _), o6_0 (by omega), ob_ (g_nx hn hP hC hb h1 hin hm), ob_ (g_157 h5 h1 hin _ _ _ _ _), ob_ (g_pl5 h5 hin), if_pos rfl, ob_ rk, if_pos rfl, ob_ (g_pl6 h5 hin), o6_5 (by omega), c6_5 (by omega), c6_0 (by omega), x0, h2 i (by omega), ob_ (hq_n (hq_0 hp (by omega))), if_pos rfl, nI_1]
      exact g
  exact key n 0 70 (by omega) (by omega)
end Z
