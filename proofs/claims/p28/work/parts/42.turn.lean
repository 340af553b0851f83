/-! a turn of the law, whole -/
def rel_ (e : Nat) (Λ : s3_T) (π : Nat → Nat) (Ω : sg_T) : Prop := rk_ Λ π ∧ ∃ n R pt, R ≤ e ∧ RQ n R pt (30 * e) e (Λ 0) Ω ∧ (e < 3 → n = e ∧ pt = 0) ∧ (3 ≤ e → 3 ≤ n)
section Z
variable {n R pt P C : Nat} {Λ : s3_T} {π : Nat → Nat} {σ Ω : sg_T}
theorem lf_ {x : Option (s3_T × (Nat → Nat) × sg_T)} (h : OK_ n R P C x) : OK_ n R P C (x.bind fun q => some (q.1, q.2.1, q.2.2)) := by
  obtain ⟨Λ', π', Ω', R', pt', e, h2⟩ := h
  exact ⟨Λ', π', Ω', R', pt', by rw [ob_ e], h2⟩
theorem lf_m {P' C' : Nat} {x : Option (s3_T × (Nat → Nat) × sg_T)} (h : OK_ n R P C x) (h1 : P ≤ P') (h2 : C ≤ C') : OK_ n R P' C' x := by
  obtain ⟨Λ', π', Ω', R', pt', e, k1, k2, k3⟩ := h
  exact ⟨Λ', π', Ω', R', pt', e, k1, k2, RQ_m k3 h1 h2⟩
/-- in a round -/
theorem b_in (hk : rk_ Λ π) (h : RQ n R pt P C (Λ 0) Ω) (hp : pt ≠ 0) (hR1 : R + 1 < 2 ^ 30) (hP : P ≤ 800000) (hC : C ≤ 800000) (a6 c : Int32) {m u w : Nat} (hu : u < 16) (hw : w < n) : OK_ n R (P + 30) (C + 1) (if Ω 4 6 = (1 : Int32) then (if (15 : Int32) ≤ nI m then ((bL_law_688 a6 Λ π Ω).bind fun q_40 => (some (q_40.1, q_40.2.1, q_40.2.2))) else ((bL_law_537 a6 (nI u) (nI w) Λ π Ω).bind fun q_42 => (some (q_42.1, q_42.2.1, q_42.2.2)))) else (if (7 : Int32) ≤ nI m then (if (16 : Int32) ≤ nI m then ((bL_law_1186 a6 (nI w) Λ π Ω).bind fun q_33 => (some (q_33.1, q_33.2.1, q_33.2.2))) else ((bL_law_803 a6 c (nI u) (nI w) Λ π Ω).bind fun q_35 => (some (q_35.1, q_35.2.1, q_35.2.2)))) else ((bL_law_740 a6 c Λ π Ω).bind fun q_37 => (some (q_37.1, q_37.2.1, q_37.2.2))))) := by
  have e6 : Ω 4 6 = nI pt := h.1.2.1.2.2.2.2.2.2.2
  have hpt := h.1.2.1.2.1
  rw [e6]
  by_cases c1 : pt = 1
  · subst c1
    rw [if_pos (show nI 1 = 1 from rfl)]
    by_cases c2 : (15 : Int32) ≤ nI m
    · rw [if_pos c2]
      exact lf_m (lf_ (b_seek hk h hR1 a6)) (by omega) (by omega)
    · rw [if_neg c2]
      exact lf_m (lf_ (b_hide hk h a6 hu hw)) (by omega) (by omega)
  · have c2 : pt = 2 := by omega
    subst c2
    rw [if_neg (show ¬ nI 2 = 1 by decide)]
    by_cases c3 : (7 : Int32) ≤ nI m
    · rw [if_pos c3]
      by_cases c4 : (16 : Int32) ≤ nI m
      · rw [if_pos c4]
        exact lf_ (b_dash hk h hR1 hP a6 hw)
      · rw [if_neg c4]
        exact lf_ (b_cry hk h hR1 hP hC a6 c hu hw)
    · rw [if_neg c3]
      exact lf_m (lf_ (b_walk hk h a6 c)) (by omega) (by omega)
theorem ob2 {α β : Type} {x : Option α} {y : Option β} {f : α → Option β} {a : α} (h : x = some a) (g : f a = y) : x.bind f = y := by rw [h]; exact g
theorem turn_ok : turn_ rel_ := by
  intro k c Λ π Ω hk8 hrel
  obtain ⟨hk, n, R, pt, hRe, h, h3, h4⟩ := hrel
  have hn := h.1.2.1.1
  have e4 : Ω 4 4 = nI n := h.1.2.1.2.2.2.1
  have e6 : Ω 4 6 = nI pt := h.1.2.1.2.2.2.2.2.2.2
  have hpt := h.1.2.1.2.1
  obtain ⟨m, hm, em⟩ := a_low c (m := 20) (by decide) (by decide)
  have em : fL_low c (20 : Int32) = some (nI m) := em
  obtain ⟨v, hv, ev⟩ := a_low (c >>> ((25 : Int32) &&& 31)) (m := 2) (by decide) (by decide)
  have ev : fL_low (c >>> ((25 : Int32) &&& 31)) (2 : Int32) = some (nI v) := ev
  obtain ⟨z, z1, z2, ez⟩ : ∃ z, 0 < z ∧ z ≤ 16 ∧ (if nI v = 0 then (some (16 : Int32)) else (some (5 : Int32))) = some (nI z) := by
    by_cases q : nI v = 0
    · exact ⟨16, by decide, by decide, if_pos q⟩
    · exact ⟨5, by decide, by decide, if_neg q⟩
  obtain ⟨u, hu, eu⟩ := a_low (c >>> ((5 : Int32) &&& 31)) (m := z) z1 (by omega)
  have hu16 : u < 16 := by omega
  obtain ⟨y, y1, y2, y3, ey⟩ : ∃ y, 0 < y ∧ y ≤ 8 ∧ (0 < n → y = n) ∧ (if nI n = 0 then (some (1 : Int32)) else (some (nI n))) = some (nI y) := by
    by_cases q : n = 0
    · subst q
      exact ⟨1, by decide, by decide, fun z => absurd z (Nat.lt_irrefl 0), if_pos rfl⟩
    · exact ⟨n, by omega, hn, fun _ => rfl, if_neg (nI_ne0 (by omega) (by omega))⟩
  obtain ⟨w, hw, ew⟩ := a_low (c >>> ((9 : Int32) &&& 31)) (m := y) y1 (by omega)
  -- behind the turn: the league
  have fin : ∀ (Λ' : s3_T) (π' : Nat → Nat) (Ω' : sg_T) (n' R' pt' : Nat), rk_ Λ' π' → R' ≤ R + 1 → RQ n' R' pt' (30 * k + 30) (k + 1) (Λ' 0) Ω' → (k + 1 < 3 → n' = k + 1 ∧ pt' = 0) → (3 ≤ k + 1 → 3 ≤ n') → ∃ (Λ'' : s3_T) (π'' : Nat → Nat) (Ω'' : sg_T), ((fL_league Λ' π' Ω').bind fun r_22 => (if r_22 = 0 then none else (some (Λ', π', Ω')))) = some (Λ'', π'', Ω'') ∧ rel_ (k + 1) Λ'' π'' Ω'' := by
    intro Λ' π' Ω' n' R' pt' a1 a2 a3 a4 a5
    refine ⟨Λ', π', Ω', ?_, a1, n', R', pt', by omega, by rw [show 30 * (k + 1) = 30 * k + 30 by omega]; exact a3, a4, a5⟩
    rw [ob_ (g_league (π := π') (RQ_rq a3) (by omega) (by omega) a3.2.2), if_neg n10]
  have finO : ∀ x, OK_ n R (30 * k + 30) (k + 1) x → 3 ≤ k → ∃ (Λ'' : s3_T) (π'' : Nat → Nat) (Ω'' : sg_T), (x.bind fun q_18 => ((fL_league q_18.1 q_18.2.1 q_18.2.2).bind fun r_22 => (if r_22 = 0 then none else (some (q_18.1, q_18.2.1, q_18.2.2))))) = some (Λ'', π'', Ω'') ∧ rel_ (k + 1) Λ'' π'' Ω'' := by
    intro x hx h3k
    obtain ⟨Λ', π', Ω', R', pt', e, k1, k2, k3⟩ := hx
    obtain ⟨Λ'', π'', Ω'', g1, g2⟩ := fin Λ' π' Ω' n R' pt' k1 k2 k3 (fun z => by omega) (fun _ => h4 h3k)
    exact ⟨Λ'', π'', Ω'', ob2 e g1, g2⟩
  have finJ : pt = 0 → ∃ (Λ'' : s3_T) (π'' : Nat → Nat) (Ω'' : sg_T), (((bL_law_182 (nI k) Λ π Ω).bind fun q_25 => (some (q_25.1, q_25.2.1, q_25.2.2))).bind fun q_18 => ((fL_league q_18.1 q_18.2.1 q_18.2.2).bind fun r_22 => (if r_22 = 0 then none else (some (q_18.1, q_18.2.1, q_18.2.2))))) = some (Λ'', π'', Ω'') ∧ rel_ (k + 1) Λ'' π'' Ω'' := by
    intro hp0
    subst hp0
    obtain ⟨n', hn', Λ', π', Ω', b1, b2, b3⟩ := b_join hk h (nI k)
    obtain ⟨Λ'', π'', Ω'', g1, g2⟩ := fin Λ' π' Ω' n' R 0 b2 (by omega) (RQ_m b3 (by omega) (by omega)) (fun q => ⟨by have := (h3 (by omega)).1; omega, rfl⟩) (fun q => by
      rcases Nat.lt_or_ge k 3 with x | x
      · have := (h3 x).1; omega
      · have := h4 x; omega)
    exact ⟨Λ'', π'', Ω'', ob2 (show ((bL_law_182 (nI k) Λ π Ω).bind fun q_25 => (some (q_25.1, q_25.2.1, q_25.2.2))) = some (Λ', π', Ω') by rw [ob_ b1]) g1, g2⟩
  unfold bL_law_94
  rw [ob_ em, ob_ ev, ob_ ez, ob_ eu, k_4, e4, ob_ ey, ob_ ew, k_6]
  by_cases c3 : nI k < (3 : Int32)
  · rw [if_pos c3]
    rw [show (3 : Int32) = nI 3 from rfl, nI_ltI (by omega) (by decide)] at c3
    exact finJ (h3 c3).2
  · rw [if_neg c3]
    rw [show (3 : Int32) = nI 3 from rfl, nI_ltI (by omega) (by decide)] at c3
    have hk3 : 3 ≤ k := by omega
    have n3 := h4 hk3
    have hwn : w < n := by rw [y3 (by omega)] at hw; exact hw
    have z0 : Ω 4 6 = 0 ↔ pt = 0 := by rw [e6, show (0 : Int32) = nI 0 from rfl, nI_eq (by omega) (by decide)]
    by_cases c4 : nI m = 0
    · rw [if_pos c4]
      by_cases c5 : pt = 0
      · rw [if_pos (z0.mpr c5)]
        exact finJ c5
      · rw [if_neg (fun q => c5 (z0.mp q))]
        exact finO _ (b_in hk h c5 (by omega) (by omega) (by omega) (nI k) c hu16 hwn) hk3
    · rw [if_neg c4]
      by_cases c6 : nI m = (1 : Int32)
      · rw [if_pos c6]
        exact finO _ (lf_m (lf_ (b_set hk h (nI k) c)) (by omega) (by omega)) hk3
      · rw [if_neg c6]
        by_cases c5 : pt = 0
        · rw [if_pos (z0.mpr c5)]
          subst c5
          exact finO _ (lf_m (lf_ (b_start hk h (by omega) (nI k) c hwn)) (by omega) (by omega)) hk3
        · rw [if_neg (fun q => c5 (z0.mp q))]
          exact finO _ (b_in hk h c5 (by omega) (by omega) (by omega) (nI k) c hu16 hwn) hk3
end Z
