/-! the relation of the whole states -/
def rk_ (B : Nat) (Λ : s3_T) (π : Nat → Nat) (μ : sg_T) : Prop := (∃ c, c ≤ 5 ∧ Λ 8 0 1 = nI c ∧ μ 0 0 = nI c ∧ ∀ k, k < c → RZ B (Λ (π k)) (fun j => μ 2 (k * 108 + j))) ∧ (∀ k, k < 6 → 2 ≤ π k ∧ π k < 8) ∧ (∀ j k, j < 6 → k < 6 → π j = π k → j = k)
def rv_ (B : Nat) (Λ : s3_T) (μ : sg_T) : Prop := (Λ 8 0 0 = 0 ∧ μ 0 1 = 0) ∨ (Λ 8 0 0 = 1 ∧ μ 0 1 = 1 ∧ RZ B (Λ 1) (μ 3))
def rx_ (Λ : s3_T) (μ : sg_T) : Prop := ∃ t, t ≤ 60 ∧ Λ 9 0 0 = nI t ∧ μ 0 2 = nI t ∧ ∀ k, k < t → Λ 9 1 k = μ 4 k ∧ ¬ μ 4 k < 33 ∧ ¬ 126 < μ 4 k
def rg_ (B : Nat) (Λ : s3_T) (π : Nat → Nat) (μ : sg_T) : Prop := RZ B (Λ 0) (μ 1) ∧ rk_ B Λ π μ ∧ rv_ B Λ μ ∧ rx_ Λ μ
theorem rg_m {B B' : Nat} {Λ : s3_T} {π : Nat → Nat} {μ : sg_T} (h : rg_ B Λ π μ) (hB : B ≤ B') : rg_ B' Λ π μ := by
  obtain ⟨h1, ⟨⟨c, c1, c2, c3, c4⟩, k2, k3⟩, h3, h4⟩ := h
  refine ⟨RZ_m h1 hB, ⟨⟨c, c1, c2, c3, fun k hk => RZ_m (c4 k hk) hB⟩, k2, k3⟩, ?_, h4⟩
  rcases h3 with h3 | ⟨a, b, d⟩
  · exact Or.inl h3
  · exact Or.inr ⟨a, b, RZ_m d hB⟩
section Z
variable {B : Nat} {Λ : s3_T} {π : Nat → Nat} {μ : sg_T}
/-- what a draft gives -/
theorem z_draft (h : rg_ B Λ π μ) : ∃ c, c ≤ 5 ∧ Λ 8 0 1 = nI c ∧ μ 0 0 = nI c ∧ 2 ≤ π c ∧ π c < 8 ∧ fX3_draft Λ π = some (sg_3 Λ (π c) (Λ 0), π) := by
  obtain ⟨-, ⟨⟨c, c1, c2, c3, -⟩, k2, -⟩, -⟩ := h
  obtain ⟨p1, p2⟩ := k2 c (by omega)
  refine ⟨c, c1, c2, c3, p1, p2, ?_⟩
  unfold fX3_draft
  rw [c2, ox_ (by omega) (by decide), cl_ (by omega), ok_ ⟨p1, p2⟩]
/-- refused: the draft is of no account -/
theorem z_keepN (h : rg_ B Λ π μ) {c : Nat} (hc : c ≤ 5) (h1 : Λ 8 0 1 = nI c) {e : Int32} (he : e < 0) : ∃ Λ' : s3_T, fX3_keep e (sg_3 (sg_3 Λ (π c) (Λ 0)) 0 (Λ 0)) π = some (e, Λ', π) ∧ rg_ B Λ' π μ := by
  obtain ⟨r1, ⟨⟨c', c1, c2, c3, c4⟩, k2, k3⟩, r3, r4⟩ := h
  have : c' = c := by
    rw [c2, nI_eq (by omega) (by omega)] at h1
    exact h1
  subst this
  obtain ⟨p1, p2⟩ := k2 c' (by omega)
  have q : ¬ (0 : Int32) ≤ e := by rw [fa_lt] at he; rw [fa_le]; omega
  have f0 : ∀ j, j ≠ 0 → j ≠ π c' → sg_3 (sg_3 Λ (π c') (Λ 0)) 0 (Λ 0) j = Λ j := fun j j1 j2 => by rw [sg_3n _ _ j1, sg_3n _ _ j2]
  refine ⟨sg_3 (sg_3 Λ (π c') (Λ 0)) 0 (Λ 0), ?_, ?_, ⟨⟨c', c1, ?_, c3, fun k hk => ?_⟩, k2, k3⟩, ?_, ?_⟩
  · unfold fX3_keep
    rw [if_neg q]
  · rw [sg_3s]; exact r1
  · rw [f0 8 (by omega) (by omega)]; exact c2
  · have := k2 k (by omega)
    rw [f0 (π k) (by omega) (fun w => by have := k3 k c' (by omega) (by omega) w; omega)]
    exact c4 k hk
  · unfold rv_
    rw [f0 8 (by omega) (by omega), f0 1 (by omega) (by omega)]
    exact r3
  · unfold rx_
    rw [f0 9 (by omega) (by omega)]
    exact r4
/-- done: what was is kept -/
theorem z_keepY (h : rg_ B Λ π μ) {c : Nat} (hc : c ≤ 5) (h1 : Λ 8 0 1 = nI c) {r : Int32} (hr : 0 ≤ r) {B' : Nat} (hB : B ≤ B') {σ' : sg_T} {τ : sg_T} : ∃ (Λ' : s3_T) (π' : Nat → Nat) (μ1 : sg_T), fX3_keep r (sg_3 (sg_3 (sg_3 Λ (π c) (Λ 0)) 0 σ') 9 τ) π = some (r, Λ', π') ∧ fX8_record μ = some μ1 ∧ (∀ j, j ≠ 0 → j ≠ 2 → μ1 j = μ j) ∧ (∀ k, k ≠ 0 → μ1 0 k = μ 0 k) ∧ Λ' 9 = τ ∧ ∀ (μ2 : sg_T), μ2 2 = μ1 2 → μ2 3 = μ1 3 → μ2 0 0 = μ1 0 0 → μ2 0 1 = μ1 0 1 → RZ B' σ' (μ2 1) → rx_ Λ' μ2 → rg_ B' Λ' π' μ2 := by
  obtain ⟨r1, ⟨⟨c', c1, c2, c3, c4⟩, k2, k3⟩, r3, r4⟩ := h
  have : c' = c := by
    rw [c2, nI_eq (by omega) (by omega)] at h1
    exact h1
  subst this
  obtain ⟨p1, p2⟩ := k2 c' (by omega)
  obtain ⟨μ1, m1, m2, m3, m4⟩ := z_rec c1 c3
  have f0 : ∀ j, j ≠ 0 → j ≠ π c' → j ≠ 9 → sg_3 (sg_3 (sg_3 Λ (π c') (Λ 0)) 0 σ') 9 τ j = Λ j := fun j j1 j2 j3 => by rw [sg_3n _ _ j3, sg_3n _ _ j1, sg_3n _ _ j2]
  have f1 : sg_3 (sg_3 (sg_3 Λ (π c') (Λ 0)) 0 σ') 9 τ (π c') = Λ 0 := by rw [sg_3n _ _ (by omega), sg_3n _ _ (by omega), sg_3s]
  have f2 : sg_3 (sg_3 (sg_3 Λ (π c') (Λ 0)) 0 σ') 9 τ 0 = σ' := by rw [sg_3n _ _ (by omega), sg_3s]
  have f8 := f0 8 (by omega) (by omega) (by omega)
  have f9 : sg_3 (sg_3 (sg_3 Λ (π c') (Λ 0)) 0 σ') 9 τ 9 = τ := sg_3s _ _ _
  have fs := f0 1 (by omega) (by omega) (by omega)
  generalize sg_3 (sg_3 (sg_3 Λ (π c') (Λ 0)) 0 σ') 9 τ = Λ2 at *
  unfold fX3_keep
  rw [if_pos hr, f8, c2]
  rcases m4 with ⟨q, n0, n1, n2⟩ | ⟨q, n0, n1, n2⟩
  · rw [if_neg (by rw [show (5 : Int32) = nI 5 from rfl, nI_leI (by decide) (by omega)]; omega), nI_1]
    have g8 : ∀ j, j ≠ 8 → sg_3 Λ2 8 (sg_a (Λ 8) 0 (sg_u (Λ 8 0) 1 (nI (c' + 1)))) j = Λ2 j := fun j hj => sg_3n _ _ hj
    have g9 : sg_3 Λ2 8 (sg_a (Λ 8) 0 (sg_u (Λ 8 0) 1 (nI (c' + 1)))) 8 = sg_a (Λ 8) 0 (sg_u (Λ 8 0) 1 (nI (c' + 1))) := sg_3s _ _ _
    refine ⟨sg_3 Λ2 8 (sg_a (Λ 8) 0 (sg_u (Λ 8 0) 1 (nI (c' + 1)))), π, μ1, rfl, m1, m2, m3, (g8 9 (by omega)).trans f9, fun μ2 w2 w3 w0 w1 hz hx => ⟨?_, ⟨⟨c' + 1, by omega, ?_, w0.trans n0, fun k hk => ?_⟩, k2, k3⟩, ?_, hx⟩⟩
    · rw [g8 0 (by omega), f2]; exact hz
    · rw [g9, sg_as, sg_us]
    · obtain ⟨u1, u2⟩ := k2 k (by omega)
      rw [g8 (π k) (by omega), w2]
      by_cases e : k = c'
      · subst e
        rw [f1]
        exact RZ_c (RZ_m r1 hB) (fun j hj => n1 j hj)
      · rw [f0 (π k) (by omega) (fun w => e (k3 k c' (by omega) (by omega) w)) (by omega)]
        refine RZ_c (RZ_m (c4 k (by omega)) hB) (fun j hj => n2 _ (by omega))
    · unfold rv_
      rw [g8 1 (by omega), fs, g9, sg_as, sg_un _ _ (show 0 ≠ 1 by decide), w3, w1, m3 1 (by decide), m2 3 (by decide) (by decide)]
      rcases r3 with r3 | ⟨a, b, d⟩
      · exact Or.inl r3
      · exact Or.inr ⟨a, b, RZ_m d hB⟩
  · subst q
    rw [if_pos (show (5 : Int32) ≤ nI 5 by decide)]
    have dd : fX3_discardOldest Λ2 π = some (Λ2, dp_ π) := by
      unfold fX3_discardOldest
      rw [ok_ (k2 1 (by decide)).2, ok_ (k2 2 (by decide)).2, ok_ (k2 3 (by decide)).2, ok_ (k2 4 (by decide)).2, ok_ (k2 5 (by decide)).2, ok_ (k2 0 (by decide)).2]
    rw [ob_ dd]
    have d5 : ∀ k, k < 5 → dp_ π k = π (k + 1) := fun k hk => if_pos hk
    have d6 : dp_ π 5 = π 0 := rfl
    refine ⟨Λ2, dp_ π, μ1, rfl, m1, m2, m3, f9, fun μ2 w2 w3 w0 w1 hz hx => ⟨?_, ⟨⟨5, by omega, ?_, w0.trans n0, fun k hk => ?_⟩, fun k hk => ?_, fun i k hi hk e => ?_⟩, ?_, hx⟩⟩
    · rw [f2]; exact hz
    · rw [f8]; exact c2
    · show RZ B' (Λ2 (dp_ π k)) (fun j => μ2 2 (k * 108 + j))
      obtain ⟨u1, u2⟩ := k2 (k + 1) (by omega)
      rw [d5 k hk, w2]
      by_cases e : k = 4
      · subst e
        rw [f1]
        exact RZ_c (RZ_m r1 hB) (fun j hj => n1 j hj)
      · rw [f0 (π (k + 1)) (by omega) (fun w => by have := k3 (k + 1) 5 (by omega) (by omega) w; omega) (by omega)]
        refine RZ_c (RZ_m (c4 (k + 1) (by omega)) hB) (fun j hj => ?_)
        show μ1 2 (k * 108 + j) = μ 2 ((k + 1) * 108 + j)
        rw [n2 _ (by omega), show k * 108 + j + 108 = (k + 1) * 108 + j by omega]
    · by_cases e : k < 5
      · rw [d5 k e]; exact k2 (k + 1) (by omega)
      · have : k = 5 := by omega
        subst this
        rw [d6]; exact k2 0 (by omega)
    · by_cases e1 : i < 5
      · by_cases e2 : k < 5
        · rw [d5 i e1, d5 k e2] at e
          have := k3 (i + 1) (k + 1) (by omega) (by omega) e
          omega
        · have : k = 5 := by omega
          subst this
          rw [d5 i e1, d6] at e
          have := k3 (i + 1) 0 (by omega) (by omega) e
          omega
      · have : i = 5 := by omega
        subst this
        by_cases e2 : k < 5
        · rw [d6, d5 k e2] at e
          have := k3 0 (k + 1) (by omega) (by omega) e
          omega
        · omega
    · unfold rv_
      rw [fs, f8, w3, w1, m3 1 (by decide), m2 3 (by decide) (by decide)]
      rcases r3 with r3 | ⟨a, b, d⟩
      · exact Or.inl r3
      · exact Or.inr ⟨a, b, RZ_m d hB⟩
end Z
