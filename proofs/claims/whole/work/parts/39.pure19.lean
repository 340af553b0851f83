/-! refused alike, or done alike upon the record -/
def mo_ (σ μ : sg_T) (B' : Nat) (c m : Option (Int32 × sg_T)) : Prop := (∃ e : Int32, e < 0 ∧ c = some (e, σ) ∧ m = some (e, μ)) ∨ (∃ (r : Int32) (σ' : sg_T), 0 ≤ r ∧ c = some (r, σ') ∧ ∀ μ1 : sg_T, fX8_record μ = some μ1 → μ1 1 = μ 1 → ∃ z' : Nat → Int32, m = some (r, sg_a μ1 1 z') ∧ RZ B' σ' z')
section Z
variable {n R pt B : Nat} {σ σ' μ μ' : sg_T} {z z' : Nat → Int32}
theorem mo_of {c : Option (Int32 × sg_T)} {why : Option Int32} {act : sg_T → Option (Int32 × sg_T)} {m : Option (Int32 × sg_T)} (H : ∀ μ' : sg_T, μ' 1 = μ 1 → mv_ n R σ μ' c why (act μ')) (hB : R ≤ B) (M1 : ∀ e : Int32, e < 0 → why = some e → m = some (e, μ)) (M2 : ∀ μ1 x, why = some 0 → fX8_record μ = some μ1 → act μ1 = some x → m = some x) : mo_ σ μ (B + 1) c m := by
  rcases H μ rfl with ⟨e, e1, e2, e3⟩ | ⟨r, σ2, -, -, -, r1, -, r2, -⟩
  · exact Or.inl ⟨e, e1, e2, M1 e e1 e3⟩
  · refine Or.inr ⟨r, σ2, r1, r2, fun μ1 g1 g2 => ?_⟩
    rcases H μ1 g2 with ⟨e, e1, e2, e3⟩ | ⟨r', σ3, z3, R', pt', -, w2, w3, w4, w5, w6⟩
    · exfalso
      rw [r2] at e2
      cases e2
      rw [fa_lt] at e1
      rw [fa_le] at r1
      omega
    · rw [r2] at w3
      cases w3
      exact ⟨z3, M2 μ1 _ w4 g1 w5, n, R', pt', by omega, w6⟩
theorem mo_hide (h : r5_ n R pt σ (μ 1)) (hR : R + 1 < 2 ^ 30) (hB : R ≤ B) (p s : Int32) : mo_ σ μ (B + 1) (fX2_hidePlayer p s σ) (fX8_hide p s μ) := by
  refine mo_of (act := fun μ' => (fX8_hides p s μ').bind fun σ6 => (fX8_distance s 0).bind fun r_8 => some (r_8, σ6)) (fun μ' hm => mv_hide h hm hR p s) hB (fun e h1 h2 => ?_) (fun μ1 x h1 h2 h3 => ?_)
  · unfold fX8_hide
    rw [ob_ h2, if_neg (fa_nle.mpr h1)]
  · unfold fX8_hide
    rw [ob_ h1, if_pos (Int32.le_refl _), ob_ h2]
    exact h3
theorem qp_ {α β : Type} (x : Option (α × β)) : (x.bind fun q => some (q.1, q.2)) = x := by cases x <;> rfl
theorem mo_cry (h : r5_ n R pt σ (μ 1)) (hR : R + 1 < 2 ^ 30) (hB : R ≤ B) (p s : Int32) : mo_ σ μ (B + 1) (fX2_cryName p s σ) (fX8_cry p s μ) := by
  refine mo_of (act := fun μ' => fX8_cries p s μ') (fun μ' hm => z_cry h hm hR p s) hB (fun e h1 h2 => ?_) (fun μ1 x h1 h2 h3 => ?_)
  · unfold fX8_cry
    rw [ob_ h2, if_neg (fa_nle.mpr h1)]
  · unfold fX8_cry
    rw [ob_ h1, if_pos (Int32.le_refl _), ob_ h2, qp_]
    exact h3
theorem mo_dash (h : r5_ n R pt σ (μ 1)) (hR : R + 1 < 2 ^ 30) (hB : R ≤ B) (p : Int32) : mo_ σ μ (B + 1) (fX2_dashHome p σ) (fX8_dash p μ) := by
  refine mo_of (act := fun μ' => fX8_dashes p μ') (fun μ' hm => z_dash h hm hR p) hB (fun e h1 h2 => ?_) (fun μ1 x h1 h2 h3 => ?_)
  · unfold fX8_dash
    rw [ob_ h2, if_neg (fa_nle.mpr h1)]
  · unfold fX8_dash
    rw [ob_ h1, if_pos (Int32.le_refl _), ob_ h2, qp_]
    exact h3
theorem mo_seek (h : r5_ n R pt σ (μ 1)) (hR : R + 1 < 2 ^ 30) (hB : R ≤ B) : mo_ σ μ (B + 1) (fX2_beginSeeking σ) (fX8_seek μ) := by
  refine mo_of (act := fun μ' => fX8_seeks μ') (fun μ' hm => mv_seek h hm hR) hB (fun e h1 h2 => ?_) (fun μ1 x h1 h2 h3 => ?_)
  · unfold fX8_seek
    rw [show (6 : Int32).toNatClampNeg = 6 from rfl]
    by_cases c : μ 1 6 = 1
    · rw [if_pos c] at h2
      cases h2
      exact absurd h1 (by decide)
    · rw [if_neg c] at h2
      cases h2
      rw [if_neg c]
  · unfold fX8_seek
    rw [show (6 : Int32).toNatClampNeg = 6 from rfl]
    by_cases c : μ 1 6 = 1
    · rw [if_pos c, ob_ h2, qp_]
      exact h3
    · rw [if_neg c] at h1
      cases h1
theorem mo_walk (h : r5_ n R pt σ (μ 1)) (hB : R ≤ B) (v : Int32) : mo_ σ μ (B + 1) (fX2_moveSeeker v σ) (fX8_walk v μ) := by
  refine mo_of (act := fun μ' => fX8_walks v μ') (fun μ' hm => mv_walk h hm v) hB (fun e h1 h2 => ?_) (fun μ1 x h1 h2 h3 => ?_)
  · unfold fX8_walk
    rw [show (6 : Int32).toNatClampNeg = 6 from rfl]
    rw [q_in] at h2 ⊢
    have h2 : (if (if v < -1 ∨ 1 < v then (0 : Int32) else 1) = 0 then some (-10002 : Int32) else if μ 1 6 = 2 then some 0 else some (-10003)) = some e := h2
    show (if (if v < -1 ∨ 1 < v then (0 : Int32) else 1) = 0 then some ((-10002 : Int32), μ) else if μ 1 6 = 2 then _ else some (-10003, μ)) = some (e, μ)
    by_cases c : (if v < -1 ∨ 1 < v then (0 : Int32) else 1) = 0
    · rw [if_pos c] at h2 ⊢
      cases h2; rfl
    · rw [if_neg c] at h2 ⊢
      by_cases c2 : μ 1 6 = 2
      · rw [if_pos c2] at h2
        cases h2
        exact absurd h1 (by decide)
      · rw [if_neg c2] at h2 ⊢
        cases h2; rfl
  · unfold fX8_walk
    rw [show (6 : Int32).toNatClampNeg = 6 from rfl]
    rw [q_in] at h1 ⊢
    have h1 : (if (if v < -1 ∨ 1 < v then (0 : Int32) else 1) = 0 then some (-10002 : Int32) else if μ 1 6 = 2 then some 0 else some (-10003)) = some 0 := h1
    show (if (if v < -1 ∨ 1 < v then (0 : Int32) else 1) = 0 then some ((-10002 : Int32), μ) else if μ 1 6 = 2 then (fX8_record μ).bind fun σ5 => (fX8_walks v σ5).bind fun q_9 => some (q_9.1, q_9.2) else some (-10003, μ)) = some x
    by_cases c : (if v < -1 ∨ 1 < v then (0 : Int32) else 1) = 0
    · rw [if_pos c] at h1
      cases h1
    · rw [if_neg c] at h1 ⊢
      by_cases c2 : μ 1 6 = 2
      · rw [if_pos c2, ob_ h2, qp_]
        exact h3
      · rw [if_neg c2] at h1
        cases h1
theorem mo_set (h : r5_ n R pt σ (μ 1)) (hB : R ≤ B) (p v : Int32) : mo_ σ μ (B + 1) (fX2_changeSetting p v σ) (fX8_set p v μ) := by
  rcases mv_set (μ' := μ) h rfl p v with ⟨e, e1, e2, e3, e4⟩ | ⟨r, σ2, -, r1, r2, -⟩
  · refine Or.inl ⟨e, e1, e2, ?_⟩
    unfold fX8_set
    rw [ob_ e3, if_pos p00, e4]
  · refine Or.inr ⟨r, σ2, r1, r2, fun μ1 g1 g2 => ?_⟩
    rcases mv_set (μ' := μ1) h g2 p v with ⟨e, e1, e2, -⟩ | ⟨r', σ3, z3, -, w2, w3, w4, w5⟩
    · exfalso
      rw [r2] at e2
      cases e2
      rw [fa_lt] at e1
      rw [fa_le] at r1
      omega
    · rw [r2] at w2
      cases w2
      refine ⟨z3, ?_, n, R, pt, by omega, w5⟩
      unfold fX8_set
      rw [ob_ w3, if_neg n10, ob_ g1]
      exact w4
theorem mo_join (h : r5_ n R pt σ (μ 1)) (hB : R ≤ B) : mo_ σ μ (B + 1) (fX2_addPlayer σ) (fX8_join μ) := by
  have hn := h.2.1.1
  have M1 : ∀ e : Int32, e < 0 → (if μ 1 6 ≤ 0 then (if μ 1 4 = 8 then some (-10004) else some 0) else some (-10003 : Int32)) = some e → fX8_join μ = some (e, μ) := by
    intro e h1 h2
    unfold fX8_join
    rw [show (6 : Int32).toNatClampNeg = 6 from rfl, show (4 : Int32).toNatClampNeg = 4 from rfl]
    by_cases c : μ 1 6 ≤ 0
    · rw [if_pos c] at h2 ⊢
      by_cases c2 : μ 1 4 = 8
      · rw [if_pos c2] at h2 ⊢
        cases h2; rfl
      · rw [if_neg c2] at h2
        cases h2
        exact absurd h1 (by decide)
    · rw [if_neg c] at h2 ⊢
      cases h2; rfl
  have M2 : ∀ μ1 x, (if μ 1 6 ≤ 0 then (if μ 1 4 = 8 then some (-10004) else some 0) else some (-10003 : Int32)) = some 0 → fX8_record μ = some μ1 → lX8_join_35 70 0 μ1 = some x → fX8_join μ = some x := by
    intro μ1 x h1 h2 h3
    unfold fX8_join
    rw [show (6 : Int32).toNatClampNeg = 6 from rfl, show (4 : Int32).toNatClampNeg = 4 from rfl]
    by_cases c : μ 1 6 ≤ 0
    · rw [if_pos c] at h1 ⊢
      by_cases c2 : μ 1 4 = 8
      · rw [if_pos c2] at h1
        cases h1
      · rw [if_neg c2, ob_ h2]
        exact h3
    · rw [if_neg c] at h1
      cases h1
  rcases mv_join (μ' := μ) h rfl with ⟨e, e1, e2, e3⟩ | ⟨σ2, -, r2, -⟩
  · exact Or.inl ⟨e, e1, e2, M1 e e1 e3⟩
  · refine Or.inr ⟨nI n, σ2, nI_pos' (by omega), r2, fun μ1 g1 g2 => ?_⟩
    rcases mv_join (μ' := μ1) h g2 with ⟨e, e1, e2, -⟩ | ⟨σ3, z3, w2, w3, w4, w5⟩
    · exfalso
      rw [r2] at e2
      cases e2
      exact nI_pos (by omega) e1
    · rw [r2] at w2
      cases w2
      exact ⟨z3, M2 μ1 _ w3 g1 w4, n + 1, R, pt, by omega, w5⟩
end Z
