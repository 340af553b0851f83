/-! the ring of states, as far as it matters here -/
def rk_ (Λ : s3_T) (π : Nat → Nat) : Prop := ∃ c, c ≤ 5 ∧ Λ 8 0 1 = nI c ∧ ∀ k, k < 6 → 2 ≤ π k ∧ π k < 8
theorem rk_op {Λ : s3_T} {π : Nat → Nat} (F : sg_T → Option (Int32 × sg_T)) (h : rk_ Λ π) {r : Int32} {σ' : sg_T} (hF : F (Λ 0) = some (r, σ')) : ∃ (Λ' : s3_T) (π' : Nat → Nat), ((fX3_draft Λ π).bind fun q_1 => ((F (q_1.1 0)).bind fun q_3 => ((fX3_keep q_3.1 (sg_3 q_1.1 0 q_3.2) q_1.2).bind fun q_5 => (some (q_5.1, q_5.2.1, q_5.2.2))))) = some (r, Λ', π') ∧ Λ' 0 = σ' ∧ rk_ Λ' π' := by
  obtain ⟨c, c1, c2, k2⟩ := h
  obtain ⟨p1, p2⟩ := k2 c (by omega)
  have dr : fX3_draft Λ π = some (sg_3 Λ (π c) (Λ 0), π) := by
    unfold fX3_draft
    rw [c2, ox_ (by omega) (by decide), cl_ (by omega), ok_ ⟨p1, p2⟩]
  rw [ob_ dr]
  show ∃ Λ' π', ((F (sg_3 Λ (π c) (Λ 0) 0)).bind fun q_3 => ((fX3_keep q_3.1 (sg_3 (sg_3 Λ (π c) (Λ 0)) 0 q_3.2) π).bind fun q_5 => (some (q_5.1, q_5.2.1, q_5.2.2)))) = some (r, Λ', π') ∧ _
  rw [sg_3n _ _ (by omega), ob_ hF]
  show ∃ Λ' π', ((fX3_keep r (sg_3 (sg_3 Λ (π c) (Λ 0)) 0 σ') π).bind fun q_5 => (some (q_5.1, q_5.2.1, q_5.2.2))) = some (r, Λ', π') ∧ _
  have f8 : sg_3 (sg_3 Λ (π c) (Λ 0)) 0 σ' 8 = Λ 8 := by rw [sg_3n _ _ (by decide), sg_3n _ _ (by omega)]
  have f0 : sg_3 (sg_3 Λ (π c) (Λ 0)) 0 σ' 0 = σ' := sg_3s _ _ _
  generalize sg_3 (sg_3 Λ (π c) (Λ 0)) 0 σ' = Λ2 at *
  unfold fX3_keep
  by_cases q : 0 ≤ r
  · rw [if_pos q, f8, c2]
    by_cases q5 : (5 : Int32) ≤ nI c
    · rw [if_pos q5]
      have dd : fX3_discardOldest Λ2 π = some (Λ2, dp_ π) := by
        unfold fX3_discardOldest
        rw [ok_ (k2 1 (by decide)).2, ok_ (k2 2 (by decide)).2, ok_ (k2 3 (by decide)).2, ok_ (k2 4 (by decide)).2, ok_ (k2 5 (by decide)).2, ok_ (k2 0 (by decide)).2]
      rw [ob_ dd]
      refine ⟨Λ2, dp_ π, rfl, f0, c, c1, by rw [f8]; exact c2, fun k hk => ?_⟩
      unfold dp_
      by_cases e : k < 5
      · rw [if_pos e]; exact k2 (k + 1) (by omega)
      · rw [if_neg e, if_pos (by omega)]; exact k2 0 (by omega)
    · rw [if_neg q5]
      rw [show (5 : Int32) = nI 5 from rfl, nI_leI (by decide) (by omega)] at q5
      refine ⟨sg_3 Λ2 8 (sg_a (Λ 8) 0 (sg_u (Λ 8 0) 1 (nI c + 1))), π, rfl, by rw [sg_3n _ _ (by decide)]; exact f0, c + 1, by omega, ?_, k2⟩
      rw [sg_3s, sg_as, sg_us, nI_1]
  · rw [if_neg q]
    exact ⟨Λ2, π, rfl, f0, c, c1, by rw [f8]; exact c2, k2⟩
