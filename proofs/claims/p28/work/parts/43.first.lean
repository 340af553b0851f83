/-! the first states -/
theorem e_53 (Λ : s3_T) (π : Nat → Nat) (Ω : sg_T) : ∀ d i f, i + d = 8 → d < f → lL_law_53 f (nI i) Λ π (sg_a Ω 1 (e5_ (Ω 1) i)) = some (sg_a Ω 1 (e5_ (Ω 1) 8)) := by
  intro d
  induction d with
  | zero =>
    intro i f hi hf
    obtain ⟨f, rfl⟩ : ∃ g, f = g + 1 := ⟨f - 1, by omega⟩
    have hi : i = 8 := by omega
    subst hi
    rw [lL_law_53, if_pos (show (8 : Int32) ≤ nI 8 by decide)]
  | succ d ih =>
    intro i f hi hf
    obtain ⟨f, rfl⟩ : ∃ g, f = g + 1 := ⟨f - 1, by omega⟩
    have hin : i < 8 := by omega
    rw [lL_law_53, if_neg (gt_8 hin), o6_5 hin, c6_5 hin, sg_as, sg_aa, e5_1, nI_1]
    exact ih (i + 1) f (by omega) (by omega)
def fG_ : Nat → Int32 := upd (upd (upd (upd (gO0 4) 0 1) 1 2) 2 2) 3 2
def fO_ : sg_T := sg_a (sg_a gO0 4 fG_) 1 (e5_ (sg_a gO0 4 fG_ 1) 8)
theorem fO_1 : bL_law_30 gL0 pi0 gO0 = some fO_ := by
  unfold bL_law_30
  have k := e_53 gL0 pi0 (sg_a gO0 4 fG_) 8 0 70 (by omega) (by omega)
  rw [e5_0, sg_ai] at k
  simp only [sg_aa, k_0, k_1, k_2, k_3]
  exact ob_ (show lL_law_53 70 (0 : Int32) gL0 pi0 (sg_a gO0 4 (upd (upd (upd (upd (gO0 4) 0 1) 1 2) 2 2) 3 2)) = some fO_ from k) _
theorem fO_f : ∀ p, p < 8 → ∀ j, j < 5 → fO_ 1 (6 * p + j) = 0 := fun p hp j hj => by
  show e5_ (sg_a gO0 4 fG_ 1) 8 (6 * p + j) = 0
  unfold e5_
  rw [if_neg (by omega)]
  rfl
theorem fO_g : ∀ k, 4 ≤ k → fO_ 4 k = 0 := fun k hk => by
  show fG_ k = 0
  unfold fG_
  rw [up_n _ _ (by omega), up_n _ _ (by omega), up_n _ _ (by omega), up_n _ _ (by omega)]
  rfl
theorem rel_0 : rel_ 0 gL0 pi0 fO_ := by
  have no : ∀ p, p < 8 → gS0 7 p = NO := fun p hp => (show fil_ (fun _ => 0) (-10006 : Int32) 8 p = _ from if_pos hp)
  refine ⟨⟨0, by decide, rfl, fun k hk => ?_⟩, 0, 0, 0, by decide, ⟨⟨by decide, ⟨by decide, by decide, rfl, fO_g 4 (by decide), rfl, fO_g 5 (by decide), rfl, fO_g 6 (by decide)⟩, ⟨⟨rfl, rfl, rfl, rfl⟩, ⟨1, by decide, rfl⟩, ⟨2, by decide, by decide, rfl⟩, ⟨2, by decide, rfl⟩, ⟨2, by decide, by decide, rfl⟩⟩, ⟨fun _ => ⟨rfl, rfl⟩, fun w => absurd rfl w, fun w => absurd w (by decide), fun _ => ⟨rfl, rfl⟩, fun w => absurd w (by decide), fO_g 10 (by decide)⟩, ⟨fun p hp => Or.inl (no p hp), fun p h1 hp => ⟨rfl, rfl, rfl, rfl, rfl, no p hp⟩, fun _ p hp => no p hp, fun s h1 h2 => by show (0 : Nat) ≤ 2; decide⟩, fun p hp j hj => ?_, fun s hs => ?_⟩, fun p hp => ?_, ?_⟩, fun _ => ⟨rfl, rfl⟩, fun q => absurd q (by decide)⟩
  · show 2 ≤ k + 2 ∧ k + 2 < 8
    omega
  · rw [fO_f p hp j hj]
    rcases (show j = 0 ∨ j = 1 ∨ j = 2 ∨ j = 3 ∨ j = 4 by omega) with rfl | rfl | rfl | rfl | rfl <;> rfl
  · exact ⟨rfl, Or.inl ⟨(show fil_ (fun _ => 0) (-1 : Int32) 16 s = _ from if_pos hs), rfl, rfl⟩⟩
  · show e5_ (sg_a gO0 4 fG_ 1) 8 (6 * p + 5) = hq_ (gS0 7 p)
    rw [no p hp]
    unfold e5_
    rw [if_pos (by omega)]
    rfl
  · refine ⟨fun p hp => ?_, fun p hp => ?_, fun s hs => ⟨0, Nat.zero_le _, rfl⟩⟩
    · show -((30 * 0 : Nat) : Int) ≤ (0 : Int32).toInt ∧ (0 : Int32).toInt ≤ ((30 * 0 : Nat) : Int)
      decide
    · show 0 ≤ (0 : Int32).toInt ∧ (0 : Int32).toInt ≤ ((0 : Nat) : Int)
      decide
