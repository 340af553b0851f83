/-! the operations, whole -/
theorem sg_3i (Λ : s3_T) (j : Nat) (τ : sg_T) (h : Λ j = τ) : sg_3 Λ j τ = Λ := by
  funext k
  by_cases w : k = j
  · subst w; rw [sg_3s, h]
  · rw [sg_3n _ _ w]
section Z
variable {B B' : Nat} {Λ : s3_T} {π : Nat → Nat} {μ : sg_T}
theorem z_op (h : rg_ B Λ π μ) {cls : sg_T → Option (Int32 × sg_T)} {m : Option (Int32 × sg_T)} (H : mo_ (Λ 0) μ B' (cls (Λ 0)) m) (hB : B ≤ B') : ∃ (r : Int32) (Λ' : s3_T) (π' : Nat → Nat) (μ' : sg_T), ((fX3_draft Λ π).bind fun q_1 => ((cls (q_1.1 0)).bind fun q_3 => ((fX3_keep q_3.1 (sg_3 q_1.1 0 q_3.2) q_1.2).bind fun q_5 => (some (q_5.1, q_5.2.1, q_5.2.2))))) = some (r, Λ', π') ∧ m = some (r, μ') ∧ rg_ B' Λ' π' μ' := by
  obtain ⟨c, c1, c2, c3, p1, p2, d⟩ := z_draft h
  have e0 : sg_3 Λ (π c) (Λ 0) 0 = Λ 0 := sg_3n _ _ (by omega)
  rw [ob_ d]
  show ∃ (r : Int32) (Λ' : s3_T) (π' : Nat → Nat) (μ' : sg_T), ((cls (sg_3 Λ (π c) (Λ 0) 0)).bind fun q_3 => ((fX3_keep q_3.1 (sg_3 (sg_3 Λ (π c) (Λ 0)) 0 q_3.2) π).bind fun q_5 => (some (q_5.1, q_5.2.1, q_5.2.2)))) = some (r, Λ', π') ∧ m = some (r, μ') ∧ rg_ B' Λ' π' μ'
  rw [e0]
  rcases H with ⟨e, e1, e2, e3⟩ | ⟨r, σ', r1, r2, r3⟩
  · obtain ⟨Λ', k1, k2⟩ := z_keepN h c1 c2 e1
    refine ⟨e, Λ', π, μ, ?_, e3, rg_m k2 hB⟩
    rw [ob_ e2]
    show (fX3_keep e (sg_3 (sg_3 Λ (π c) (Λ 0)) 0 (Λ 0)) π).bind _ = _
    rw [ob_ k1]
  · obtain ⟨Λ', π', μ1, k1, k2, k3, k4, k5, k6⟩ := z_keepY h c1 c2 r1 hB (σ' := σ') (τ := Λ 9)
    rw [sg_3i _ 9 (Λ 9) (by rw [sg_3n _ _ (by omega), sg_3n _ _ (by omega)])] at k1
    obtain ⟨z', w1, w2⟩ := r3 μ1 k2 (k3 1 (by decide) (by decide))
    refine ⟨r, Λ', π', sg_a μ1 1 z', ?_, w1, k6 _ (sg_an _ _ (by decide)) (sg_an _ _ (by decide)) ?_ ?_ ?_ ?_⟩
    · rw [ob_ r2]
      show (fX3_keep r (sg_3 (sg_3 Λ (π c) (Λ 0)) 0 σ') π).bind _ = _
      rw [ob_ k1]
    · rw [sg_an _ _ (by decide)]
    · rw [sg_an _ _ (by decide)]
    · rw [sg_as]; exact w2
    · obtain ⟨t, t1, t2, t3, t4⟩ := h.2.2.2
      refine ⟨t, t1, ?_, ?_, ?_⟩
      · rw [k5]; exact t2
      · rw [sg_an _ _ (by decide), k4 2 (by decide)]; exact t3
      · rw [k5, sg_an _ _ (by decide), k3 4 (by decide) (by decide)]; exact t4
/-- a copy back -/
theorem res17 {μ : sg_T} : ∀ d a f, a + d = 108 → d < f → lX8_restore_17 f (nI a) (sg_a μ 1 (wc_ (μ 1) (μ 3) 0 a)) = some (μ 3 4, sg_a μ 1 (wc_ (μ 1) (μ 3) 0 108)) := by
  intro d
  induction d with
  | zero =>
    intro a f ha hf
    obtain ⟨f, rfl⟩ : ∃ g, f = g + 1 := ⟨f - 1, by omega⟩
    have ha : a = 108 := by omega
    subst ha
    rw [lX8_restore_17, if_pos (show (108 : Int32) ≤ nI 108 by decide), sg_as, show (4 : Int32).toNatClampNeg = 0 + 4 from rfl, wc_in (by decide)]
  | succ d ih =>
    intro a f ha hf
    obtain ⟨f, rfl⟩ : ∃ g, f = g + 1 := ⟨f - 1, by omega⟩
    have w := wc_1 (μ 1) (μ 3) 0 a
    rw [Nat.zero_add] at w
    rw [lX8_restore_17, if_neg (by rw [show (108 : Int32) = nI 108 from rfl, nI_leI (by decide) (by omega)]; omega), ox_ (by omega) (by decide), cl_ (by omega), nI_1, sg_as, sg_aa, sg_an _ _ (show 3 ≠ 1 by decide), w]
    exact ih (a + 1) f (by omega) (by omega)
theorem sav7 {μ : sg_T} : ∀ d a f, a + d = 108 → d < f → lX8_save_7 f (nI a) (sg_a μ 3 (wc_ (μ 3) (μ 1) 0 a)) = some (μ 1 4, sg_a μ 3 (wc_ (μ 3) (μ 1) 0 108)) := by
  intro d
  induction d with
  | zero =>
    intro a f ha hf
    obtain ⟨f, rfl⟩ : ∃ g, f = g + 1 := ⟨f - 1, by omega⟩
    have ha : a = 108 := by omega
    subst ha
    rw [lX8_save_7, if_pos (show (108 : Int32) ≤ nI 108 by decide), sg_an _ _ (show 1 ≠ 3 by decide)]
    rfl
  | succ d ih =>
    intro a f ha hf
    obtain ⟨f, rfl⟩ : ∃ g, f = g + 1 := ⟨f - 1, by omega⟩
    have w := wc_1 (μ 3) (μ 1) 0 a
    rw [Nat.zero_add] at w
    rw [lX8_save_7, if_neg (by rw [show (108 : Int32) = nI 108 from rfl, nI_leI (by decide) (by omega)]; omega), ox_ (by omega) (by decide), cl_ (by omega), nI_1, sg_as, sg_aa, sg_an _ _ (show 1 ≠ 3 by decide), w]
    exact ih (a + 1) f (by omega) (by omega)
theorem und23 {μ : sg_T} {c : Nat} (hc : c < 5) (h0 : μ 0 0 = nI c) : ∀ d a f, a + d = 108 → d < f → lX8_undo_23 f (nI a) (sg_a μ 1 (wc_ (μ 1) (fun j => μ 2 (c * 108 + j)) 0 a)) = some (nI c, sg_a μ 1 (wc_ (μ 1) (fun j => μ 2 (c * 108 + j)) 0 108)) := by
  intro d
  induction d with
  | zero =>
    intro a f ha hf
    obtain ⟨f, rfl⟩ : ∃ g, f = g + 1 := ⟨f - 1, by omega⟩
    have ha : a = 108 := by omega
    subst ha
    rw [lX8_undo_23, if_pos (show (108 : Int32) ≤ nI 108 by decide), sg_an _ _ (show 0 ≠ 1 by decide), h0]
  | succ d ih =>
    intro a f ha hf
    obtain ⟨f, rfl⟩ : ∃ g, f = g + 1 := ⟨f - 1, by omega⟩
    have w := wc_1 (μ 1) (fun j => μ 2 (c * 108 + j)) 0 a
    rw [Nat.zero_add] at w
    rw [lX8_undo_23, if_neg (by rw [show (108 : Int32) = nI 108 from rfl, nI_leI (by decide) (by omega)]; omega), sg_an _ _ (show 0 ≠ 1 by decide), h0, cx_, ox_ (by omega) (by decide), ox_ (by omega) (by decide), cl_ (by omega), cl_ (by omega), nI_1, sg_as, sg_aa, sg_an _ _ (show 2 ≠ 1 by decide), w]
    exact ih (a + 1) f (by omega) (by omega)
theorem z_restore (h : rg_ B Λ π μ) : ∃ (r : Int32) (Λ' : s3_T) (π' : Nat → Nat) (μ' : sg_T), fX7_restore Λ π = some (r, Λ', π') ∧ fX8_restore μ = some (r, μ') ∧ rg_ B Λ' π' μ' := by
  unfold fX7_restore fX8_restore
  rcases h.2.2.1 with ⟨v1, v2⟩ | ⟨v1, v2, v3⟩
  · rw [if_pos v1, if_pos v2]
    exact ⟨_, _, _, _, rfl, rfl, h⟩
  · rw [if_neg (by rw [v1]; exact n10), if_neg (by rw [v2]; exact n10)]
    obtain ⟨n, R, pt, hR, hz⟩ := v3
    have hz' : r5_ n R pt (Λ 1) (sg_a μ 1 (μ 3) 1) := by rw [sg_as]; exact hz
    obtain ⟨hn, f1, f2⟩ := z_0 hz'
    rw [sg_as] at f2
    have H : mo_ (Λ 0) μ B ((fun _ => some (Λ 1 0 0, Λ 1)) (Λ 0)) ((fX8_record μ).bind fun σ2 => lX8_restore_17 150 0 σ2) := by
      refine Or.inr ⟨Λ 1 0 0, Λ 1, by rw [f1]; exact nI_pos' (by omega), rfl, fun μ1 g1 g2 => ?_⟩
      obtain ⟨c, c1, c2, c3, -⟩ := h.2.1.1
      obtain ⟨μ2, m1, m2, -⟩ := z_rec c1 c3
      rw [g1] at m1
      cases m1
      have s := res17 (μ := μ1) 108 0 150 (by decide) (by decide)
      rw [wc_0, sg_ai] at s
      refine ⟨wc_ (μ1 1) (μ1 3) 0 108, ?_, RZ_c ⟨n, R, pt, hR, hz⟩ (fun j hj => ?_)⟩
      · rw [ob_ g1, f1, ← f2, ← m2 3 (by decide) (by decide)]
        exact s
      · have w := wc_in (f := μ1 1) (g := μ1 3) (b := 0) hj
        rw [Nat.zero_add] at w
        rw [w, m2 3 (by decide) (by decide)]
    obtain ⟨r, Λ', π', μ', k1, k2, k3⟩ := z_op (cls := fun _ => some (Λ 1 0 0, Λ 1)) h H (Nat.le_refl _)
    obtain ⟨c, c1, c2, c3, p1, p2, d⟩ := z_draft h
    rw [ob_ d] at k1 ⊢
    refine ⟨r, Λ', π', μ', ?_, k2, k3⟩
    have e1 : sg_3 Λ (π c) (Λ 0) 1 = Λ 1 := sg_3n _ _ (by omega)
    show ((fX3_keep ((sg_3 (sg_3 Λ (π c) (Λ 0)) 0 (sg_3 Λ (π c) (Λ 0) 1)) 0 0 0) (sg_3 (sg_3 Λ (π c) (Λ 0)) 0 (sg_3 Λ (π c) (Λ 0) 1)) π).bind fun q_4 => some (q_4.1, q_4.2.1, q_4.2.2)) = _
    rw [e1, sg_3s]
    exact k1
theorem z_save (h : rg_ B Λ π μ) : ∃ (r : Int32) (Λ' : s3_T) (π' : Nat → Nat) (μ' : sg_T), fX7_save Λ π = some (r, Λ', π') ∧ fX8_save μ = some (r, μ') ∧ rg_ B Λ' π' μ' := by
  obtain ⟨n, R, pt, hR, hz⟩ := h.1
  obtain ⟨hn, f1, f2⟩ := z_0 hz
  obtain ⟨r1, ⟨⟨c, c1, c2, c3, c4⟩, k2, k3⟩, r3, r4⟩ := h
  have s := sav7 (μ := sg_a μ 0 (sg_u (μ 0) 1 1)) 108 0 150 (by decide) (by decide)
  rw [wc_0, sg_ai, sg_an _ _ (show 1 ≠ 0 by decide), sg_an _ _ (show 3 ≠ 0 by decide), f2] at s
  have e8 : sg_3 (sg_3 Λ 1 (Λ 0)) 8 (sg_a (Λ 8) 0 (sg_u (Λ 8 0) 0 1)) 8 = sg_a (Λ 8) 0 (sg_u (Λ 8 0) 0 1) := sg_3s _ _ _
  have e1 : sg_3 (sg_3 Λ 1 (Λ 0)) 8 (sg_a (Λ 8) 0 (sg_u (Λ 8 0) 0 1)) 1 = Λ 0 := by rw [sg_3n _ _ (by decide), sg_3s]
  have e0 : ∀ j, j ≠ 1 → j ≠ 8 → sg_3 (sg_3 Λ 1 (Λ 0)) 8 (sg_a (Λ 8) 0 (sg_u (Λ 8 0) 0 1)) j = Λ j := fun j h1 h2 => by rw [sg_3n _ _ h2, sg_3n _ _ h1]
  refine ⟨nI n, sg_3 (sg_3 Λ 1 (Λ 0)) 8 (sg_a (Λ 8) 0 (sg_u (Λ 8 0) 0 1)), π, _, ?_, s, ?_, ⟨⟨c, c1, ?_, ?_, fun k hk => ?_⟩, k2, k3⟩, Or.inr ⟨?_, ?_, ?_⟩, ?_⟩
  · unfold fX7_save
    rw [sg_3n Λ (Λ 0) (show 0 ≠ 1 by decide), sg_3n Λ (Λ 0) (show 8 ≠ 1 by decide), f1]
  · rw [e0 0 (by decide) (by decide), sg_an _ _ (by decide), sg_an _ _ (by decide)]
    exact r1
  · rw [e8, sg_as, sg_un _ _ (by decide)]; exact c2
  · rw [sg_an _ _ (by decide), sg_as, sg_un _ _ (by decide)]; exact c3
  · have := k2 k (by omega)
    rw [e0 (π k) (by omega) (by omega), sg_an _ _ (by decide), sg_an _ _ (by decide)]
    exact c4 k hk
  · rw [e8, sg_as, sg_us]
  · rw [sg_an _ _ (by decide), sg_as, sg_us]
  · rw [e1, sg_as]
    refine RZ_c r1 (fun j hj => ?_)
    have w := wc_in (f := μ 3) (g := μ 1) (b := 0) hj
    rw [Nat.zero_add] at w
    rw [w]
  · obtain ⟨t, t1, t2, t3, t4⟩ := r4
    refine ⟨t, t1, ?_, ?_, ?_⟩
    · rw [e0 9 (by decide) (by decide)]; exact t2
    · rw [sg_an _ _ (by decide), sg_as, sg_un _ _ (by decide)]; exact t3
    · rw [e0 9 (by decide) (by decide), sg_an _ _ (by decide), sg_an _ _ (by decide)]; exact t4
theorem z_undo (h : rg_ B Λ π μ) : ∃ (r : Int32) (Λ' : s3_T) (π' : Nat → Nat) (μ' : sg_T), fX7_undo Λ π = some (r, Λ', π') ∧ fX8_undo μ = some (r, μ') ∧ rg_ B Λ' π' μ' := by
  have h' := h
  obtain ⟨r1, ⟨⟨c, c1, c2, c3, c4⟩, k2, k3⟩, r3, r4⟩ := h'
  unfold fX7_undo fX3_takeBack fX8_undo
  rw [c2, c3]
  cases c with
  | zero =>
    rw [if_pos (show nI 0 = 0 from rfl), if_pos (show nI 0 = 0 from rfl)]
    exact ⟨_, _, _, _, rfl, rfl, h⟩
  | succ c =>
    have v : ¬ nI (c + 1) = 0 := by rw [show (0 : Int32) = nI 0 from rfl, nI_eq (by omega) (by decide)]; omega
    obtain ⟨p1, p2⟩ := k2 c (by omega)
    rw [if_neg v, if_neg v, nI_pred, ox_ (by omega) (by decide), cl_ (by omega), ok_ ⟨p1, p2⟩]
    have s := und23 (μ := sg_a μ 0 (sg_u (μ 0) 0 (nI c))) (c := c) (by omega) (by rw [sg_as, sg_us]) 108 0 150 (by decide) (by decide)
    rw [wc_0, sg_ai, sg_an _ _ (show 1 ≠ 0 by decide), sg_an _ _ (show 2 ≠ 0 by decide)] at s
    have e8 : sg_3 Λ 8 (sg_a (Λ 8) 0 (sg_u (Λ 8 0) 1 (nI c))) 8 = sg_a (Λ 8) 0 (sg_u (Λ 8 0) 1 (nI c)) := sg_3s _ _ _
    have e0 : ∀ j, j ≠ 8 → sg_3 Λ 8 (sg_a (Λ 8) 0 (sg_u (Λ 8 0) 1 (nI c))) j = Λ j := fun j h1 => by rw [sg_3n _ _ h1]
    rw [e0 (π c) (by omega)]
    generalize hΛ : sg_3 Λ 8 (sg_a (Λ 8) 0 (sg_u (Λ 8 0) 1 (nI c))) = Λ1 at *
    refine ⟨nI c, sg_3 Λ1 0 (Λ (π c)), π, _, ?_, s, ?_, ⟨⟨c, by omega, ?_, ?_, fun k hk => ?_⟩, k2, k3⟩, ?_, ?_⟩
    · show some (sg_3 Λ1 0 (Λ (π c)) 8 0 1, sg_3 Λ1 0 (Λ (π c)), π) = _
      rw [sg_3n _ _ (by decide), e8, sg_as, sg_us]
    · rw [sg_3s, sg_as]
      refine RZ_c (c4 c (by omega)) (fun j hj => ?_)
      have w := wc_in (f := μ 1) (g := fun j => μ 2 (c * 108 + j)) (b := 0) hj
      rw [Nat.zero_add] at w
      rw [w]
    · rw [sg_3n _ _ (by decide), e8, sg_as, sg_us]
    · rw [sg_an _ _ (by decide), sg_as, sg_us]
    · have := k2 k (by omega)
      rw [sg_3n _ _ (by omega), e0 _ (by omega), sg_an _ _ (by decide), sg_an _ _ (by decide)]
      exact c4 k (by omega)
    · unfold rv_
      have q1 : sg_3 Λ1 0 (Λ (π c)) 8 0 0 = Λ 8 0 0 := by rw [sg_3n _ _ (by decide), e8, sg_as, sg_un _ _ (by decide)]
      have q3 : sg_3 Λ1 0 (Λ (π c)) 1 = Λ 1 := by rw [sg_3n _ _ (by decide), e0 1 (by decide)]
      have q2 : ∀ w, sg_a (sg_a μ 0 (sg_u (μ 0) 0 (nI c))) 1 w 0 1 = μ 0 1 := fun w => by rw [sg_an _ _ (by decide), sg_as, sg_un _ _ (by decide)]
      have q4 : ∀ w, sg_a (sg_a μ 0 (sg_u (μ 0) 0 (nI c))) 1 w 3 = μ 3 := fun w => by rw [sg_an _ _ (by decide), sg_an _ _ (by decide)]
      rw [q1, q2, q3, q4]
      exact r3
    · obtain ⟨t, t1, t2, t3, t4⟩ := r4
      refine ⟨t, t1, ?_, ?_, ?_⟩
      · rw [sg_3n _ _ (by decide), e0 9 (by decide)]; exact t2
      · rw [sg_an _ _ (by decide), sg_as, sg_un _ _ (by decide)]; exact t3
      · rw [sg_3n _ _ (by decide), e0 9 (by decide), sg_an _ _ (by decide), sg_an _ _ (by decide)]; exact t4
end Z
