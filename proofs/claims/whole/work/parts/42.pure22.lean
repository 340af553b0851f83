/-! the text: typed, cleared; a state of reading -/
theorem ch_ : ∀ k, k < 127 → vp_nar .char ((nI k).toUInt32 % 65536).toInt32 = nI k := by decide +kernel
section Z
variable {B : Nat} {Λ : s3_T} {π : Nat → Nat} {μ : sg_T}
theorem z_append (h : rg_ B Λ π μ) (p : Int32) : ∃ (r : Int32) (Λ' : s3_T) (π' : Nat → Nat) (μ' : sg_T), fX7_append p Λ π = some (r, Λ', π') ∧ fX8_append p μ = some (r, μ') ∧ rg_ B Λ' π' μ' := by
  have h' := h
  obtain ⟨r1, ⟨⟨c, c1, c2, c3, c4⟩, k2, k3⟩, r3, ⟨t, t1, t2, t3, t4⟩⟩ := h'
  have no : ∀ e : Int32, fX1_add p (Λ 9) = some (e, Λ 9) → fX8_append p μ = some (e, μ) → ∃ (r : Int32) (Λ' : s3_T) (π' : Nat → Nat) (μ' : sg_T), fX7_append p Λ π = some (r, Λ', π') ∧ fX8_append p μ = some (r, μ') ∧ rg_ B Λ' π' μ' := by
    intro e e1 e2
    refine ⟨e, Λ, π, μ, ?_, e2, h⟩
    unfold fX7_append
    rw [ob_ e1]
    show some (e, sg_3 Λ 9 (Λ 9), π) = _
    rw [sg_3i _ _ _ rfl]
  have hq : ∀ {x : Option (Int32 × sg_T)}, fX8_append p μ = x → fX8_append p μ = x := fun h => h
  by_cases d1 : p < 33
  · refine no (-10002) ?_ ?_
    · unfold fX1_add; rw [if_pos d1]
    · unfold fX8_append; rw [q_in, if_pos (Or.inl d1)]; rfl
  by_cases d2 : p ≤ 126
  · have d3 : ¬ (p < 33 ∨ 126 < p) := fun q => by
      rcases q with q | q
      · exact d1 q
      · exact (fa_nle.mpr q) d2
    by_cases q : t = 60
    · subst q
      refine no (-10004) ?_ ?_
      · unfold fX1_add; rw [if_neg d1, if_pos d2, t2, if_neg (show ¬ nI 60 < 60 by decide)]
      · unfold fX8_append; rw [q_in, if_neg d3, o1_, t3, if_pos (show nI 60 = 60 from rfl)]
    · have hp0 : ¬ p < 0 := by
        rw [fa_lt] at d1 ⊢
        have : (0 : Int32).toInt = 0 := by decide
        have : (33 : Int32).toInt = 33 := by decide
        omega
      obtain ⟨j, hj, rfl⟩ := nI_of hp0
      have j126 : j ≤ 126 := by
        rw [show (126 : Int32) = nI 126 from rfl, nI_leI hj (by decide)] at d2
        exact d2
      have m1 : fX8_append (nI j) μ = some (nI (t + 1), sg_a (sg_a μ 4 (upd (μ 4) t (nI j))) 0 (sg_u (μ 0) 2 (nI (t + 1)))) := by
        unfold fX8_append
        rw [q_in, if_neg d3, o1_, t3, if_neg (by rw [show (60 : Int32) = nI 60 from rfl, nI_eq (by omega) (by decide)]; exact q), ox_ (by omega) (by decide), cl_ (by omega), ch_ j (by omega), nI_1]
      refine ⟨nI (t + 1), sg_3 Λ 9 (sg_a (sg_a (Λ 9) 1 (upd (Λ 9 1) t (nI j))) 0 (sg_u (Λ 9 0) 0 (nI (t + 1)))), π, _, ?_, m1, ?_, ⟨⟨c, c1, ?_, ?_, fun k hk => ?_⟩, k2, k3⟩, ?_, ⟨t + 1, by omega, ?_, ?_, fun k hk => ?_⟩⟩
      · unfold fX7_append fX1_add
        rw [if_neg d1, if_pos d2, t2, if_pos (by rw [show (60 : Int32) = nI 60 from rfl, nI_ltI (by omega) (by decide)]; omega), ox_ (by omega) (by decide), cl_ (by omega), nI_1]
        rfl
      · rw [sg_3n _ _ (by decide), sg_an _ _ (by decide), sg_an _ _ (by decide)]; exact r1
      · rw [sg_3n _ _ (by decide)]; exact c2
      · rw [sg_as, sg_un _ _ (by decide)]; exact c3
      · have := k2 k (by omega)
        rw [sg_3n _ _ (by omega), sg_an _ _ (by decide), sg_an _ _ (by decide)]; exact c4 k hk
      · unfold rv_
        rw [sg_3n _ _ (by decide), sg_3n _ _ (by decide), sg_as, sg_un _ _ (by decide), sg_an _ _ (show 3 ≠ 0 by decide), sg_an _ _ (show 3 ≠ 4 by decide)]; exact r3
      · rw [sg_3s, sg_as, sg_us]
      · rw [sg_as, sg_us]
      · rw [sg_3s, sg_an _ _ (show 1 ≠ 0 by decide), sg_as, sg_an _ _ (show 4 ≠ 0 by decide), sg_as]
        by_cases w : k = t
        · subst w
          rw [up_s, up_s]
          exact ⟨rfl, d1, fun w => (fa_nle.mpr w) d2⟩
        · rw [up_n _ _ w, up_n _ _ w]
          exact t4 k (by omega)
  · refine no (-10002) ?_ ?_
    · unfold fX1_add; rw [if_neg d1, if_neg d2]
    · unfold fX8_append; rw [q_in, if_pos (Or.inr (fa_nle.mp d2))]; rfl
theorem z_clear (h : rg_ B Λ π μ) : ∃ (r : Int32) (Λ' : s3_T) (π' : Nat → Nat) (μ' : sg_T), fX7_clearText Λ π = some (r, Λ', π') ∧ fX8_clearText μ = some (r, μ') ∧ rg_ B Λ' π' μ' := by
  obtain ⟨r1, ⟨⟨c, c1, c2, c3, c4⟩, k2, k3⟩, r3, ⟨t, t1, t2, t3, t4⟩⟩ := h
  refine ⟨nI t, sg_3 Λ 9 (sg_a (Λ 9) 0 (sg_u (Λ 9 0) 0 0)), π, sg_a μ 0 (sg_u (μ 0) 2 0), ?_, ?_, ?_, ⟨⟨c, c1, ?_, ?_, fun k hk => ?_⟩, k2, k3⟩, ?_, ⟨0, by omega, ?_, ?_, fun k hk => absurd hk (by omega)⟩⟩
  · unfold fX7_clearText fX1_empty
    rw [t2]; rfl
  · unfold fX8_clearText
    rw [t3]
  · rw [sg_3n _ _ (by decide), sg_an _ _ (by decide)]; exact r1
  · rw [sg_3n _ _ (by decide)]; exact c2
  · rw [sg_as, sg_un _ _ (by decide)]; exact c3
  · have := k2 k (by omega)
    rw [sg_3n _ _ (by omega), sg_an _ _ (by decide)]; exact c4 k hk
  · unfold rv_
    rw [sg_3n _ _ (by decide), sg_3n _ _ (by decide), sg_as, sg_un _ _ (by decide), sg_an _ _ (show 3 ≠ 0 by decide)]; exact r3
  · rw [sg_3s, sg_as, sg_us]; rfl
  · rw [sg_as, sg_us]; rfl
end Z
/-! reading: t signs f, m moves told, at p, wrong w -/
def TX (t : Nat) (f : Nat → Int32) (m p : Nat) (w : Int32) (μ : sg_T) : Prop := μ 0 2 = nI t ∧ μ 0 3 = nI m ∧ μ 0 4 = nI p ∧ μ 0 5 = w ∧ ∀ k, k < t → μ 4 k = f k
def FR (μ μ' : sg_T) : Prop := (∀ k, k < 3 → μ' 0 k = μ 0 k) ∧ ∀ j, j ≠ 0 → j ≠ 5 → μ' j = μ j
theorem FR_t {μ μ' μ'' : sg_T} (h1 : FR μ μ') (h2 : FR μ' μ'') : FR μ μ'' := ⟨fun k hk => (h2.1 k hk).trans (h1.1 k hk), fun j a b => (h2.2 j a b).trans (h1.2 j a b)⟩
def lt_ (t : Nat) (f : Nat → Int32) (p : Nat) : Int32 := if p < t then f p else NO
section Z
variable {t m p : Nat} {f : Nat → Int32} {μ : sg_T} {w : Int32}
theorem tx_let (h : TX t f m p w μ) (ht : t ≤ 60) (hp : p < 2 ^ 30) : fX8_letter μ = some (lt_ t f p) := by
  obtain ⟨h2, h3, h4, h5, h6⟩ := h
  unfold fX8_letter lt_
  rw [h2, h4]
  by_cases q : p < t
  · rw [if_neg (by rw [nI_leI (by omega) (by omega)]; omega), if_pos q, ox_ (by omega) (by decide), cl_ (by omega), h6 p q]
  · rw [if_pos ((nI_leI (by omega) (by omega)).mpr (by omega)), if_neg q]
theorem tx_5 (h : TX t f m p w μ) (g : Nat → Int32) : TX t f m p w (sg_a μ 5 g) ∧ FR μ (sg_a μ 5 g) := by
  obtain ⟨h2, h3, h4, h5, h6⟩ := h
  refine ⟨⟨?_, ?_, ?_, ?_, fun k hk => ?_⟩, fun k hk => ?_, fun j a b => sg_an _ _ b⟩
  · rw [sg_an _ _ (by decide)]; exact h2
  · rw [sg_an _ _ (by decide)]; exact h3
  · rw [sg_an _ _ (by decide)]; exact h4
  · rw [sg_an _ _ (by decide)]; exact h5
  · rw [sg_an _ _ (by decide)]; exact h6 k hk
  · rw [sg_an _ _ (by decide)]
theorem tx_Y (h : TX t f m p NO μ) (x : Int32) (hx : ¬ x = 0) : ∃ μ', fX8_wants x μ = some μ' ∧ TX t f m (p + 1) NO μ' ∧ FR μ μ' ∧ μ' 5 = μ 5 := by
  obtain ⟨h2, h3, h4, h5, h6⟩ := h
  refine ⟨sg_a (sg_a μ 0 (sg_u (μ 0) 5 (-10006))) 0 (sg_u (sg_u (μ 0) 5 (-10006)) 4 (nI (p + 1))), ?_, ⟨?_, ?_, ?_, ?_, fun k hk => ?_⟩, ⟨fun k hk => ?_, fun j a b => ?_⟩, ?_⟩
  · unfold fX8_wants
    rw [if_pos h5, if_neg hx, h4, nI_1]
  · rw [sg_as, sg_un _ _ (by decide), sg_un _ _ (by decide)]; exact h2
  · rw [sg_as, sg_un _ _ (by decide), sg_un _ _ (by decide)]; exact h3
  · rw [sg_as, sg_us]
  · rw [sg_as, sg_un _ _ (by decide), sg_us]
  · rw [sg_an _ _ (by decide), sg_an _ _ (by decide)]; exact h6 k hk
  · rw [sg_as, sg_un _ _ (by omega), sg_un _ _ (by omega)]
  · rw [sg_an _ _ a, sg_an _ _ a]
  · rw [sg_an _ _ (by decide), sg_an _ _ (by decide)]
theorem tx_N (h : TX t f m p NO μ) : ∃ μ', fX8_wants 0 μ = some μ' ∧ TX t f m (p + 1) (nI p) μ' ∧ FR μ μ' ∧ μ' 5 = μ 5 := by
  obtain ⟨h2, h3, h4, h5, h6⟩ := h
  refine ⟨sg_a (sg_a μ 0 (sg_u (μ 0) 5 (nI p))) 0 (sg_u (sg_u (μ 0) 5 (nI p)) 4 (nI (p + 1))), ?_, ⟨?_, ?_, ?_, ?_, fun k hk => ?_⟩, ⟨fun k hk => ?_, fun j a b => ?_⟩, ?_⟩
  · unfold fX8_wants
    rw [if_pos h5, if_pos p00, h4, nI_1]
  · rw [sg_as, sg_un _ _ (by decide), sg_un _ _ (by decide)]; exact h2
  · rw [sg_as, sg_un _ _ (by decide), sg_un _ _ (by decide)]; exact h3
  · rw [sg_as, sg_us]
  · rw [sg_as, sg_un _ _ (by decide), sg_us]
  · rw [sg_an _ _ (by decide), sg_an _ _ (by decide)]; exact h6 k hk
  · rw [sg_as, sg_un _ _ (by omega), sg_un _ _ (by omega)]
  · rw [sg_an _ _ a, sg_an _ _ a]
  · rw [sg_an _ _ (by decide), sg_an _ _ (by decide)]
theorem tx_S (h : TX t f m p w μ) (hw : ¬ w = NO) (x : Int32) : fX8_wants x μ = some μ := by
  obtain ⟨h2, h3, h4, h5, h6⟩ := h
  unfold fX8_wants
  rw [h5, if_neg hw]
theorem tx_m (h : TX t f m p w μ) : TX t f (m + 1) p w (sg_a μ 0 (sg_u (μ 0) 3 ((μ 0 3) + 1))) ∧ FR μ (sg_a μ 0 (sg_u (μ 0) 3 ((μ 0 3) + 1))) := by
  obtain ⟨h2, h3, h4, h5, h6⟩ := h
  refine ⟨⟨?_, ?_, ?_, ?_, fun k hk => ?_⟩, fun k hk => ?_, fun j a b => sg_an _ _ a⟩
  · rw [sg_as, sg_un _ _ (by decide)]; exact h2
  · rw [sg_as, sg_us, h3, nI_1]
  · rw [sg_as, sg_un _ _ (by decide)]; exact h4
  · rw [sg_as, sg_un _ _ (by decide)]; exact h5
  · rw [sg_an _ _ (by decide)]; exact h6 k hk
  · rw [sg_as, sg_un _ _ (by omega)]
end Z
