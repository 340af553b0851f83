/-! a round's end, whole -/
theorem nu_ : ∀ (f : Nat → Int32) (k : Nat), f k = NO → upd f k NO = f := fun f k h => fa_upd_same h
section Z
variable {n R pt : Nat} {σ μ : sg_T}
theorem z_all (h : r5_ n R pt σ (μ 1)) (h0 : cn_ (hd_ σ) n = 0) : ∀ p, p < 8 → σ 7 p = NO := by
  intro p hp
  rcases Nat.lt_or_ge p n with q | q
  · have := cn_0.mp h0 p q
    unfold hd_ at this
    have h2 := of_decide_eq_false this
    exact Decidable.not_not.mp h2
  · exact (h.2.2.2.2.1.2.2.1 p q hp).2.2.2.2.2
/-- the model's first loop of 'ends' changes nothing then -/
theorem z_ends0 {n : Nat} (hn : n ≤ 8) : ∀ (d i f : Nat), i + d = n → d < f → ∀ μ : sg_T, μ 1 4 = nI n → (∀ p, p < n → μ 1 (12 + 6 * p + 5) = NO) → lX8_ends_28 f (nI i) μ = lX8_ends_54 70 (nI 0) μ := by
  intro d
  induction d with
  | zero =>
    intro i f hi hf μ h1 h2
    obtain ⟨f, rfl⟩ : ∃ g, f = g + 1 := ⟨f - 1, by omega⟩
    have hi : i = n := by omega
    subst hi
    rw [lX8_ends_28, show (4 : Int32).toNatClampNeg = 4 from rfl, h1, if_pos ((nI_leI (by omega) (by omega)).mpr (Nat.le_refl i))]
    rfl
  | succ d ih =>
    intro i f hi hf μ h1 h2
    obtain ⟨f, rfl⟩ : ∃ g, f = g + 1 := ⟨f - 1, by omega⟩
    rw [lX8_ends_28, show (4 : Int32).toNatClampNeg = 4 from rfl, h1, if_neg (by rw [nI_leI (by omega) (by omega)]; omega), ob_ (q_hides (show i < 8 by omega) _ μ), nI_1, show (-10006 : Int32) = NO from rfl, nu_ _ _ (h2 i (by omega)), sg_ai]
    exact ih (i + 1) f (by omega) (by omega) μ h1 h2
theorem z_end (h : r5_ n R pt σ (μ 1)) (hno : ∀ p, p < 8 → σ 7 p = NO) (hR : R + 1 < 2 ^ 30) : ∃ (σ' : sg_T) (z' : Nat → Int32), fX2_endRound σ = some σ' ∧ fX8_ends μ = some (sg_a μ 1 z') ∧ r5_ n (R + 1) 0 σ' z' := by
  obtain ⟨hn, hpt, b1, b2, b3, b4, b5, b6⟩ := h.2.1
  obtain ⟨⟨s0, s1, s2, s3⟩, sr0, sr1, ⟨r, hr, sr2⟩, sr3⟩ := h.2.2.1
  -- the class's row behind the fields
  obtain ⟨F, hF⟩ : ∃ F, F = sg_u (sg_u (sg_u (sg_u (sg_u (sg_u (σ 0) 2 0) 3 (-10006)) 4 (-10006)) 5 (-10006)) 6 0) 1 (σ 0 1 + 1) := ⟨_, rfl⟩
  obtain ⟨Z, hZ⟩ : ∃ Z, Z = upd (upd (upd (μ 1) 6 0) 10 0) 5 (μ 1 5 + 1) := ⟨_, rfl⟩
  have F0 : F 0 = nI n := by rw [hF, sg_un _ _ (by decide), sg_un _ _ (by decide), sg_un _ _ (by decide), sg_un _ _ (by decide), sg_un _ _ (by decide), sg_un _ _ (by decide)]; exact b1
  have F1 : F 1 = nI (R + 1) := by rw [hF, sg_us, b3, nI_1]
  have F2 : F 2 = nI 0 := by rw [hF, sg_un _ _ (by decide), sg_un _ _ (by decide), sg_un _ _ (by decide), sg_un _ _ (by decide), sg_un _ _ (by decide), sg_us]; rfl
  have F3 : F 3 = NO := by rw [hF, sg_un _ _ (by decide), sg_un _ _ (by decide), sg_un _ _ (by decide), sg_un _ _ (by decide), sg_us]
  have F4 : F 4 = NO := by rw [hF, sg_un _ _ (by decide), sg_un _ _ (by decide), sg_un _ _ (by decide), sg_us]
  have F5 : F 5 = NO := by rw [hF, sg_un _ _ (by decide), sg_un _ _ (by decide), sg_us]
  have F6 : F 6 = 0 := by rw [hF, sg_un _ _ (by decide), sg_us]
  have Zo : ∀ k, k ≠ 5 → k ≠ 6 → k ≠ 10 → Z k = μ 1 k := fun k h1 h2 h3 => by rw [hZ, up_n _ _ h1, up_n _ _ h3, up_n _ _ h2]
  have Z5 : Z 5 = nI (R + 1) := by rw [hZ, up_s, b4, nI_1]
  have Z6 : Z 6 = nI 0 := by rw [hZ, up_n _ _ (by decide), up_n _ _ (by decide), up_s]; rfl
  have Z10 : Z 10 = 0 := by rw [hZ, up_n _ _ (by decide), up_s]
  have hc : fX2_endRound σ = lX2_endRound_43 70 (nI 0) (sg_a σ 0 F) := by
    unfold fX2_endRound
    rw [sg_aa, sg_aa, sg_aa, sg_aa, sg_aa, ← hF]
    rfl
  have hm : fX8_ends μ = lX8_ends_28 70 (nI 0) (sg_a μ 1 Z) := by
    unfold fX8_ends
    rw [sg_aa, sg_aa, show (6 : Int32).toNatClampNeg = 6 from rfl, show (10 : Int32).toNatClampNeg = 10 from rfl, show (5 : Int32).toNatClampNeg = 5 from rfl, up_n _ _ (show 5 ≠ 10 by decide), up_n _ _ (show 5 ≠ 6 by decide), ← hZ]
    rfl
  have hno2 : ∀ p, p < n → (sg_a μ 1 Z) 1 (12 + 6 * p + 5) = NO := fun p hp => by
    rw [sg_as, Zo _ (by omega) (by omega) (by omega), z_h h hp]
    exact hno p (by omega)
  rw [hc, hm, z_ends0 hn n 0 70 (by omega) (by omega) _ (by rw [sg_as, Zo 4 (by decide) (by decide) (by decide)]; exact b2) hno2]
  obtain ⟨σ', z', g1, g2, g3, g4, g5⟩ := z_endl hR hr 16 0 70 (by omega) (by omega) (sg_a σ 0 F) (sg_a μ 1 Z) (by rw [sg_an _ _ (by decide)]; exact sr2) (by rw [sg_as, Zo 2 (by decide) (by decide) (by decide), s2]; exact sr2) (by rw [sg_as]; exact Z5) (fun s hs => absurd hs (Nat.not_lt_zero s)) (fun s _ hs => by
    rw [sg_as]
    exact hs_c (h.2.2.2.2.2 s hs) (by rw [sg_an _ _ (by decide)]) (by rw [sg_an _ _ (by decide)]) (fun j hj => Zo _ (by omega) (by omega) (by omega)))
  refine ⟨σ', z', g1, by rw [g2, sg_aa], hR, ?_, ?_, ?_, ?_, g5⟩
  · refine ⟨hn, by omega, ?_, ?_, ?_, ?_, ?_, ?_⟩
    · rw [g3 0 (by decide), sg_as]; exact F0
    · rw [g4 4 (by decide), sg_as, Zo 4 (by decide) (by decide) (by decide)]; exact b2
    · rw [g3 0 (by decide), sg_as]; exact F1
    · rw [g4 5 (by decide), sg_as]; exact Z5
    · rw [g3 0 (by decide), sg_as]; exact F2
    · rw [g4 6 (by decide), sg_as]; exact Z6
  · unfold rs_
    rw [g3 1 (by decide), sg_an _ _ (by decide), g4 0 (by decide), g4 1 (by decide), g4 2 (by decide), g4 3 (by decide), sg_as, Zo 0 (by decide) (by decide) (by decide), Zo 1 (by decide) (by decide) (by decide), Zo 2 (by decide) (by decide) (by decide), Zo 3 (by decide) (by decide) (by decide)]
    exact ⟨⟨s0, s1, s2, s3⟩, sr0, sr1, ⟨r, hr, sr2⟩, sr3⟩
  · unfold rt_
    rw [g3 0 (by decide), sg_as, g4 10 (by decide), sg_as]
    exact ⟨fun _ => ⟨F3, F4⟩, fun q => absurd rfl q, fun q => absurd q (by decide), fun _ => ⟨F5, F6⟩, fun q => absurd q (by decide), by rw [Z10, F6]⟩
  · exact rp_c h.2.2.2.2.1 hn (fun j h1 h2 => by rw [g3 j h2, sg_an _ _ (by omega)]) (fun k h1 h2 => by rw [g4 k h2, sg_as, Zo k (by omega) (by omega) (by omega)]) (fun _ => hno)
/-- the round ends if nobody is hidden any more -/
theorem z_endE (h : r5_ n R pt σ (μ 1)) (hR : R + 1 < 2 ^ 30) : ∃ (σ' : sg_T) (z' : Nat → Int32) (R' pt' : Nat), R' ≤ R + 1 ∧ fX2_endRoundIfNobodyIsHidden σ = some σ' ∧ fX8_endsIfEmpty μ = some (sg_a μ 1 z') ∧ r5_ n R' pt' σ' z' := by
  obtain ⟨hn, -⟩ := z_0 h
  obtain ⟨c1, c2⟩ := z_hc h
  have c3 := cn_le (hd_ σ) n
  unfold fX2_endRoundIfNobodyIsHidden fX8_endsIfEmpty
  rw [ob_ c1, ob_ c2]
  by_cases q : cn_ (hd_ σ) n = 0
  · obtain ⟨σ', z', g1, g2, g3⟩ := z_end h (z_all h q) hR
    rw [q, if_pos nI_0, if_pos nI_0, ob_ g1, ob_ g2]
    exact ⟨σ', z', R + 1, 0, Nat.le_refl _, rfl, rfl, g3⟩
  · rw [if_neg (nI_ne0 (by omega) (by omega)), if_neg (nI_ne0 (by omega) (by omega))]
    exact ⟨σ, μ 1, R, pt, by omega, rfl, by rw [sg_ai], h⟩
/-- the seeking begins -/
theorem z_seek (h : r5_ n R pt σ (μ 1)) (hp : pt = 1) (hR : R + 1 < 2 ^ 30) : ∃ (r : Int32) (σ' : sg_T) (z' : Nat → Int32) (R' pt' : Nat), 0 ≤ r ∧ R' ≤ R + 1 ∧ fX2_beginSeeking σ = some (r, σ') ∧ fX8_seeks μ = some (r, sg_a μ 1 z') ∧ r5_ n R' pt' σ' z' := by
  subst hp
  obtain ⟨hR0, ⟨hn, hpt, b1, b2, b3, b4, b5, b6⟩, hs, ht, hpp, hh⟩ := id h
  obtain ⟨-, t2, -, -, t5, t6⟩ := ht
  obtain ⟨k, b, hk, hb1, hb2, e3, e7, e4, e8⟩ := t2 (by decide)
  obtain ⟨F, hF⟩ : ∃ F, F = sg_u (sg_u (σ 0) 2 2) 5 0 := ⟨_, rfl⟩
  have F5 : F 5 = 0 := by rw [hF, sg_us]
  have F2 : F 2 = nI 2 := by rw [hF, sg_un _ _ (by decide), sg_us]; rfl
  have Fo : ∀ i, i ≠ 2 → i ≠ 5 → F i = σ 0 i := fun i h1 h2 => by rw [hF, sg_un _ _ h2, sg_un _ _ h1]
  have h2 : r5_ n R 2 (sg_a σ 0 F) ((sg_a μ 1 (upd (μ 1) 6 2)) 1) := by
    rw [sg_as]
    refine ⟨hR0, ⟨hn, by decide, ?_, ?_, ?_, ?_, ?_, ?_⟩, ?_, ?_, ?_, ?_⟩
    · rw [sg_as, Fo 0 (by decide) (by decide)]; exact b1
    · rw [up_n _ _ (by decide)]; exact b2
    · rw [sg_as, Fo 1 (by decide) (by decide)]; exact b3
    · rw [up_n _ _ (by decide)]; exact b4
    · rw [sg_as]; exact F2
    · rw [up_s]; rfl
    · unfold rs_ at hs ⊢
      rw [sg_an _ _ (by decide), up_n _ _ (by decide), up_n _ _ (by decide), up_n _ _ (by decide), up_n _ _ (by decide)]
      exact hs
    · unfold rt_
      rw [sg_as, up_n _ _ (by decide), up_n _ _ (by decide), up_n _ _ (by decide), up_n _ _ (by decide), F5, Fo 3 (by decide) (by decide), Fo 4 (by decide) (by decide), Fo 6 (by decide) (by decide)]
      exact ⟨fun q => absurd q (by decide), fun _ => ⟨k, b, hk, hb1, hb2, e3, e7, e4, e8⟩, fun _ => ⟨0, by decide, rfl, t5 rfl⟩, fun q => absurd rfl q, fun q => absurd q (by decide), t6⟩
    · exact rp_c hpp hn (fun j h1 h2 => sg_an _ _ (by omega)) (fun i h1 h2 => up_n _ _ (by omega)) (fun q => absurd q (by decide))
    · exact fun s hs => hs_c (hh s hs) (by rw [sg_an _ _ (by decide)]) (by rw [sg_an _ _ (by decide)]) (fun j hj => up_n _ _ (by omega))
  obtain ⟨σ', z', R', pt', hR', g1, g2, g3⟩ := z_endE h2 hR
  have c3 := cn_le (hd_ σ) n
  have c1 := (z_hc h2).1
  have c2 := (z_hc h).2
  have e : cn_ (hd_ (sg_a σ 0 F)) n = cn_ (hd_ σ) n := cn_c (fun i hi => by unfold hd_; rw [sg_an _ _ (by decide)])
  rw [e] at c1
  refine ⟨nI (cn_ (hd_ σ) n), σ', z', R', pt', nI_pos' (by omega), hR', ?_, ?_, g3⟩
  · unfold fX2_beginSeeking
    rw [b5, if_pos (show nI 1 = 1 from rfl), sg_aa, ← hF, ob_ c1, ob_ g1]
  · unfold fX8_seeks
    rw [ob_ c2, show (6 : Int32).toNatClampNeg = 6 from rfl, ob_ g2, sg_aa]
end Z
