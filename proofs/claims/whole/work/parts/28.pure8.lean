/-! escapes, finds, false cries -/
section Z
variable {n R pt : Nat} {σ μ : sg_T}
/-- one escapes -/
theorem z_esc1 (h : r5_ n R pt σ (μ 1)) {k : Nat} (hk : k < n) (v : Int32) : ∃ (σ' : sg_T) (z' : Nat → Int32), fX2_escape (nI k) v σ = some σ' ∧ fX8_escapes (nI k) v μ = some (sg_a μ 1 z') ∧ r5_ n R pt σ' z' ∧ (∀ p, p ≠ k → σ' 7 p = σ 7 p) ∧ σ' 7 k = NO ∧ σ' 0 = σ 0 := by
  obtain ⟨hn, -⟩ := z_0 h
  have h1 := r5_no h hk
  have h2 := r5_add (j := 0) h1 hk (by decide) (σ 2 k + v)
  have h3 := r5_add (j := 4) h2 hk (by decide) (σ 6 k + 1)
  have e0 := (h.2.2.2.2.1.1 k hk).1
  have e4 := (h.2.2.2.2.1.1 k hk).2.2.2.2.1
  refine ⟨_, _, ?_, ?_, h3, ?_, ?_, ?_⟩
  · unfold fX2_escape
    rw [ox_ (by omega) (by decide), cl_ (by omega)]
    rfl
  · unfold fX8_escapes
    rw [ob_ (q_hides (by omega) _ _), show fX8_adds (nI k) 0 v (sg_a μ 1 (upd (μ 1) (12 + 6 * k + 5) (-10006))) = fX8_adds (nI k) (nI 0) v (sg_a μ 1 (upd (μ 1) (12 + 6 * k + 5) (-10006))) from rfl, ob_ (q_adds (by omega) (by decide) _ _), sg_as, sg_aa, up_n _ _ (by omega), e0]
    rw [show ∀ x, fX8_adds (nI k) 4 1 x = fX8_adds (nI k) (nI 4) 1 x from fun _ => rfl, ob_ (q_adds (by omega) (by decide) _ _), sg_as, sg_aa, up_n _ _ (by omega), up_n _ _ (by omega), e4]
  · intro p hp
    rw [sg_an _ _ (by decide), sg_an _ _ (by decide), sg_as, up_n _ _ hp]
  · rw [sg_an _ _ (by decide), sg_an _ _ (by decide), sg_as, up_s]
  · rw [sg_an _ _ (by decide), sg_an _ _ (by decide), sg_an _ _ (by decide)]
/-- all escape, then the round ends -/
theorem z_allesc (p1 p2 p3 : Int32) : ∀ (d i f : Nat), i + d = n → d < f → ∀ σ μ : sg_T, r5_ n R pt σ (μ 1) → R + 1 < 2 ^ 30 → (∀ p, p < i → σ 7 p = NO) → ∃ (σ1 σ' : sg_T) (z' : Nat → Int32), lX2_letAllEscape_2 f (nI i) σ = some σ1 ∧ fX2_endRound σ1 = some σ' ∧ lX8_cries_95 f p1 p2 p3 (nI i) μ = some (0, sg_a μ 1 z') ∧ r5_ n (R + 1) 0 σ' z' := by
  intro d
  induction d with
  | zero =>
    intro i f hi hf σ μ h hR hno
    obtain ⟨hn, e1, e2⟩ := z_0 h
    obtain ⟨f, rfl⟩ : ∃ g, f = g + 1 := ⟨f - 1, by omega⟩
    have hi : i = n := by omega
    subst hi
    have hall : ∀ p, p < 8 → σ 7 p = NO := fun p hp => by
      rcases Nat.lt_or_ge p i with q | q
      · exact hno p q
      · exact (h.2.2.2.2.1.2.2.1 p q hp).2.2.2.2.2
    obtain ⟨σ', z', g1, g2, g3⟩ := z_end h hall hR
    rw [lX2_letAllEscape_2, lX8_cries_95, show (4 : Int32).toNatClampNeg = 4 from rfl, e1, e2, if_pos ((nI_leI (by omega) (by omega)).mpr (Nat.le_refl i)), if_pos ((nI_leI (by omega) (by omega)).mpr (Nat.le_refl i)), ob_ g2]
    exact ⟨σ, σ', z', rfl, g1, rfl, g3⟩
  | succ d ih =>
    intro i f hi hf σ μ h hR hno
    obtain ⟨hn, e1, e2⟩ := z_0 h
    obtain ⟨f, rfl⟩ : ∃ g, f = g + 1 := ⟨f - 1, by omega⟩
    have q0 : ¬ nI n ≤ nI i := by rw [nI_leI (by omega) (by omega)]; omega
    rw [lX2_letAllEscape_2, lX8_cries_95, show (4 : Int32).toNatClampNeg = 4 from rfl, e1, e2, if_neg q0, if_neg q0, ob_ (z_hid h (show i < n by omega)), show (5 : Int32) = nI 5 from rfl, ob_ (q_of (show i < 8 by omega) (by decide) μ), z_h h (show i < n by omega), nI_1]
    by_cases q : σ 7 i = NO
    · rw [if_pos q, if_pos rfl, if_pos q]
      exact ih (i + 1) f (by omega) (by omega) σ μ h hR (fun p hp => by
        by_cases e : p = i
        · rw [e]; exact q
        · exact hno p (by omega))
    · obtain ⟨σ1, z1, g1, g2, g3, g4, g5, -⟩ := z_esc1 h (show i < n by omega) 1
      rw [if_neg q, if_neg (by decide), if_neg q, ob_ g1, ob_ g2]
      obtain ⟨σ2, σ', z', k1, k2, k3, k4⟩ := ih (i + 1) f (by omega) (by omega) σ1 (sg_a μ 1 z1) (by rw [sg_as]; exact g3) hR (fun p hp => by
        by_cases e : p = i
        · rw [e]; exact g5
        · rw [g4 p e]; exact hno p (by omega))
      exact ⟨σ2, σ', z', k1, k2, by rw [k3, sg_aa], k4⟩
/-- the seeker finds one -/
theorem z_find1 (h : r5_ n R pt σ (μ 1)) (hp : pt ≠ 0) {k : Nat} (hk : k < n) (v : Int32) (hR : R + 1 < 2 ^ 30) : ∃ (σ' : sg_T) (z' : Nat → Int32) (R' pt' sk : Nat), R' ≤ R + 1 ∧ sk < n ∧ μ 1 7 = nI sk ∧ fX2_findPlayer (nI k) v σ = some σ' ∧ fX8_endsIfEmpty (sg_a μ 1 (upd (upd (upd (μ 1) (12 + 6 * k + 5) NO) (12 + 6 * sk + 0) (μ 1 (12 + 6 * sk + 0) + v)) (12 + 6 * sk + 2) (μ 1 (12 + 6 * sk + 2) + 1))) = some (sg_a μ 1 z') ∧ r5_ n R' pt' σ' z' := by
  obtain ⟨hn, -⟩ := z_0 h
  obtain ⟨sk, b, hs, -, -, s3, s7, -, -⟩ := h.2.2.2.1.2.1 hp
  have e0 := (h.2.2.2.2.1.1 sk hs).1
  have e2 := (h.2.2.2.2.1.1 sk hs).2.2.1
  have h1 := r5_no h hk
  have h2 := r5_add (j := 0) h1 hs (by decide) (σ 2 sk + v)
  have h3 := r5_add (j := 2) h2 hs (by decide) (σ 4 sk + 1)
  have h4 : r5_ n R pt (sg_a (sg_a (sg_a σ 7 (upd (σ 7) k NO)) 2 (upd (σ 2) sk (σ 2 sk + v))) 4 (upd (σ 4) sk (σ 4 sk + 1))) ((sg_a μ 1 (upd (upd (upd (μ 1) (12 + 6 * k + 5) NO) (12 + 6 * sk + 0) (σ 2 sk + v)) (12 + 6 * sk + 2) (σ 4 sk + 1))) 1) := by
    rw [sg_as]
    exact h3
  obtain ⟨σ', z', R', pt', r1, r2, r3, r4⟩ := z_endE h4 hR
  refine ⟨σ', z', R', pt', sk, r1, hs, s7, ?_, by rw [e0, e2, r3, sg_aa], r4⟩
  unfold fX2_findPlayer
  have pp : fX5_isPlayer (σ 0 3) (sg_a σ 7 (upd (σ 7) k NO)) = some 1 := by
    rw [s3]
    exact z_isP (μ := sg_a μ 1 (upd (μ 1) (12 + 6 * k + 5) NO)) (by rw [sg_as]; exact h1) hs
  rw [ox_ (by omega) (by decide), cl_ (by omega), show (-10006 : Int32) = NO from rfl, ob_ pp, if_neg (by decide), s3, ox_ (by omega) (by decide), cl_ (by omega), ob_ r2]
/-- a spot's finds -/
theorem z_findS (h : r5_ n R pt σ (μ 1)) {s : Nat} (hs : s < 16) : ∃ (σ' : sg_T) (g : (Nat → Int32) → Nat → Int32), fX2_countFindOfSpot (nI s) σ = some σ' ∧ r5_ n R pt σ' (g (μ 1)) ∧ (∀ j, j < 8 → σ' j = σ j) ∧ (∀ μ' : sg_T, (∀ k, (k < 12 ∨ 60 ≤ k) → μ' 1 k = μ 1 k) → fX8_finds (nI s) μ' = some (sg_a μ' 1 (g (μ' 1)))) ∧ (∀ (z : Nat → Int32) (i : Nat) (x : Int32), 12 ≤ i → i < 60 → g (upd z i x) = upd (g z) i x) ∧ (∀ (z : Nat → Int32) (k : Nat), k < 60 → g z k = z k) := by
  obtain ⟨f8, hh⟩ := h.2.2.2.2.2 s hs
  obtain ⟨⟨-, m1, -, -⟩, -⟩ := h.2.2.1
  have hz5 := h.2.1.2.2.2.2.2.1
  have hR := h.1
  -- the model's functions at a row that is alike there
  have mret : ∀ μ' : sg_T, (∀ k, (k < 12 ∨ 60 ≤ k) → μ' 1 k = μ 1 k) → ∀ x : Int32, fX8_isRetired (nI s) (sg_a μ' 1 (upd (μ' 1) (60 + 3 * s + 0) x)) = some (if μ 1 (60 + 3 * s + 1) = 1 then 1 else 0) := by
    intro μ' hm x
    unfold fX8_isRetired
    have o := q_ofSpot hs (j := 1) (by decide) (sg_a μ' 1 (upd (μ' 1) (60 + 3 * s + 0) x))
    rw [sg_as, up_n _ _ (by omega), hm _ (by omega)] at o
    refine (ob_ o _).trans ?_
    by_cases q : μ 1 (60 + 3 * s + 1) = 1
    · exact (if_pos q).trans (by rw [if_pos q])
    · exact (if_neg q).trans (by rw [if_neg q])
  have cret : fX5_isRetired (nI s) (sg_a σ 8 (upd (σ 8) s (σ 8 s + 1))) = some (if σ 9 s = -1 then 0 else 1) := by
    unfold fX5_isRetired
    rw [ob_ (z_isS hs), if_neg (by decide), ox_ (by omega) (by decide), cl_ (by omega), sg_an _ _ (by decide)]
    by_cases q : σ 9 s = -1
    · rw [if_pos q, if_pos q]
    · rw [if_neg q, if_neg q]
  have cc : fX2_countFindOfSpot (nI s) σ = (if σ 8 s + 1 < σ 1 1 then some (sg_a σ 8 (upd (σ 8) s (σ 8 s + 1))) else (if (if σ 9 s = -1 then (0 : Int32) else 1) = 0 then some (sg_a (sg_a σ 8 (upd (σ 8) s (σ 8 s + 1))) 9 (upd (σ 9) s 0)) else some (sg_a σ 8 (upd (σ 8) s (σ 8 s + 1))))) := by
    unfold fX2_countFindOfSpot
    rw [ox_ hs (by decide), cl_ (by omega), up_s, show (1 : Int32).toNatClampNeg = 1 from rfl, ob_ cret]
  have mm : ∀ μ' : sg_T, (∀ k, (k < 12 ∨ 60 ≤ k) → μ' 1 k = μ 1 k) → fX8_finds (nI s) μ' = (if (if μ 1 (60 + 3 * s + 1) = 1 then (1 : Int32) else 0) = 0 then (if σ 8 s + 1 < σ 1 1 then some (sg_a μ' 1 (upd (μ' 1) (60 + 3 * s + 0) (σ 8 s + 1))) else some (sg_a μ' 1 (upd (upd (upd (μ' 1) (60 + 3 * s + 0) (σ 8 s + 1)) (60 + 3 * s + 1) 1) (60 + 3 * s + 2) (nI R)))) else some (sg_a μ' 1 (upd (μ' 1) (60 + 3 * s + 0) (σ 8 s + 1)))) := by
    intro μ' hm
    unfold fX8_finds
    have o := q_ofSpot hs (j := 0) (by decide) (sg_a μ' 1 (upd (μ' 1) (60 + 3 * s + 0) (σ 8 s + 1)))
    rw [sg_as, up_s] at o
    have e0 : μ' 1 (60 + 3 * s + 0) = σ 8 s := by rw [hm _ (by omega)]; exact f8
    have e1 : μ' 1 1 = σ 1 1 := by rw [hm 1 (by omega)]; exact m1
    have e5 : μ' 1 5 = nI R := by rw [hm 5 (by omega)]; exact hz5
    have z0 : (60 : Int32) + 3 * nI s = nI (60 + 3 * s + 0) := by
      show nI 60 + nI 3 * nI s = _
      rw [sz0_, Nat.add_zero]
    have z1 : nI (60 + 3 * s + 0) + 1 = nI (60 + 3 * s + 1) := nI_1 _
    have z2 : nI (60 + 3 * s + 0) + 2 = nI (60 + 3 * s + 2) := nI_add (60 + 3 * s + 0) 2
    have o' : fX8_ofSpot (nI s) 0 (sg_a μ' 1 (upd (μ' 1) (60 + 3 * s + 0) (σ 8 s + 1))) = some (σ 8 s + 1) := o
    rw [z0, z1, z2, ox_ (by omega) (by decide), ox_ (by omega) (by decide), ox_ (by omega) (by decide), cl_ (by omega), cl_ (by omega), cl_ (by omega), e0, ob_ (mret μ' hm _), ob_ o', show (1 : Int32).toNatClampNeg = 1 from rfl, show (5 : Int32).toNatClampNeg = 5 from rfl, up_n _ _ (by omega : 1 ≠ 60 + 3 * s + 0), e1, sg_aa, sg_aa, up_n _ _ (by omega : 5 ≠ 60 + 3 * s + 1), up_n _ _ (by omega : 5 ≠ 60 + 3 * s + 0), e5]
  have plain : ∀ σ' : sg_T, σ' = sg_a σ 8 (upd (σ 8) s (σ 8 s + 1)) → r5_ n R pt σ' (upd (μ 1) (60 + 3 * s + 0) (σ 8 s + 1)) := by
    intro σ' e
    subst e
    refine r5_h h (fun j hj => sg_an _ _ (by omega)) (fun k hk => up_n _ _ (by omega)) (fun t ht => ?_)
    by_cases q : t = s
    · subst q
      refine ⟨by rw [up_s, sg_as, up_s], ?_⟩
      rw [sg_an _ _ (by decide), up_n _ _ (by omega), up_n _ _ (by omega)]
      exact hh
    · exact hs_c (h.2.2.2.2.2 t ht) (by rw [sg_as, up_n _ _ q]) (by rw [sg_an _ _ (by decide)]) (fun j hj => up_n _ _ (by omega))
  have swap : ∀ (z : Nat → Int32) (i : Nat) (x : Int32), 12 ≤ i → i < 60 → upd (upd z i x) (60 + 3 * s + 0) (σ 8 s + 1) = upd (upd z (60 + 3 * s + 0) (σ 8 s + 1)) i x := fun z i x h1 h2 => fa_upd_swap z (by omega) _ _
  by_cases c1 : σ 8 s + 1 < σ 1 1
  · refine ⟨_, fun z => upd z (60 + 3 * s + 0) (σ 8 s + 1), by rw [cc, if_pos c1], plain _ rfl, fun j hj => sg_an _ _ (by omega), fun μ' hm => ?_, swap, fun z k hk => up_n _ _ (by omega)⟩
    rw [mm μ' hm, if_pos c1]
    split <;> rfl
  · rcases hh with ⟨a1, a2⟩ | ⟨t, ht, a1, a2, a3⟩
    · refine ⟨sg_a (sg_a σ 8 (upd (σ 8) s (σ 8 s + 1))) 9 (upd (σ 9) s 0), fun z => upd (upd (upd z (60 + 3 * s + 0) (σ 8 s + 1)) (60 + 3 * s + 1) 1) (60 + 3 * s + 2) (nI R), ?_, ?_, fun j hj => by rw [sg_an _ _ (by omega), sg_an _ _ (by omega)], fun μ' hm => ?_, fun z i x h1 h2 => ?_, fun z k hk => (up_n _ _ (by omega)).trans ((up_n _ _ (by omega)).trans (up_n _ _ (by omega)))⟩
      · rw [cc, if_neg c1, if_pos (by rw [if_pos a1])]
      · show r5_ n R pt _ (upd (upd (upd (μ 1) (60 + 3 * s + 0) (σ 8 s + 1)) (60 + 3 * s + 1) 1) (60 + 3 * s + 2) (nI R))
        refine r5_h h (fun j hj => by rw [sg_an _ _ (by omega), sg_an _ _ (by omega)]) (fun k hk => by rw [up_n _ _ (by omega), up_n _ _ (by omega), up_n _ _ (by omega)]) (fun t ht => ?_)
        by_cases q : t = s
        · subst q
          refine ⟨?_, Or.inr ⟨0, Nat.zero_le R, ?_, ?_, ?_⟩⟩
          · rw [up_n _ _ (by omega), up_n _ _ (by omega), up_s, sg_an _ _ (by decide), sg_as, up_s]
          · rw [sg_as, up_s]; rfl
          · rw [up_n _ _ (by omega), up_s]
          · rw [up_s]; rfl
        · exact hs_c (h.2.2.2.2.2 t ht) (by rw [sg_an _ _ (by decide), sg_as, up_n _ _ q]) (by rw [sg_as, up_n _ _ q]) (fun j hj => by rw [up_n _ _ (by omega), up_n _ _ (by omega), up_n _ _ (by omega)])
      · rw [mm μ' hm, if_pos (by rw [a2, if_neg (by decide)]), if_neg c1]
      · show upd (upd (upd (upd z i x) _ _) _ _) _ _ = _
        rw [swap z i x h1 h2, fa_upd_swap (upd z (60 + 3 * s + 0) (σ 8 s + 1)) (show i ≠ 60 + 3 * s + 1 by omega), fa_upd_swap (upd (upd z (60 + 3 * s + 0) (σ 8 s + 1)) (60 + 3 * s + 1) 1) (show i ≠ 60 + 3 * s + 2 by omega)]
    · have n1 : ¬ σ 9 s = -1 := by
        rw [a1, fa_eq, nI_toInt (by omega)]
        have : (-1 : Int32).toInt = -1 := by decide
        omega
      refine ⟨_, fun z => upd z (60 + 3 * s + 0) (σ 8 s + 1), by rw [cc, if_neg c1, if_neg (by rw [if_neg n1]; decide)], plain _ rfl, fun j hj => sg_an _ _ (by omega), fun μ' hm => ?_, swap, fun z k hk => up_n _ _ (by omega)⟩
      rw [mm μ' hm, if_neg (by rw [a2, if_pos rfl]; decide)]
end Z
