/-! the text is played -/
theorem pms_le {f g : Nat → Int32} {t : Nat} : ∀ n m p, pms_ f g t n m p → 2 * n + p ≤ t + 1
  | 0, m, p, h => by
    have h : p = t + 1 := h
    omega
  | n + 1, m, p, ⟨L, h1, _, _, _, _, _, h7⟩ => by
    have := pms_le n (m + 1) (p + L + 1) h7
    omega
/-- play's loop up to its end -/
def mL_ : Nat → Int32 → Int32 → (s3_T) → (Nat → Nat) → Option (Int32 × s3_T × (Nat → Nat))
  | 0, _, _, _, _ => none
  | n + 1, a1, a2, Λ, π => (if (60 : Int32) ≤ a2 then (some (a1, Λ, π)) else ((fX1_startsMove a2 (Λ 9)).bind fun r_2 => (if r_2 = 0 then (mL_ n a1 (a2 + (1 : Int32)) Λ π) else ((fX7_makeMove a2 Λ π).bind fun q_5 => (if 0 ≤ q_5.1 then (mL_ n (a1 + (1 : Int32)) (a2 + (1 : Int32)) q_5.2.1 q_5.2.2) else (some (a1, q_5.2.1, q_5.2.2)))))))
/-- what play does behind it -/
def mK_ (q : Int32 × s3_T × (Nat → Nat)) : Option (Int32 × s3_T × (Nat → Nat)) := (fX1_empty (q.2.1 9)).bind fun q_7 => ((fX3_keep q.1 (sg_3 q.2.1 9 q_7.2) q.2.2).bind fun q_9 => (some (q_9.1, q_9.2.1, q_9.2.2)))
theorem mL_play : ∀ (n : Nat) (a1 a2 : Int32) (Λ : s3_T) (π : Nat → Nat), lX7_play_32 n a1 a2 Λ π = (mL_ n a1 a2 Λ π).bind mK_ := by
  intro n
  induction n with
  | zero => intro a1 a2 Λ π; rfl
  | succ n ih =>
    intro a1 a2 Λ π
    rw [lX7_play_32, mL_]
    by_cases c : (60 : Int32) ≤ a2
    · rw [if_pos c, if_pos c]; rfl
    · rw [if_neg c, if_neg c]
      cases fX1_startsMove a2 (Λ 9) with
      | none => rfl
      | some v =>
        by_cases c2 : v = 0
        · subst c2
          exact ih _ _ _ _
        · show (if v = 0 then _ else _) = Option.bind (if v = 0 then _ else _) mK_
          rw [if_neg c2, if_neg c2]
          cases fX7_makeMove a2 Λ π with
          | none => rfl
          | some q =>
            by_cases c3 : 0 ≤ q.1
            · show (if 0 ≤ q.1 then _ else _) = Option.bind (if 0 ≤ q.1 then _ else _) mK_
              rw [if_pos c3, if_pos c3]
              exact ih _ _ _ _
            · show (if 0 ≤ q.1 then _ else _) = Option.bind (if 0 ≤ q.1 then _ else _) mK_
              rw [if_neg c3, if_neg c3]; rfl
section Z
variable {t : Nat} {Λ : s3_T} {π : Nat → Nat} {f : Nat → Int32}
theorem mk_end (G : Nat) (x : Int32) : mL_ (G + 1) x (nI 60) Λ π = some (x, Λ, π) := by
  rw [mL_, if_pos (show (60 : Int32) ≤ nI 60 by decide)]
theorem mk_skip (c0 : Λ 9 0 0 = nI t) (cf : Λ 9 1 = f) (ht : t ≤ 60) : ∀ d a G (x : Int32), (∀ k, a ≤ k → k < a + d → ¬ (k < t ∧ (k = 0 ∨ f (k - 1) = 44))) → a + d ≤ 60 → mL_ (G + d) x (nI a) Λ π = mL_ G x (nI (a + d)) Λ π := by
  intro d
  induction d with
  | zero => intro a G x _ _; rfl
  | succ d ih =>
    intro a G x h1 h2
    rw [show G + (d + 1) = G + d + 1 from rfl, mL_, if_neg (by rw [show (60 : Int32) = nI 60 from rfl, nI_leI (by decide) (by omega)]; omega), ob_ (st_ c0 cf ht (show a < 2 ^ 30 by omega)), if_neg (h1 a (Nat.le_refl _) (by omega)), if_pos p00, nI_1, ih (a + 1) G x (fun k k1 k2 => h1 k (by omega) (by omega)) (by omega), show a + 1 + d = a + (d + 1) by omega]
end Z
section Z
variable {t nn : Nat} {Λ : s3_T} {π : Nat → Nat} {f g : Nat → Int32}
theorem pl_loop (c0 : Λ 9 0 0 = nI t) (cf : Λ 9 1 = f) (ht : t ≤ 60) : ∀ (n i p G F : Nat) (σ μ : sg_T) (R pt : Nat), pms_ f g t (n + 1) i p → μ 5 = g → μ 0 3 = nI (i + n + 1) → i + n ≤ 30 → r5_ nn R pt σ (μ 1) → R + n + 2 < 2 ^ 30 → (p = 0 ∨ f (p - 1) = 44) → 62 ≤ p + G → n + 3 ≤ F → ∃ (j : Nat) (σ' μ' : sg_T), j ≤ i + n + 1 ∧ mL_ G (nI i) (nI p) (sg_3 Λ 0 σ) π = some (nI j, sg_3 Λ 0 σ', π) ∧ lX8_play_20 F (nI i) μ = some (nI j, μ') ∧ (∀ k, 2 ≤ k → μ' k = μ k) ∧ (∀ k, k ≠ 2 → μ' 0 k = μ 0 k) ∧ μ' 0 2 = 0 ∧ RZ (R + n + 1) σ' (μ' 1) := by
  intro n
  induction n with
  | zero =>
    intro i p G F σ μ R pt hP h5 h3 hi hz hR hs hG hF
    obtain ⟨L, l1, l3, l4, l6, l8, l7, l9⟩ := hP
    have l9 : p + L + 1 = t + 1 := l9
    obtain ⟨G, rfl⟩ : ∃ x, G = x + 1 + (59 - p) + 1 := ⟨G - 2 - (59 - p), by omega⟩
    obtain ⟨F, rfl⟩ : ∃ x, F = x + 2 := ⟨F - 2, by omega⟩
    have d0 : sg_3 Λ 0 σ 9 0 0 = nI t := by rw [sg_3n _ _ (by decide)]; exact c0
    have df : sg_3 Λ 0 σ 9 1 = f := by rw [sg_3n _ _ (by decide)]; exact cf
    have hsm : fX1_startsMove (nI p) (sg_3 Λ 0 σ 9) = some 1 := by rw [st_ d0 df ht (show p < 2 ^ 30 by omega), if_pos ⟨by omega, hs⟩]
    have hO := one_all (Λ := sg_3 Λ 0 σ) (π := π) (μ := μ) (n := nn) (R := R) (pt := pt) (by rw [sg_3s]; exact hz) (by omega) d0 df ht (i := i) (by omega) l4 (by rw [h5]; exact l7)
    rw [mL_, if_neg (by rw [show (60 : Int32) = nI 60 from rfl, nI_leI (by decide) (by omega)]; omega), ob_ hsm, if_neg n10, lX8_play_20, h3, if_neg (by rw [nI_leI (by omega) (by omega)]; omega), show (3 : Int32) = nI 3 from rfl]
    rw [sg_3s] at hO
    rcases hO with ⟨e, e', e1, e2, e3, e4⟩ | ⟨r, σ2, z2, R2, pt2, r1, r2, r3, r4, r5⟩
    · rw [ob_ e3, ob_ e4, sg_33]
      show ∃ (j : Nat) (σ' μ' : sg_T), _ ∧ (if (0 : Int32) ≤ e then _ else some (nI i, sg_3 Λ 0 σ, π)) = _ ∧ (if e' = 0 then _ else some (nI i, sg_a μ 0 (sg_u (μ 0) 2 0))) = _ ∧ _
      rw [if_neg (fa_nle.mpr e1), if_neg e2]
      refine ⟨i, σ, _, by omega, rfl, rfl, fun k hk => sg_an _ _ (by omega), fun k hk => ?_, ?_, nn, R, pt, by omega, ?_⟩
      · rw [sg_as, sg_un _ _ hk]
      · rw [sg_as, sg_us]
      · rw [sg_an _ _ (by decide)]; exact hz
    · rw [ob_ r3, ob_ r4, sg_33]
      show ∃ (j : Nat) (σ' μ' : sg_T), _ ∧ (if (0 : Int32) ≤ r then mL_ (G + 1 + (59 - p)) (nI i + 1) (nI p + 1) (sg_3 Λ 0 σ2) π else _) = _ ∧ (if (0 : Int32) = 0 then lX8_play_20 (F + 1) (nI i + 1) (sg_a μ 1 z2) else _) = _ ∧ _
      have d0 : sg_3 Λ 0 σ2 9 0 0 = nI t := by rw [sg_3n _ _ (by decide)]; exact c0
      have df : sg_3 Λ 0 σ2 9 1 = f := by rw [sg_3n _ _ (by decide)]; exact cf
      have sk : ∀ k, p + 1 ≤ k → k < p + 1 + (59 - p) → ¬ (k < t ∧ (k = 0 ∨ f (k - 1) = 44)) := fun k k1 k2 k3 => by
        rcases k3 with ⟨k3, k4 | k4⟩
        · omega
        · exact l6 (k - 1) (by omega) (by omega) k4
      rw [if_pos r1, if_pos p00, nI_1, nI_1, mk_skip d0 df ht (59 - p) (p + 1) (G + 1) (nI (i + 1)) sk (by omega), show p + 1 + (59 - p) = 60 by omega, mk_end, lX8_play_20, sg_an _ _ (show 0 ≠ 1 by decide), h3, if_pos (Int32.le_refl _)]
      refine ⟨i + 1, σ2, _, by omega, rfl, rfl, fun k hk => ?_, fun k hk => ?_, ?_, nn, R2, pt2, by omega, ?_⟩
      · rw [sg_an _ _ (by omega), sg_an _ _ (by omega)]
      · rw [sg_as, sg_un _ _ hk]
      · rw [sg_as, sg_us]
      · rw [sg_an _ _ (by decide), sg_as]; exact r5
  | succ n ih =>
    intro i p G F σ μ R pt hP h5 h3 hi hz hR hs hG hF
    obtain ⟨L, l1, l3, l4, l6, l8, l7, l9⟩ := hP
    have l10 := pms_le _ _ _ l9
    have l8 := l8 (by omega)
    obtain ⟨G, rfl⟩ : ∃ x, G = x + L + 1 := ⟨G - L - 1, by omega⟩
    obtain ⟨F, rfl⟩ : ∃ x, F = x + 1 := ⟨F - 1, by omega⟩
    have d0 : sg_3 Λ 0 σ 9 0 0 = nI t := by rw [sg_3n _ _ (by decide)]; exact c0
    have df : sg_3 Λ 0 σ 9 1 = f := by rw [sg_3n _ _ (by decide)]; exact cf
    have hsm : fX1_startsMove (nI p) (sg_3 Λ 0 σ 9) = some 1 := by rw [st_ d0 df ht (show p < 2 ^ 30 by omega), if_pos ⟨by omega, hs⟩]
    have hO := one_all (Λ := sg_3 Λ 0 σ) (π := π) (μ := μ) (n := nn) (R := R) (pt := pt) (by rw [sg_3s]; exact hz) (by omega) d0 df ht (i := i) (by omega) l4 (by rw [h5]; exact l7)
    rw [mL_, if_neg (by rw [show (60 : Int32) = nI 60 from rfl, nI_leI (by decide) (by omega)]; omega), ob_ hsm, if_neg n10, lX8_play_20, h3, if_neg (by rw [nI_leI (by omega) (by omega)]; omega), show (3 : Int32) = nI 3 from rfl]
    rw [sg_3s] at hO
    rcases hO with ⟨e, e', e1, e2, e3, e4⟩ | ⟨r, σ2, z2, R2, pt2, r1, r2, r3, r4, r5⟩
    · rw [ob_ e3, ob_ e4, sg_33]
      show ∃ (j : Nat) (σ' μ' : sg_T), _ ∧ (if (0 : Int32) ≤ e then _ else some (nI i, sg_3 Λ 0 σ, π)) = _ ∧ (if e' = 0 then _ else some (nI i, sg_a μ 0 (sg_u (μ 0) 2 0))) = _ ∧ _
      rw [if_neg (fa_nle.mpr e1), if_neg e2]
      refine ⟨i, σ, _, by omega, rfl, rfl, fun k hk => sg_an _ _ (by omega), fun k hk => ?_, ?_, nn, R, pt, by omega, ?_⟩
      · rw [sg_as, sg_un _ _ hk]
      · rw [sg_as, sg_us]
      · rw [sg_an _ _ (by decide)]; exact hz
    · rw [ob_ r3, ob_ r4, sg_33]
      show ∃ (j : Nat) (σ' μ' : sg_T), _ ∧ (if (0 : Int32) ≤ r then mL_ (G + L) (nI i + 1) (nI p + 1) (sg_3 Λ 0 σ2) π else _) = _ ∧ (if (0 : Int32) = 0 then lX8_play_20 F (nI i + 1) (sg_a μ 1 z2) else _) = _ ∧ _
      have d0 : sg_3 Λ 0 σ2 9 0 0 = nI t := by rw [sg_3n _ _ (by decide)]; exact c0
      have df : sg_3 Λ 0 σ2 9 1 = f := by rw [sg_3n _ _ (by decide)]; exact cf
      have sk : ∀ k, p + 1 ≤ k → k < p + 1 + (L) → ¬ (k < t ∧ (k = 0 ∨ f (k - 1) = 44)) := fun k k1 k2 k3 => by
        rcases k3 with ⟨k3, k4 | k4⟩
        · omega
        · exact l6 (k - 1) (by omega) (by omega) k4
      rw [if_pos r1, if_pos p00, nI_1, nI_1, mk_skip d0 df ht L (p + 1) G (nI (i + 1)) sk (by omega), show p + 1 + L = p + L + 1 by omega]
      obtain ⟨j, σ3, μ3, j1, j2, j3, j4, j5, j6, j7⟩ := ih (i + 1) (p + L + 1) G F σ2 (sg_a μ 1 z2) R2 pt2 l9 (by rw [sg_an _ _ (by decide)]; exact h5) (by rw [sg_an _ _ (by decide), h3, show i + (n + 1) + 1 = i + 1 + n + 1 by omega]) (by omega) (by rw [sg_as]; exact r5) (by omega) (Or.inr (by rw [Nat.add_sub_cancel]; exact l8)) (by omega) (by omega)
      refine ⟨j, σ3, μ3, by omega, j2, j3, fun k hk => ?_, fun k hk => ?_, j6, RZ_m j7 (by omega)⟩
      · rw [j4 k hk, sg_an _ _ (by omega)]
      · rw [j5 k hk, sg_an _ _ (by decide)]
end Z
