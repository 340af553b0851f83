/-- a move told -/
def mt_ (f g : Nat → Int32) (m p L : Nat) : Prop := g (3 * m) = f p ∧ (((f p = 43 ∨ f p = 45 ∨ f p = 98) ∧ L = 1) ∨ (f p = 100 ∧ L = 2 ∧ g (3 * m + 1) = f (p + 1) - 48) ∨ ((f p = 99 ∨ f p = 104) ∧ L = 3 ∧ g (3 * m + 1) = f (p + 1) - 48 ∧ g (3 * m + 2) = f (p + 2) - 97))
section Z
variable {t m p : Nat} {f : Nat → Int32} {μ σ : sg_T} {w : Int32}
theorem k1_spec (h : TX t f m p NO μ) (c0 : σ 0 0 = nI t) (cf : ∀ k, k < t → σ 1 k = f k) (ht : t ≤ 60) (hp : p < t) (hm : m ≤ 30) (r : Int32) : ∃ (μ' : sg_T) (w : Int32) (p' : Nat), k1_ r μ = some μ' ∧ TX t f (m + 1) p' w μ' ∧ FR μ μ' ∧ (∀ k, k < 3 * m → μ' 5 k = μ 5 k) ∧ ((w = NO ∧ p' = p + 2 ∧ p + 1 < t ∧ (∀ g, lX1_firstError_4 (g + 1) 3 (nI (p + 1)) σ = lX1_firstError_4 g 5 (nI (p + 2)) σ) ∧ ¬ f (p + 1) = 44 ∧ μ' 5 (3 * m) = r ∧ μ' 5 (3 * m + 1) = f (p + 1) - 48) ∨ (∃ e, e ≤ t ∧ w = nI e ∧ ∀ g, lX1_firstError_4 (g + 1) 3 (nI (p + 1)) σ = some (nI e))) := by
  unfold k1_
  obtain ⟨μ4, w4, T4, F4, g4⟩ := tx_Y h 1 n10
  have i0 : (3 : Int32) * nI m = nI (3 * m) := by rw [show (3 : Int32) = nI 3 from rfl, nI_mul]
  have i1 : nI (3 * m) + (1 : Int32) = nI (3 * m + 1) := nI_1 _
  rw [ob_ w4, T4.2.1, i0, i1, cl_ (show 3 * m < 2 ^ 31 by omega), cl_ (show 3 * m + 1 < 2 ^ 31 by omega), ox_ (show 3 * m < 93 by omega) (by decide)]
  obtain ⟨T5, F5⟩ := tx_5 T4 (upd (μ4 5) (3 * m) r)
  rw [ob_ (tx_let T5 ht (by omega)), ox_ (show 3 * m + 1 < 93 by omega) (by decide)]
  obtain ⟨T6, F6⟩ := tx_5 T5 (upd (upd (μ4 5) (3 * m) r) (3 * m + 1) (lt_ t f (p + 1) - 48))
  rw [ob_ (tx_let T6 ht (by omega))]
  have F46 := FR_t F4 (FR_t F5 F6)
  rcases dg_ c0 cf ht e3_ (by decide) (by decide) (by decide) (by decide) (show p + 1 ≤ t by omega) with ⟨q, b1, b2, b3, b4⟩ | ⟨b1, b4⟩
  · rw [ob_ b1]
    obtain ⟨μ9, w9, T9, F9, g9⟩ := tx_Y T6 1 n10
    obtain ⟨Tm, Fm⟩ := tx_m T9
    rw [ob_ w9]
    have r9 : ∀ x, sg_a μ9 0 x 5 = upd (upd (μ 5) (3 * m) r) (3 * m + 1) (lt_ t f (p + 1) - 48) := fun x => by rw [sg_an _ _ (by decide), g9, sg_as, g4]
    refine ⟨_, _, _, rfl, Tm, FR_t F46 (FR_t F9 Fm), fun k hk => ?_, Or.inl ⟨rfl, by omega, q, fun g => b4 g, b3, ?_, ?_⟩⟩
    · rw [r9, up_n _ _ (by omega), up_n _ _ (by omega)]
    · rw [r9, up_n _ _ (by omega), up_s]
    · rw [r9, up_s, b2]
  · rw [ob_ b1]
    obtain ⟨μ9, w9, T9, F9, g9⟩ := tx_N T6
    obtain ⟨Tm, Fm⟩ := tx_m T9
    rw [ob_ w9]
    have r9 : ∀ x, sg_a μ9 0 x 5 = upd (upd (μ 5) (3 * m) r) (3 * m + 1) (lt_ t f (p + 1) - 48) := fun x => by rw [sg_an _ _ (by decide), g9, sg_as, g4]
    refine ⟨_, _, _, rfl, Tm, FR_t F46 (FR_t F9 Fm), fun k hk => ?_, Or.inr ⟨p + 1, by omega, rfl, fun g => b4 g⟩⟩
    rw [r9, up_n _ _ (by omega), up_n _ _ (by omega)]
theorem k0_spec (h : TX t f m p NO μ) (ht : t ≤ 60) (hm : m ≤ 30) (x r : Int32) : ∃ (μ' : sg_T) (w : Int32), k0_ x r μ = some μ' ∧ TX t f (m + 1) (p + 1) w μ' ∧ FR μ μ' ∧ (∀ k, k < 3 * m → μ' 5 k = μ 5 k) ∧ μ' 5 (3 * m) = r ∧ ((¬ x = 0 ∧ w = NO) ∨ (x = 0 ∧ w = nI p)) := by
  unfold k0_
  have i0 : (3 : Int32) * nI m = nI (3 * m) := by rw [show (3 : Int32) = nI 3 from rfl, nI_mul]
  by_cases hx : x = 0
  · subst hx
    obtain ⟨μ4, w4, T4, F4, g4⟩ := tx_N h
    rw [ob_ w4, T4.2.1, i0, cl_ (show 3 * m < 2 ^ 31 by omega), ox_ (show 3 * m < 93 by omega) (by decide)]
    obtain ⟨T5, F5⟩ := tx_5 T4 (upd (μ4 5) (3 * m) r)
    obtain ⟨Tm, Fm⟩ := tx_m T5
    rw [sg_an _ _ (show 0 ≠ 5 by decide), T4.2.1] at Tm Fm
    refine ⟨_, _, rfl, Tm, FR_t F4 (FR_t F5 Fm), fun k hk => ?_, ?_, Or.inr ⟨rfl, rfl⟩⟩
    · rw [sg_an _ _ (by decide), sg_as, up_n _ _ (by omega), g4]
    · rw [sg_an _ _ (by decide), sg_as, up_s]
  · obtain ⟨μ4, w4, T4, F4, g4⟩ := tx_Y h x hx
    rw [ob_ w4, T4.2.1, i0, cl_ (show 3 * m < 2 ^ 31 by omega), ox_ (show 3 * m < 93 by omega) (by decide)]
    obtain ⟨T5, F5⟩ := tx_5 T4 (upd (μ4 5) (3 * m) r)
    obtain ⟨Tm, Fm⟩ := tx_m T5
    rw [sg_an _ _ (show 0 ≠ 5 by decide), T4.2.1] at Tm Fm
    refine ⟨_, _, rfl, Tm, FR_t F4 (FR_t F5 Fm), fun k hk => ?_, ?_, Or.inl ⟨hx, rfl⟩⟩
    · rw [sg_an _ _ (by decide), sg_as, up_n _ _ (by omega), g4]
    · rw [sg_an _ _ (by decide), sg_as, up_s]
/-- the class after a letter -/
theorem e1_ (c : Int32) : fX1_expectedAfter 1 c = fX1_expectedAfterLetter c := by
  unfold fX1_expectedAfter
  rw [if_pos rfl]
  cases fX1_expectedAfterLetter c <;> rfl
theorem e1y (c0 : σ 0 0 = nI t) (cf : ∀ k, k < t → σ 1 k = f k) (ht : t ≤ 60) (hp : p < t) {nx : Int32} (hn : ¬ nx = 0) (e : fX1_expectedAfterLetter (f p) = some nx) (g : Nat) : lX1_firstError_4 (g + 1) 1 (nI p) σ = lX1_firstError_4 g nx (nI (p + 1)) σ := by
  rw [ct1_ c0 cf ht hp, e1_, ob_ e, if_neg hn]
theorem e1n (c0 : σ 0 0 = nI t) (cf : ∀ k, k < t → σ 1 k = f k) (ht : t ≤ 60) (hp : p < t) (e : fX1_expectedAfterLetter (f p) = some 0) (g : Nat) : lX1_firstError_4 (g + 1) 1 (nI p) σ = some (nI p) := by
  rw [ct1_ c0 cf ht hp, e1_, ob_ e, if_pos p00]
theorem rdm_ (h : TX t f m p NO μ) (c0 : σ 0 0 = nI t) (cf : ∀ k, k < t → σ 1 k = f k) (ht : t ≤ 60) (hp : p ≤ t) (hm : m ≤ 30) : ∃ (μ' : sg_T) (w : Int32) (p' : Nat), fX8_readMove μ = some μ' ∧ TX t f (m + 1) p' w μ' ∧ FR μ μ' ∧ (∀ k, k < 3 * m → μ' 5 k = μ 5 k) ∧ ((w = NO ∧ ∃ L, 1 ≤ L ∧ L ≤ 3 ∧ p' = p + L ∧ p + L ≤ t ∧ (∀ g, lX1_firstError_4 (g + L) 1 (nI p) σ = lX1_firstError_4 g 5 (nI (p + L)) σ) ∧ (∀ k, p ≤ k → k < p + L → ¬ f k = 44) ∧ mt_ f (μ' 5) m p L) ∨ (∃ e, e ≤ t ∧ w = nI e ∧ ∀ g, lX1_firstError_4 (g + 4) 1 (nI p) σ = some (nI e))) := by
  rw [rm_eq, ob_ (tx_let h ht (by omega))]
  by_cases q : p < t
  · have e : lt_ t f p = f p := if_pos q
    rw [e]
    have two : (f p = 99 ∨ f p = 104) → ∃ (μ' : sg_T) (w : Int32) (p' : Nat), k2_ (f p) μ = some μ' ∧ TX t f (m + 1) p' w μ' ∧ FR μ μ' ∧ (∀ k, k < 3 * m → μ' 5 k = μ 5 k) ∧ ((w = NO ∧ ∃ L, 1 ≤ L ∧ L ≤ 3 ∧ p' = p + L ∧ p + L ≤ t ∧ (∀ g, lX1_firstError_4 (g + L) 1 (nI p) σ = lX1_firstError_4 g 5 (nI (p + L)) σ) ∧ (∀ k, p ≤ k → k < p + L → ¬ f k = 44) ∧ mt_ f (μ' 5) m p L) ∨ (∃ e, e ≤ t ∧ w = nI e ∧ ∀ g, lX1_firstError_4 (g + 4) 1 (nI p) σ = some (nI e))) := by
      intro hc
      have ex : fX1_expectedAfterLetter (f p) = some 2 := by rcases hc with hc | hc <;> (rw [hc]; rfl)
      obtain ⟨μ', w, p', s1, s2, s3, s4, s5⟩ := k2_spec h c0 cf ht q hm (f p)
      refine ⟨μ', w, p', s1, s2, s3, s4, ?_⟩
      rcases s5 with ⟨b1, b2, b3, b4, b5, b6, b7, b8, b9⟩ | ⟨e, b1, b2, b3⟩
      · refine Or.inl ⟨b1, 3, by decide, by decide, b2, by omega, fun g => ?_, fun k h1 h2 => ?_, b7, Or.inr (Or.inr ⟨hc, rfl, b8, b9⟩)⟩
        · rw [show g + 3 = g + 2 + 1 from rfl, e1y c0 cf ht q (by decide) ex, b4]
        · by_cases z1 : k = p
          · subst z1; rcases hc with hc | hc <;> (rw [hc]; decide)
          · by_cases z2 : k = p + 1
            · subst z2; exact b5
            · have : k = p + 2 := by omega
              subst this; exact b6
      · refine Or.inr ⟨e, b1, b2, fun g => ?_⟩
        rw [show g + 4 = g + 1 + 2 + 1 from rfl, e1y c0 cf ht q (by decide) ex, b3]
    have one : ∀ x : Int32, (fX1_expectedAfterLetter (f p) = some 5 ∧ x = 1 ∧ (f p = 43 ∨ f p = 45 ∨ f p = 98)) ∨ (fX1_expectedAfterLetter (f p) = some 0 ∧ x = 0) → ∃ (μ' : sg_T) (w : Int32) (p' : Nat), k0_ x (f p) μ = some μ' ∧ TX t f (m + 1) p' w μ' ∧ FR μ μ' ∧ (∀ k, k < 3 * m → μ' 5 k = μ 5 k) ∧ ((w = NO ∧ ∃ L, 1 ≤ L ∧ L ≤ 3 ∧ p' = p + L ∧ p + L ≤ t ∧ (∀ g, lX1_firstError_4 (g + L) 1 (nI p) σ = lX1_firstError_4 g 5 (nI (p + L)) σ) ∧ (∀ k, p ≤ k → k < p + L → ¬ f k = 44) ∧ mt_ f (μ' 5) m p L) ∨ (∃ e, e ≤ t ∧ w = nI e ∧ ∀ g, lX1_firstError_4 (g + 4) 1 (nI p) σ = some (nI e))) := by
      intro x hx
      obtain ⟨μ', w, s1, s2, s3, s4, s6, s5⟩ := k0_spec h ht hm x (f p)
      refine ⟨μ', w, p + 1, s1, s2, s3, s4, ?_⟩
      rcases hx with ⟨ex, x1, hc⟩ | ⟨ex, x0⟩
      · have s5 : w = NO := s5.elim (fun z => z.2) (fun z => absurd (x1.symm.trans z.1) n10)
        refine Or.inl ⟨s5, 1, by decide, by decide, rfl, by omega, fun g => e1y c0 cf ht q (by decide) ex g, fun k h1 h2 => ?_, s6, Or.inl ⟨hc, rfl⟩⟩
        have : k = p := by omega
        subst this
        rcases hc with hc | hc | hc <;> (rw [hc]; decide)
      · have s5 : w = nI p := s5.elim (fun z => absurd x0 z.1) (fun z => z.2)
        exact Or.inr ⟨p, by omega, s5, fun g => e1n c0 cf ht q ex (g + 3)⟩
    by_cases d1 : f p = 104
    · rw [if_pos d1]; exact two (Or.inr d1)
    rw [if_neg d1]
    by_cases d2 : f p = 98
    · rw [if_pos d2]; exact one 1 (Or.inl ⟨by rw [d2]; rfl, rfl, Or.inr (Or.inr d2)⟩)
    rw [if_neg d2]
    by_cases d3 : f p = 43
    · rw [if_pos d3]; exact one 1 (Or.inl ⟨by rw [d3]; rfl, rfl, Or.inl d3⟩)
    rw [if_neg d3]
    by_cases d4 : f p = 45
    · rw [if_pos d4]; exact one 1 (Or.inl ⟨by rw [d4]; rfl, rfl, Or.inr (Or.inl d4)⟩)
    rw [if_neg d4]
    by_cases d5 : f p = 99
    · rw [if_pos d5]; exact two (Or.inl d5)
    rw [if_neg d5]
    by_cases d6 : f p = 100
    · rw [if_pos d6]
      have ex : fX1_expectedAfterLetter (f p) = some 3 := by rw [d6]; rfl
      obtain ⟨μ', w, p', s1, s2, s3, s4, s5⟩ := k1_spec h c0 cf ht q hm (f p)
      refine ⟨μ', w, p', s1, s2, s3, s4, ?_⟩
      rcases s5 with ⟨b1, b2, b3, b4, b5, b7, b8⟩ | ⟨e, b1, b2, b3⟩
      · refine Or.inl ⟨b1, 2, by decide, by decide, b2, by omega, fun g => ?_, fun k h1 h2 => ?_, b7, Or.inr (Or.inl ⟨d6, rfl, b8⟩)⟩
        · rw [show g + 2 = g + 1 + 1 from rfl, e1y c0 cf ht q (by decide) ex, b4]
        · by_cases z1 : k = p
          · subst z1; rw [d6]; decide
          · have : k = p + 1 := by omega
            subst this; exact b5
      · refine Or.inr ⟨e, b1, b2, fun g => ?_⟩
        rw [show g + 4 = g + 2 + 1 + 1 from rfl, e1y c0 cf ht q (by decide) ex, b3]
    rw [if_neg d6]
    refine one 0 (Or.inr ⟨?_, rfl⟩)
    unfold fX1_expectedAfterLetter
    rw [if_neg d3, if_neg d4, if_neg d2, if_neg d5, if_neg d6, if_neg d1]
  · have e : lt_ t f p = NO := if_neg q
    have ep : p = t := by omega
    rw [e, if_neg (by decide), if_neg (by decide), if_neg (by decide), if_neg (by decide), if_neg (by decide), if_neg (by decide)]
    obtain ⟨μ', w, s1, s2, s3, s4, s6, s5⟩ := k0_spec h ht hm 0 NO
    have s5 : w = nI p := s5.elim (fun z => absurd p00 z.1) (fun z => z.2)
    refine ⟨μ', w, p + 1, s1, s2, s3, s4, Or.inr ⟨p, hp, s5, fun g => ?_⟩⟩
    subst ep
    exact ce_ c0 (g + 3) 1 (by decide)
end Z
