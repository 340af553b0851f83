/-- n moves told from the m-th on, from p on -/
def pms_ (f g : Nat → Int32) (t : Nat) : Nat → Nat → Nat → Prop
  | 0, _, p => p = t + 1
  | n + 1, m, p => ∃ L, 1 ≤ L ∧ L ≤ 3 ∧ p + L ≤ t ∧ (∀ k, p ≤ k → k < p + L → ¬ f k = 44) ∧ (p + L < t → f (p + L) = 44) ∧ mt_ f g m p L ∧ pms_ f g t n (m + 1) (p + L + 1)
theorem mt_c {f g g' : Nat → Int32} {m p L : Nat} (h : mt_ f g m p L) (hg : ∀ k, k < 3 * (m + 1) → g' k = g k) : mt_ f g' m p L := by
  unfold mt_ at h ⊢
  rw [hg _ (by omega), hg _ (by omega), hg _ (by omega)]
  exact h
theorem e5_ (c : Int32) : fX1_expectedAfter 5 c = if c = 44 then some 1 else some 0 := by
  unfold fX1_expectedAfter
  rw [if_neg (by decide), if_neg (by decide), if_neg (by decide), if_neg (by decide), if_pos rfl]
section Z
variable {t : Nat} {f : Nat → Int32} {σ : sg_T}
theorem ep_stop {m p : Nat} {w : Int32} {μ : sg_T} (h : TX t f m p w μ) (F : Nat) : lX8_errorPosition_19 (F + 1) 0 μ = some (w, μ) := by
  rw [lX8_errorPosition_19, if_pos p00, h.2.2.2.1]
theorem ep_ (c0 : σ 0 0 = nI t) (cf : ∀ k, k < t → σ 1 k = f k) (ht : t ≤ 60) : ∀ (N m p F g : Nat) (μ : sg_T), t + 2 ≤ p + N → N ≤ F → t + 8 ≤ p + g → 2 * m ≤ p → p ≤ t → TX t f m p NO μ → ∃ (r : Int32) (μ' : sg_T), lX8_errorPosition_19 F 1 μ = some (r, μ') ∧ lX1_firstError_4 g 1 (nI p) σ = some r ∧ FR μ μ' ∧ (∀ k, k < 3 * m → μ' 5 k = μ 5 k) ∧ ((r = NO ∧ ∃ n pe, TX t f (m + n) pe NO μ' ∧ pms_ f (μ' 5) t n m p) ∨ (∃ e, e ≤ t ∧ r = nI e)) := by
  intro N
  induction N with
  | zero => intro m p F g μ h1 h2 h3 h4 h5; omega
  | succ N ih =>
    intro m p F g μ h1 h2 h3 h4 h5 T
    obtain ⟨F, rfl⟩ : ∃ x, F = x + 2 := ⟨F - 2, by omega⟩
    obtain ⟨μ', w, p', s1, s2, s3, s4, s5⟩ := rdm_ T c0 cf ht h5 (show m ≤ 30 by omega)
    rw [lX8_errorPosition_19, if_neg n10, ob_ s1, s2.2.2.2.1]
    rcases s5 with ⟨rfl, L, l1, l3, rfl, l4, l5, l6, l7⟩ | ⟨e, e1, rfl, e2⟩
    · rw [if_pos (show NO = -10006 from rfl), s2.1, s2.2.2.1]
      obtain ⟨g, rfl⟩ : ∃ x, g = x + 1 + L := ⟨g - L - 1, by omega⟩
      rw [l5]
      by_cases q : t ≤ p + L
      · have e : p + L = t := by omega
        rw [if_pos ((nI_leI (by omega) (by omega)).mpr q), ep_stop s2, e, ce5 c0]
        exact ⟨NO, μ', rfl, rfl, s3, s4, Or.inl ⟨rfl, 1, p + L, s2, L, l1, l3, l4, l6, fun z => by omega, l7, by rw [e]; rfl⟩⟩
      · rw [if_neg (by rw [nI_leI (by omega) (by omega)]; exact q), ob_ (tx_let s2 ht (by omega)), show lt_ t f (p + L) = f (p + L) from if_pos (by omega)]
        rw [ct1_ c0 cf ht (show p + L < t by omega), e5_]
        by_cases c : f (p + L) = 44
        · obtain ⟨μ2, v1, v2, v3, v4⟩ := tx_Y s2 1 n10
          rw [if_pos c, if_pos c, ob_ v1, v2.2.2.2.1, if_pos (show NO = -10006 from rfl)]
          obtain ⟨r, μ3, u1, u2, u3, u4, u5⟩ := ih (m + 1) (p + L + 1) (F + 1) g μ2 (by omega) (by omega) (by omega) (by omega) (by omega) v2
          refine ⟨r, μ3, u1, ?_, FR_t s3 (FR_t v3 u3), fun k hk => ?_, ?_⟩
          · show (if (1 : Int32) = 0 then some (nI (p + L)) else lX1_firstError_4 g 1 (nI (p + L + 1)) σ) = some r
            rw [if_neg n10]; exact u2
          · rw [u4 k (by omega), v4, s4 k hk]
          · rcases u5 with ⟨x1, n, pe, x2, x3⟩ | x
            · left
              refine ⟨x1, n + 1, pe, ?_, L, l1, l3, l4, l6, fun _ => c, mt_c l7 (fun k hk => ?_), x3⟩
              · rw [show m + (n + 1) = m + 1 + n by omega]; exact x2
              · rw [u4 k (by omega), v4]
            · exact Or.inr x
        · obtain ⟨μ2, v1, v2, v3, v4⟩ := tx_N s2
          rw [if_neg c, if_neg c, ob_ v1, v2.2.2.2.1, if_neg (show ¬ nI (p + L) = -10006 from nNO (by omega)), ep_stop v2]
          refine ⟨nI (p + L), μ2, rfl, ?_, FR_t s3 v3, fun k hk => ?_, Or.inr ⟨p + L, by omega, rfl⟩⟩
          · rfl
          · rw [v4, s4 k hk]
    · rw [if_neg (show ¬ nI e = -10006 from nNO (by omega)), ep_stop s2]
      obtain ⟨g, rfl⟩ : ∃ x, g = x + 4 := ⟨g - 4, by omega⟩
      exact ⟨nI e, μ', rfl, e2 g, s3, s4, Or.inr ⟨e, e1, rfl⟩⟩
end Z
section Z
variable {B : Nat} {Λ : s3_T} {π : Nat → Nat} {μ : sg_T}
theorem rg_F {μ' : sg_T} (h : rg_ B Λ π μ) (hF : FR μ μ') : rg_ B Λ π μ' := by
  obtain ⟨f1, f2⟩ := hF
  obtain ⟨r1, ⟨⟨c, c1, c2, c3, c4⟩, k2, k3⟩, r3, ⟨t, t1, t2, t3, t4⟩⟩ := h
  refine ⟨by rw [f2 1 (by decide) (by decide)]; exact r1, ⟨⟨c, c1, c2, by rw [f1 0 (by decide)]; exact c3, fun k hk => by rw [f2 2 (by decide) (by decide)]; exact c4 k hk⟩, k2, k3⟩, ?_, ⟨t, t1, t2, by rw [f1 2 (by decide)]; exact t3, fun k hk => by rw [f2 4 (by decide) (by decide)]; exact t4 k hk⟩⟩
  unfold rv_
  rw [f1 1 (by decide), f2 3 (by decide) (by decide)]
  exact r3
theorem z_err (h : rg_ B Λ π μ) : ∃ (r : Int32) (μ' : sg_T), fX1_firstError (Λ 9) = some r ∧ fX8_errorPosition μ = some (r, μ') ∧ FR μ μ' ∧ ((r = NO ∧ ∃ t n pe, t ≤ 60 ∧ Λ 9 0 0 = nI t ∧ TX t (Λ 9 1) n pe NO μ' ∧ pms_ (Λ 9 1) (μ' 5) t n 0 0) ∨ ∃ e, e ≤ 60 ∧ r = nI e) := by
  obtain ⟨t, t1, t2, t3, t4⟩ := h.2.2.2
  have T : TX t (Λ 9 1) 0 0 NO (sg_a (sg_a (sg_a μ 0 (sg_u (μ 0) 3 0)) 0 (sg_u (sg_u (μ 0) 3 0) 4 0)) 0 (sg_u (sg_u (sg_u (μ 0) 3 0) 4 0) 5 (-10006))) := by
    refine ⟨?_, ?_, ?_, ?_, fun k hk => ?_⟩
    · rw [sg_as, sg_un _ _ (by decide), sg_un _ _ (by decide), sg_un _ _ (by decide)]; exact t3
    · rw [sg_as, sg_un _ _ (by decide), sg_un _ _ (by decide), sg_us]; rfl
    · rw [sg_as, sg_un _ _ (by decide), sg_us]; rfl
    · rw [sg_as, sg_us]
    · rw [sg_an _ _ (by decide), sg_an _ _ (by decide), sg_an _ _ (by decide)]; exact (t4 k hk).1.symm
  obtain ⟨r, μ', s1, s2, s3, -, s5⟩ := ep_ t2 (fun k hk => rfl) t1 (t + 2) 0 0 70 70 _ (by omega) (by omega) (by omega) (by omega) (by omega) T
  refine ⟨r, μ', s2, s1, FR_t ⟨fun k hk => ?_, fun j a b => ?_⟩ s3, ?_⟩
  · rw [sg_as, sg_un _ _ (by omega), sg_un _ _ (by omega), sg_un _ _ (by omega)]
  · rw [sg_an _ _ a, sg_an _ _ a, sg_an _ _ a]
  · rcases s5 with ⟨x1, n, pe, x2, x3⟩ | ⟨e, x1, x2⟩
    · rw [Nat.zero_add] at x2
      exact Or.inl ⟨x1, t, n, pe, t1, t2, x2, x3⟩
    · exact Or.inr ⟨e, by omega, x2⟩
theorem z_errpos (h : rg_ B Λ π μ) : ∃ (r : Int32) (μ' : sg_T), fX7_errorPosition Λ π = some r ∧ fX8_errorPosition μ = some (r, μ') ∧ rg_ B Λ π μ' := by
  obtain ⟨r, μ', s1, s2, s3, -⟩ := z_err h
  refine ⟨r, μ', ?_, s2, rg_F h s3⟩
  unfold fX7_errorPosition
  rw [ob_ s1]
end Z
