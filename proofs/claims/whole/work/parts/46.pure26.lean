/-! one move of a text -/
def one_ (Λ : s3_T) (π : Nat → Nat) (σ μ : sg_T) (n R : Nat) (mk : Option (Int32 × s3_T × (Nat → Nat))) (mo : Option (Int32 × sg_T)) : Prop := (∃ e e' : Int32, e < 0 ∧ ¬ e' = 0 ∧ mk = some (e, sg_3 Λ 0 σ, π) ∧ mo = some (e', μ)) ∨ (∃ (r : Int32) (σ' : sg_T) (z' : Nat → Int32) (R' pt' : Nat), 0 ≤ r ∧ R' ≤ R + 1 ∧ mk = some (r, sg_3 Λ 0 σ', π) ∧ mo = some (0, sg_a μ 1 z') ∧ r5_ n R' pt' σ' z')
section Z
variable {n R pt t : Nat} {σ μ : sg_T} {Λ : s3_T} {π : Nat → Nat} {f : Nat → Int32}
theorem lt_ne {e : Int32} (h : e < 0) : ¬ e = 0 := by
  intro w
  subst w
  exact absurd h (by decide)
theorem one_mv {c : Option (Int32 × sg_T)} {why : Option Int32} {act : Option (Int32 × sg_T)} (H : mv_ n R σ μ c why act) : one_ Λ π σ μ n R (c.bind fun q => some (q.1, sg_3 Λ 0 q.2, π)) (why.bind fun r => if r = 0 then act.bind (fun q => some (r, q.2)) else some (r, μ)) := by
  rcases H with ⟨e, e1, e2, e3⟩ | ⟨r, σ', z', R', pt', r1, r2, r3, r4, r5, r6⟩
  · exact Or.inl ⟨e, e, e1, lt_ne e1, by rw [ob_ e2], by rw [ob_ e3, if_neg (lt_ne e1)]⟩
  · exact Or.inr ⟨r, σ', z', R', pt', r1, r2, by rw [ob_ r3], by rw [ob_ r4, if_pos p00, ob_ r5], r6⟩
theorem one_hide (h : r5_ n R pt σ (μ 1)) (hR : R + 1 < 2 ^ 30) (p s : Int32) : one_ Λ π σ μ n R ((fX2_hidePlayer p s σ).bind fun q => some (q.1, sg_3 Λ 0 q.2, π)) ((fX8_whyNotHide p s μ).bind fun r => if r = 0 then (fX8_hides p s μ).bind (fun q => some (r, q)) else some (r, μ)) := by
  rcases z_hide (μ' := μ) h rfl hR p s with ⟨e, e1, e2, e3⟩ | ⟨r, σ', z', r1, r2, r3, r4, r5, r6⟩
  · exact Or.inl ⟨e, e, e1, lt_ne e1, by rw [ob_ e2], by rw [ob_ e3, if_neg (lt_ne e1)]⟩
  · exact Or.inr ⟨r, σ', z', R, pt, r1, by omega, by rw [ob_ r2], by rw [ob_ r3, if_pos p00, ob_ r4], r6⟩
theorem one_seek (h : r5_ n R pt σ (μ 1)) (hR : R + 1 < 2 ^ 30) : one_ Λ π σ μ n R ((fX2_beginSeeking σ).bind fun q => some (q.1, sg_3 Λ 0 q.2, π)) (if μ 1 6 = 1 then (fX8_seeks μ).bind (fun q => some (0, q.2)) else some (-10003, μ)) := by
  rcases mv_seek (μ' := μ) h rfl hR with ⟨e, e1, e2, e3⟩ | ⟨r, σ', z', R', pt', r1, r2, r3, r4, r5, r6⟩
  · by_cases c : μ 1 6 = 1
    · rw [if_pos c] at e3
      cases e3
      exact absurd e1 (by decide)
    · exact Or.inl ⟨e, -10003, e1, by decide, by rw [ob_ e2], if_neg c⟩
  · by_cases c : μ 1 6 = 1
    · exact Or.inr ⟨r, σ', z', R', pt', r1, r2, by rw [ob_ r3], by rw [if_pos c, ob_ r5], r6⟩
    · rw [if_neg c] at r4
      cases r4
theorem one_walk (h : r5_ n R pt σ (μ 1)) {v : Int32} (hv : v = 1 ∨ v = -1) : one_ Λ π σ μ n R ((fX2_moveSeeker v σ).bind fun q => some (q.1, sg_3 Λ 0 q.2, π)) (if μ 1 6 = 2 then (fX8_walks v μ).bind (fun q => some (0, q.2)) else some (-10003, μ)) := by
  have w : fX8_in v (-1) 1 = some 1 := by
    rcases hv with rfl | rfl
    · rfl
    · rfl
  have H := mv_walk (μ' := μ) h rfl v
  rw [ob_ w, if_neg n10] at H
  rcases H with ⟨e, e1, e2, e3⟩ | ⟨r, σ', z', R', pt', r1, r2, r3, r4, r5, r6⟩
  · by_cases c : μ 1 6 = 2
    · rw [if_pos c] at e3
      cases e3
      exact absurd e1 (by decide)
    · exact Or.inl ⟨e, -10003, e1, by decide, by rw [ob_ e2], if_neg c⟩
  · by_cases c : μ 1 6 = 2
    · exact Or.inr ⟨r, σ', z', R', pt', r1, r2, by rw [ob_ r3], by rw [if_pos c, ob_ r5], r6⟩
    · rw [if_neg c] at r4
      cases r4
/-- a sign -/
theorem sgn_ (c0 : σ 0 0 = nI t) (cf : σ 1 = f) (ht : t ≤ 60) {k : Nat} (hk : k < 2 ^ 30) : fX1_signAt (nI k) σ = some (if k < t then f k else 32) := by
  unfold fX1_signAt
  rw [if_neg (nI_pos (by omega)), c0]
  by_cases q : k < t
  · rw [if_neg (by rw [nI_leI (by omega) (by omega)]; omega), if_pos q, ox_ (by omega) (by decide), cl_ (by omega), cf]
  · rw [if_pos ((nI_leI (by omega) (by omega)).mpr (by omega)), if_neg q]
theorem st_ (c0 : σ 0 0 = nI t) (cf : σ 1 = f) (ht : t ≤ 60) {k : Nat} (hk : k < 2 ^ 30) : fX1_startsMove (nI k) σ = some (if k < t ∧ (k = 0 ∨ f (k - 1) = 44) then 1 else 0) := by
  unfold fX1_startsMove
  rw [c0]
  by_cases q : k < t
  · rw [if_neg (by rw [nI_leI (by omega) (by omega)]; omega)]
    by_cases z : k = 0
    · subst z
      rw [if_pos (show nI 0 = 0 from rfl), if_pos ⟨q, Or.inl rfl⟩]
    · have e : nI k - 1 = nI (k - 1) := by
        obtain ⟨j, rfl⟩ : ∃ j, k = j + 1 := ⟨k - 1, by omega⟩
        exact nI_pred _
      rw [if_neg (by rw [show (0 : Int32) = nI 0 from rfl, nI_eq (by omega) (by decide)]; exact z), e, ob_ (sgn_ c0 cf ht (show k - 1 < 2 ^ 30 by omega)), if_pos (show k - 1 < t by omega)]
      by_cases w : f (k - 1) = 44
      · rw [if_pos w, if_pos ⟨q, Or.inr w⟩]
      · rw [if_neg w, if_neg (fun y => y.2.elim z w)]
  · rw [if_pos ((nI_leI (by omega) (by omega)).mpr (by omega)), if_neg (fun y => q y.1)]
theorem one_all (h : r5_ n R pt (Λ 0) (μ 1)) (hR : R + 1 < 2 ^ 30) (c0 : Λ 9 0 0 = nI t) (cf : Λ 9 1 = f) (ht : t ≤ 60) {i p L : Nat} (hi : i ≤ 30) (hp : p + L ≤ t) (hm : mt_ f (μ 5) i p L) : one_ Λ π (Λ 0) μ n R (fX7_makeMove (nI p) Λ π) (fX8_makeOne (nI 3 * nI i) μ) := by
  obtain ⟨m0, m1⟩ := hm
  have hL : 1 ≤ L := by rcases m1 with ⟨-, w⟩ | ⟨-, w, -⟩ | ⟨-, w, -⟩ <;> omega
  have i1 : nI (3 * i) + (1 : Int32) = nI (3 * i + 1) := nI_1 _
  have i2 : nI (3 * i) + (2 : Int32) = nI (3 * i + 2) := by rw [show (2 : Int32) = nI 2 from rfl, nI_add]
  have p1 : nI p + (1 : Int32) = nI (p + 1) := nI_1 _
  have p2 : nI p + (2 : Int32) = nI (p + 2) := by rw [show (2 : Int32) = nI 2 from rfl, nI_add]
  unfold fX7_makeMove fX8_makeOne
  rw [nI_mul, i1, i2, p1, p2, cl_ (show 3 * i < 2 ^ 31 by omega), cl_ (show 3 * i + 1 < 2 ^ 31 by omega), cl_ (show 3 * i + 2 < 2 ^ 31 by omega), ox_ (show 3 * i + 1 < 93 by omega) (by decide), ox_ (show 3 * i + 2 < 93 by omega) (by decide), ox_ (show 3 * i < 93 by omega) (by decide), ob_ (sgn_ c0 cf ht (show p + 1 < 2 ^ 30 by omega)), ob_ (sgn_ c0 cf ht (show p + 2 < 2 ^ 30 by omega)), ob_ (sgn_ c0 cf ht (show p < 2 ^ 30 by omega)), if_pos (show p < t by omega), m0, show (6 : Int32).toNatClampNeg = 6 from rfl]
  rcases m1 with ⟨hc, -⟩ | ⟨hc, rfl, k1⟩ | ⟨hc, rfl, k1, k2⟩
  · rcases hc with hc | hc | hc
    · rw [hc, if_pos rfl, if_neg (by decide), if_neg (by decide), if_neg (by decide), if_neg (by decide), if_neg (by decide), if_neg (by decide), if_neg (by decide), if_pos rfl]
      exact one_walk h (Or.inl rfl)
    · rw [hc, if_neg (by decide), if_pos rfl, if_neg (by decide), if_neg (by decide), if_neg (by decide), if_neg (by decide), if_neg (by decide), if_neg (by decide), if_neg (by decide), if_neg (show ¬ (45 : Int32) = 43 by decide)]
      exact one_walk h (Or.inr rfl)
    · rw [hc, if_neg (by decide), if_neg (by decide), if_pos rfl, if_pos rfl]
      exact one_seek h hR
  · rw [hc, k1, if_pos (show p + 1 < t by omega), if_neg (show ¬ (100 : Int32) = 43 by decide), if_neg (show ¬ (100 : Int32) = 45 by decide), if_neg (show ¬ (100 : Int32) = 98 by decide), if_neg (show ¬ (100 : Int32) = 99 by decide), if_pos rfl, if_neg (show ¬ (100 : Int32) = 98 by decide), if_neg (show ¬ (100 : Int32) = 99 by decide), if_pos rfl]
    exact one_mv (z_dash h rfl hR _)
  · rw [k1, k2, if_pos (show p + 1 < t by omega), if_pos (show p + 2 < t by omega)]
    rcases hc with hc | hc
    · rw [hc, if_neg (show ¬ (99 : Int32) = 43 by decide), if_neg (show ¬ (99 : Int32) = 45 by decide), if_neg (show ¬ (99 : Int32) = 98 by decide), if_pos rfl, if_neg (show ¬ (99 : Int32) = 98 by decide), if_pos rfl]
      exact one_mv (z_cry h rfl hR _ _)
    · rw [hc, if_neg (show ¬ (104 : Int32) = 43 by decide), if_neg (show ¬ (104 : Int32) = 45 by decide), if_neg (show ¬ (104 : Int32) = 98 by decide), if_neg (show ¬ (104 : Int32) = 99 by decide), if_neg (show ¬ (104 : Int32) = 100 by decide), if_pos rfl, if_neg (show ¬ (104 : Int32) = 98 by decide), if_neg (show ¬ (104 : Int32) = 99 by decide), if_neg (show ¬ (104 : Int32) = 100 by decide), if_neg (show ¬ (104 : Int32) = 101 by decide), if_neg (show ¬ (104 : Int32) = 102 by decide), if_neg (show ¬ (104 : Int32) = 103 by decide), if_pos rfl]
      exact one_hide h hR _ _
end Z
