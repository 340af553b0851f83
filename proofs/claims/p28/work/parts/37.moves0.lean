/-! pieces of the moves, on both sides -/
theorem z_all {n R pt : Nat} {σ μ : sg_T} (h : r5_ n R pt σ (μ 1)) (h0 : cn_ (hd_ σ) n = 0) : ∀ p, p < 8 → σ 7 p = NO := by
  intro p hp
  rcases Nat.lt_or_ge p n with q | q
  · have := cn_0.mp h0 p q
    unfold hd_ at this
    have h2 := of_decide_eq_false this
    exact Decidable.not_not.mp h2
  · exact (h.2.2.2.2.1.2.2.1 p q hp).2.2.2.2.2
section Z
variable {n R pt P C : Nat} {σ Ω : sg_T} {f1 f2 f3 f4 : Nat → Int32}
theorem RQ_ri (h : RQ n R pt P C σ Ω) : ri_ n R pt σ Ω := h.1
theorem RQ_rq (h : RQ n R pt P C σ Ω) : rq_ n R pt σ Ω := ⟨h.1, h.2.1⟩
theorem RQ_m {P' C' : Nat} (h : RQ n R pt P C σ Ω) (h1 : P ≤ P') (h2 : C ≤ C') : RQ n R pt P' C' σ Ω := ⟨h.1, h.2.1, bd_m h.2.2 h1 h2⟩
/-- the round ends if nobody is hidden any more -/
theorem e_endE (h : RQ n R pt P C σ Ω) (hR : R + 1 < 2 ^ 30) : (fL_hidden Ω = some 0 ∧ ∃ σ' Ω', fX2_endRoundIfNobodyIsHidden σ = some σ' ∧ fL_end Ω = some Ω' ∧ RQ n (R + 1) 0 P C σ' Ω') ∨ (∃ v : Int32, ¬ v = 0 ∧ fL_hidden Ω = some v ∧ fX2_endRoundIfNobodyIsHidden σ = some σ) := by
  have h5 := rq_r5 (RQ_ri h)
  have hp : pq_ n pt σ := h.1.2.2.2.2.1
  have hn : n ≤ 8 := h.1.2.1.1
  have c1 := (z_hc h5).1
  have c2 := a_hid hp (RQ_rq h).2
  rw [q_hd (RQ_ri h)] at c2
  have c3 := cn_le (hd_ σ) n
  unfold fX2_endRoundIfNobodyIsHidden
  rw [ob_ c1, c2]
  by_cases q : cn_ (hd_ σ) n = 0
  · left
    obtain ⟨σ', Ω', g1, g2, g3⟩ := e_end h.1 (z_all h5 q) hR h.2.2
    refine ⟨by rw [q]; rfl, σ', Ω', ?_, g2, g3⟩
    rw [q, if_pos nI_0, ob_ g1]
  · right
    refine ⟨nI (cn_ (hd_ σ) n), nI_ne0 (by omega) (by omega), rfl, ?_⟩
    rw [if_neg (nI_ne0 (by omega) (by omega))]
/-- one is hidden no more, and somebody gains -/
def sf_ (σ : sg_T) (k g j : Nat) (v : Int32) : sg_T := sg_a (sg_a (sg_a σ 7 (upd (σ 7) k NO)) 2 (upd (σ 2) g (σ 2 g + v))) (2 + j) (upd (σ (2 + j)) g (σ (2 + j) g + 1))
def ga_ (f : Nat → Int32) (k : Nat) : Nat → Int32 := upd f (6 * k + 5) (-1)
def gb8 (f : Nat → Int32) (k g : Nat) (v : Int32) : Nat → Int32 := upd (ga_ f k) (6 * g) (ga_ f k (6 * g) + v)
def gf_ (f : Nat → Int32) (k g j : Nat) (v : Int32) : Nat → Int32 := upd (gb8 f k g v) (6 * g + j) (gb8 f k g v (6 * g + j) + 1)
theorem e_gain (h : rf_ n R pt σ f1 f2 f3 f4) (h2 : nf_ σ f1) (hb : bd_ P C σ) (hP : P ≤ 900000) {k g j : Nat} (hk : k < n) (hg : g < n) (hj : j = 2 ∨ j = 4) {v : Int32} (v1 : -3 ≤ v.toInt) (v2 : v.toInt ≤ 3) : rf_ n R pt (sf_ σ k g j v) (gf_ f1 k g j v) f2 f3 f4 ∧ nf_ (sf_ σ k g j v) (gf_ f1 k g j v) ∧ bd_ (P + 3) C (sf_ σ k g j v) := by
  have hn : n ≤ 8 := h.2.1.1
  have hp : pq_ n pt σ := h.2.2.2.2.1
  have hm : mf_ σ f1 := h.2.2.2.2.2.1
  obtain ⟨s7, hs7⟩ : ∃ s7, s7 = sg_a σ 7 (upd (σ 7) k NO) := ⟨_, rfl⟩
  have r2 : s7 2 = σ 2 := by rw [hs7, sg_an _ _ (by decide)]
  have rj : s7 (2 + j) = σ (2 + j) := by rw [hs7, sg_an _ _ (by omega)]
  obtain ⟨s2, hs2⟩ : ∃ s2, s2 = sg_a s7 2 (upd (s7 2) g (s7 2 g + v)) := ⟨_, rfl⟩
  have qj : s2 (2 + j) = σ (2 + j) := by rw [hs2, sg_an _ _ (by omega), rj]
  have e : sf_ σ k g j v = sg_a s2 (2 + j) (upd (s2 (2 + j)) g (s2 (2 + j) g + 1)) := by
    unfold sf_
    rw [qj, hs2, r2, hs7]
  have m7 : mf_ s7 (ga_ f1 k) := by
    rw [hs7]
    exact mf_u5 (mf_7 hm _) _
  have a7 : nf_ s7 (ga_ f1 k) := by
    rw [hs7]
    exact nf_no h2 (by omega)
  have x2 : ga_ f1 k (6 * g) = s7 2 g := m7 g (by omega) 0 (by decide)
  have m2 : mf_ s2 (gb8 f1 k g v) := by
    rw [hs2]
    unfold gb8
    rw [x2]
    exact mf_add m7 (j := 0) (by omega) (by decide) _
  have a2 : nf_ s2 (gb8 f1 k g v) := by
    rw [hs2]
    unfold gb8
    exact nf_add a7 (j := 0) (by decide) _ _
  have xj : gb8 f1 k g v (6 * g + j) = s2 (2 + j) g := m2 g (by omega) j (by omega)
  have b7 : bd_ P C s7 := by rw [hs7]; exact bd_o hb (by decide) (by decide) (by decide) _
  have b2 : bd_ (P + 3) C s2 := by rw [hs2]; exact bd_2 b7 hP g v1 v2
  have p7 : pq_ n pt s7 := by rw [hs7]; exact pq_no hp k
  have p2 : pq_ n pt s2 := by rw [hs2]; exact pq_add p7 (j := 0) hg (by decide) _
  rw [e]
  refine ⟨rf_p h ?_ ?_ ?_ ?_ (pq_add p2 (j := j) hg (by omega) _) ?_, ?_, bd_o b2 (by omega) (by omega) (by omega) _⟩
  · rw [sg_an _ _ (by omega), hs2, sg_an _ _ (by decide), hs7, sg_an _ _ (by decide)]
  · rw [sg_an _ _ (by omega), hs2, sg_an _ _ (by decide), hs7, sg_an _ _ (by decide)]
  · rw [sg_an _ _ (by omega), hs2, sg_an _ _ (by decide), hs7, sg_an _ _ (by decide)]
  · rw [sg_an _ _ (by omega), hs2, sg_an _ _ (by decide), hs7, sg_an _ _ (by decide)]
  · unfold gf_
    rw [xj]
    exact mf_add m2 (by omega) (by omega) _
  · unfold gf_
    exact nf_add a2 (by omega) _ _
theorem e_find (h : rf_ n R pt σ f1 f2 f3 f4) {k g : Nat} (hk : k < n) (hg : g < n) (e3 : σ 0 3 = nI g) (v : Int32) : fX2_findPlayer (nI k) v σ = (fX2_endRoundIfNobodyIsHidden (sf_ σ k g 2 v)).bind fun σ8 => some σ8 := by
  have hn : n ≤ 8 := h.2.1.1
  have e0 : σ 0 0 = nI n := h.2.1.2.2.1
  have ip : fX5_isPlayer (nI g) (sg_a σ 7 (upd (σ 7) k NO)) = some 1 := by
    unfold fX5_isPlayer
    rw [if_neg (nI_pos (by omega)), sg_an _ _ (by decide), e0, if_neg (by rw [nI_leI (by omega) (by omega)]; omega)]
  unfold fX2_findPlayer
  rw [ox_ (by omega) (by decide), cl_ (by omega), e3, ob_ ip, if_neg n10, ox_ (by omega) (by decide), cl_ (by omega)]
  rfl
theorem e_escape {k : Nat} (hk : k < 8) (v : Int32) : fX2_escape (nI k) v σ = some (sf_ σ k k 4 v) := by
  unfold fX2_escape
  rw [ox_ hk (by decide), cl_ (by omega)]
  rfl
/-- all escape -/
theorem e_tail {Λ : s3_T} {π : Nat → Nat} (a6 a12 : Int32) : ∀ d i F, i + d = 8 → d < F → (∀ p, i ≤ p → p < 8 → Ω 1 (6 * p + 5) = -1) → lL_law_1081 F a6 a12 (nI i) Λ π Ω = some Ω := by
  intro d
  induction d with
  | zero =>
    intro i F hi hF h
    obtain ⟨F, rfl⟩ : ∃ g, F = g + 1 := ⟨F - 1, by omega⟩
    have hi : i = 8 := by omega
    subst hi
    rw [lL_law_1081, if_pos (show (8 : Int32) ≤ nI 8 by decide)]
  | succ d ih =>
    intro i F hi hF h
    obtain ⟨F, rfl⟩ : ∃ g, F = g + 1 := ⟨F - 1, by omega⟩
    have hin : i < 8 := by omega
    have e := h i (Nat.le_refl _) hin
    have u0 : upd (Ω 1) (6 * i) (Ω 1 (6 * i) + 0) = Ω 1 := fa_upd_same (by rw [Int32.add_zero])
    have u4 : upd (Ω 1) (6 * i + 4) (Ω 1 (6 * i + 4) + 0) = Ω 1 := fa_upd_same (by rw [Int32.add_zero])
    rw [lL_law_1081, if_neg (gt_8 hin), o6_0 hin, o6_5 hin, c6_5 hin, c6_0 hin, c6_4 hin, e, if_pos (show (-1 : Int32) ≤ 0 by decide), Option.bind_some, u0, e, if_pos (show (-1 : Int32) ≤ 0 by decide), o6_4 hin, Option.bind_some, u4, sg_ai, sg_ai, nI_1]
    exact ih (i + 1) F (by omega) (by omega) (fun p h1 h2 => h p (by omega) h2)
theorem e_all {Λ : s3_T} {π : Nat → Nat} (a6 a12 : Int32) : ∀ (d i F G : Nat), i + d = n → d < F → d + (8 - n) < G → ∀ (P : Nat) (σ Ω : sg_T), P + 3 * d ≤ 900000 → rf_ n R pt σ (Ω 1) (Ω 2) (Ω 3) (Ω 4) → bd_ P C σ → (∀ p, p < i → σ 7 p = NO) → (∀ p, i ≤ p → p < 8 → Ω 1 (6 * p + 5) = hq_ (σ 7 p)) →
    ∃ (σ' Ω' : sg_T), lX2_letAllEscape_2 F (nI i) σ = some σ' ∧ lL_law_1081 G a6 a12 (nI i) Λ π Ω = some Ω' ∧ rf_ n R pt σ' (Ω' 1) (Ω' 2) (Ω' 3) (Ω' 4) ∧ bd_ (P + 3 * d) C σ' ∧ (∀ p, p < 8 → σ' 7 p = NO) := by
  intro d
  induction d with
  | zero =>
    intro i F G hi hF hG P σ Ω hP h hb hlo hhi
    obtain ⟨F, rfl⟩ : ∃ g, F = g + 1 := ⟨F - 1, by omega⟩
    have hi : i = n := by omega
    subst hi
    have hn := h.2.1.1
    have hp : pq_ i pt σ := h.2.2.2.2.1
    have no : ∀ p, i ≤ p → p < 8 → σ 7 p = NO := fun p h1 h2 => (hp.2.1 p h1 h2).2.2.2.2.2
    refine ⟨σ, Ω, ?_, e_tail a6 a12 (8 - i) i G (by omega) (by omega) (fun p h1 h2 => ?_), h, hb, fun p hp8 => ?_⟩
    · rw [lX2_letAllEscape_2, h.2.1.2.2.1, if_pos (Int32.le_refl _)]
    · rw [hhi p h1 h2, no p h1 h2]; rfl
    · rcases Nat.lt_or_ge p i with z | z
      · exact hlo p z
      · exact no p z hp8
  | succ d ih =>
    intro i F G hi hF hG P σ Ω hP h hb hlo hhi
    obtain ⟨F, rfl⟩ : ∃ g, F = g + 1 := ⟨F - 1, by omega⟩
    obtain ⟨G, rfl⟩ : ∃ g, G = g + 1 := ⟨G - 1, by omega⟩
    have hn := h.2.1.1
    have hin : i < n := by omega
    have hi8 : i < 8 := by omega
    have hp : pq_ n pt σ := h.2.2.2.2.1
    have hm : mf_ σ (Ω 1) := h.2.2.2.2.2.1
    have hid : fX5_isHidden (nI i) σ = some (if σ 7 i = NO then 0 else 1) := by
      unfold fX5_isHidden fX5_isPlayer
      rw [if_neg (nI_pos (by omega)), h.2.1.2.2.1, if_neg (by rw [nI_leI (by omega) (by omega)]; omega), Option.bind_some, if_neg n10, ox_ hi8 (by decide), cl_ (by omega)]
      by_cases q : σ 7 i = NO
      · rw [if_pos q, if_pos q]
      · rw [if_neg q, if_neg q]
    have e := hhi i (Nat.le_refl _) hi8
    rw [lX2_letAllEscape_2, lL_law_1081, h.2.1.2.2.1, if_neg (by rw [nI_leI (by omega) (by omega)]; omega), if_neg (gt_8 hi8), ob_ hid, o6_0 hi8, o6_5 hi8, c6_5 hi8, c6_0 hi8, c6_4 hi8, nI_1]
    rcases hq_0 hp hi8 with ⟨q, y⟩ | ⟨s, s1, s2, es, q, y⟩
    · have u0 : upd (Ω 1) (6 * i) (Ω 1 (6 * i) + 0) = Ω 1 := fa_upd_same (by rw [Int32.add_zero])
      have u4 : upd (Ω 1) (6 * i + 4) (Ω 1 (6 * i + 4) + 0) = Ω 1 := fa_upd_same (by rw [Int32.add_zero])
      rw [if_pos q, if_pos p00, e, y, if_pos (show (-1 : Int32) ≤ 0 by decide), Option.bind_some, u0, e, y, if_pos (show (-1 : Int32) ≤ 0 by decide), o6_4 hi8, Option.bind_some, u4, sg_ai, sg_ai]
      obtain ⟨σ', Ω', g1, g2, g3, g4, g5⟩ := ih (i + 1) F G (by omega) (by omega) (by omega) P σ Ω (by omega) h hb (fun p hp => by
        by_cases c : p = i
        · subst c; exact q
        · exact hlo p (by omega)) (fun p h1 h2 => hhi p (by omega) h2)
      exact ⟨σ', Ω', g1, g2, g3, bd_m g4 (by omega) (Nat.le_refl _), g5⟩
    · -- he escapes
      obtain ⟨Ω1, hΩ1⟩ : ∃ Ω1, Ω1 = sg_a Ω 1 (upd (upd (Ω 1) (6 * i) (Ω 1 (6 * i) + 1)) (6 * i + 4) (upd (Ω 1) (6 * i) (Ω 1 (6 * i) + 1) (6 * i + 4) + 1)) := ⟨_, rfl⟩
      have ne : ¬ nI s ≤ 0 := nI_nle (by omega) (by omega)
      rw [if_neg q, if_neg n10, ob_ (e_escape hi8 1), e, y, if_neg ne, Option.bind_some, up_n _ _ (show 6 * i + 5 ≠ 6 * i by omega), e, y, if_neg ne, o6_4 hi8, Option.bind_some, sg_aa, ← hΩ1]
      have j1 : Ω1 1 = upd (upd (Ω 1) (6 * i) (Ω 1 (6 * i) + 1)) (6 * i + 4) (upd (Ω 1) (6 * i) (Ω 1 (6 * i) + 1) (6 * i + 4) + 1) := by rw [hΩ1, sg_as]
      have x0 : Ω 1 (6 * i) = σ 2 i := hm i hi8 0 (by decide)
      obtain ⟨s7, hs7⟩ : ∃ s7, s7 = sg_a σ 7 (upd (σ 7) i NO) := ⟨_, rfl⟩
      have r2 : s7 2 = σ 2 := by rw [hs7, sg_an _ _ (by decide)]
      have r6 : s7 6 = σ 6 := by rw [hs7, sg_an _ _ (by decide)]
      obtain ⟨t2, ht2⟩ : ∃ t2, t2 = sg_a s7 2 (upd (s7 2) i (s7 2 i + 1)) := ⟨_, rfl⟩
      have q6 : t2 6 = σ 6 := by rw [ht2, sg_an _ _ (by decide), r6]
      have ee : sf_ σ i i 4 1 = sg_a t2 6 (upd (t2 6) i (t2 6 i + 1)) := by
        unfold sf_
        rw [q6, ht2, r2, hs7]
      have m7 : mf_ s7 (Ω 1) := by rw [hs7]; exact mf_7 hm _
      have m2 : mf_ t2 (upd (Ω 1) (6 * i) (Ω 1 (6 * i) + 1)) := by
        rw [ht2, x0, ← r2]
        exact mf_add m7 (j := 0) hi8 (by decide) _
      have x4 : upd (Ω 1) (6 * i) (Ω 1 (6 * i) + 1) (6 * i + 4) = t2 6 i := m2 i hi8 4 (by decide)
      have m4 : mf_ (sf_ σ i i 4 1) (Ω1 1) := by
        rw [ee, j1, x4]
        exact mf_add m2 (j := 4) hi8 (by decide) _
      have hf1 : rf_ n R pt (sf_ σ i i 4 1) (Ω1 1) (Ω1 2) (Ω1 3) (Ω1 4) := by
        have w : Ω1 2 = Ω 2 ∧ Ω1 3 = Ω 3 ∧ Ω1 4 = Ω 4 := ⟨by rw [hΩ1, sg_an _ _ (by decide)], by rw [hΩ1, sg_an _ _ (by decide)], by rw [hΩ1, sg_an _ _ (by decide)]⟩
        rw [w.1, w.2.1, w.2.2]
        refine rf_p h ?_ ?_ ?_ ?_ ?_ m4
        · rw [ee, sg_an _ _ (by decide), ht2, sg_an _ _ (by decide), hs7, sg_an _ _ (by decide)]
        · rw [ee, sg_an _ _ (by decide), ht2, sg_an _ _ (by decide), hs7, sg_an _ _ (by decide)]
        · rw [ee, sg_an _ _ (by decide), ht2, sg_an _ _ (by decide), hs7, sg_an _ _ (by decide)]
        · rw [ee, sg_an _ _ (by decide), ht2, sg_an _ _ (by decide), hs7, sg_an _ _ (by decide)]
        · rw [ee, ht2, hs7]
          exact pq_add (pq_add (pq_no hp i) (j := 0) hin (by decide) _) (j := 4) hin (by decide) _
      have b7 : bd_ P C s7 := by rw [hs7]; exact bd_o hb (by decide) (by decide) (by decide) _
      have b2 : bd_ (P + 3) C t2 := by rw [ht2]; exact bd_2 b7 (by omega) i (by decide) (by decide)
      have b6 : bd_ (P + 3) C (sf_ σ i i 4 1) := by rw [ee]; exact bd_o b2 (by decide) (by decide) (by decide) _
      have z7 : ∀ p, sf_ σ i i 4 1 7 p = upd (σ 7) i NO p := fun p => by rw [ee, sg_an _ _ (by decide), ht2, sg_an _ _ (by decide), hs7, sg_as]
      obtain ⟨σ', Ω', g1, g2, g3, g4, g5⟩ := ih (i + 1) F G (by omega) (by omega) (by omega) (P + 3) (sf_ σ i i 4 1) Ω1 (by omega) hf1 b6 (fun p hp => by
        rw [z7]
        by_cases c : p = i
        · subst c; exact up_s _ _ _
        · rw [up_n _ _ c]; exact hlo p (by omega)) (fun p h1 h2 => by
        rw [z7, up_n _ _ (show p ≠ i by omega), j1, up_n _ _ (by omega), up_n _ _ (by omega)]
        exact hhi p (by omega) h2)
      exact ⟨σ', Ω', g1, g2, g3, bd_m g4 (by omega) (Nat.le_refl _), g5⟩
end Z
