/-! the law's rows and the class's state -/
def hq_ (v : Int32) : Int32 := if v = NO then -1 else v
def hl_ (R : Nat) (σ Ω : sg_T) (s : Nat) : Prop := Ω 2 s = σ 8 s ∧ ((σ 9 s = -1 ∧ Ω 3 (2 * s) = 0 ∧ Ω 3 (2 * s + 1) = 0) ∨ ∃ t, t ≤ R ∧ σ 9 s = nI t ∧ Ω 3 (2 * s) = 1 ∧ Ω 3 (2 * s + 1) = nI t)
def pq_ (n pt : Nat) (σ : sg_T) : Prop := (∀ p, p < 8 → σ 7 p = NO ∨ ∃ s, 1 ≤ s ∧ s < 16 ∧ σ 7 p = nI s) ∧ (∀ p, n ≤ p → p < 8 → σ 2 p = 0 ∧ σ 3 p = 0 ∧ σ 4 p = 0 ∧ σ 5 p = 0 ∧ σ 6 p = 0 ∧ σ 7 p = NO) ∧ (pt = 0 → ∀ p, p < 8 → σ 7 p = NO) ∧ (∀ s, 1 ≤ s → s < 16 → cn_ (fun p => decide (σ 7 p = nI s)) n ≤ 2)
def m1_ (σ Ω : sg_T) : Prop := ∀ p, p < 8 → ∀ j, j < 5 → Ω 1 (6 * p + j) = σ (2 + j) p
def m2_ (σ Ω : sg_T) : Prop := ∀ p, p < 8 → Ω 1 (6 * p + 5) = hq_ (σ 7 p)
def ri_ (n R pt : Nat) (σ Ω : sg_T) : Prop := R < 2 ^ 30 ∧ r0_ n R pt σ (Ω 4) ∧ rs_ σ (Ω 4) ∧ rt_ n pt σ (Ω 4) ∧ pq_ n pt σ ∧ m1_ σ Ω ∧ ∀ s, s < 16 → hl_ R σ Ω s
def rq_ (n R pt : Nat) (σ Ω : sg_T) : Prop := ri_ n R pt σ Ω ∧ m2_ σ Ω
/-- the row of numbers that belongs to them -/
def zq_ (R : Nat) (σ Ω : sg_T) : Nat → Int32 := fun k => if k < 12 then Ω 4 k else if k < 60 then σ (2 + (k - 12) % 6) ((k - 12) / 6) else if (k - 60) % 3 = 0 then σ 8 ((k - 60) / 3) else if (k - 60) % 3 = 1 then (if σ 9 ((k - 60) / 3) = -1 then 0 else 1) else nI R - σ 9 ((k - 60) / 3)
def mu_ (R : Nat) (σ Ω : sg_T) : sg_T := fun _ => zq_ R σ Ω
theorem zq_l {R : Nat} {σ Ω : sg_T} {k : Nat} (h : k < 12) : zq_ R σ Ω k = Ω 4 k := if_pos h
theorem zq_p {R : Nat} {σ Ω : sg_T} {p j : Nat} (hp : p < 8) (hj : j < 6) : zq_ R σ Ω (12 + 6 * p + j) = σ (2 + j) p := by
  unfold zq_
  rw [if_neg (by omega), if_pos (by omega), show (12 + 6 * p + j - 12) % 6 = j by omega, show (12 + 6 * p + j - 12) / 6 = p by omega]
theorem zq_0 {R : Nat} {σ Ω : sg_T} {s : Nat} : zq_ R σ Ω (60 + 3 * s + 0) = σ 8 s := by
  unfold zq_
  rw [if_neg (by omega), if_neg (by omega), if_pos (by omega), show (60 + 3 * s + 0 - 60) / 3 = s by omega]
theorem zq_1 {R : Nat} {σ Ω : sg_T} {s : Nat} : zq_ R σ Ω (60 + 3 * s + 1) = (if σ 9 s = -1 then 0 else 1) := by
  unfold zq_
  rw [if_neg (by omega), if_neg (by omega), if_neg (by omega), if_pos (by omega), show (60 + 3 * s + 1 - 60) / 3 = s by omega]
theorem zq_2 {R : Nat} {σ Ω : sg_T} {s : Nat} : zq_ R σ Ω (60 + 3 * s + 2) = nI R - σ 9 s := by
  unfold zq_
  rw [if_neg (by omega), if_neg (by omega), if_neg (by omega), if_neg (by omega), show (60 + 3 * s + 2 - 60) / 3 = s by omega]
theorem nI_m1 {t : Nat} (h : t < 2 ^ 31) : ¬ nI t = -1 := by
  rw [fa_eq, nI_toInt h]
  have : (-1 : Int32).toInt = -1 := by decide
  omega
theorem nI_NO {t : Nat} (h : t < 2 ^ 31) : ¬ nI t = NO := by
  rw [fa_eq, nI_toInt h]
  have : (NO : Int32).toInt = -10006 := by decide
  omega
theorem rq_r5 {n R pt : Nat} {σ Ω : sg_T} (h : ri_ n R pt σ Ω) : r5_ n R pt σ (mu_ R σ Ω 1) := by
  obtain ⟨h1, h2, h3, h4, h5, h6, h7⟩ := h
  show r5_ n R pt σ (zq_ R σ Ω)
  have hn := h2.1
  refine ⟨h1, ?_, ?_, ?_, ?_, ?_⟩
  · unfold r0_ at h2 ⊢
    rw [zq_l (by decide), zq_l (by decide), zq_l (by decide)]
    exact h2
  · unfold rs_ at h3 ⊢
    rw [zq_l (by decide), zq_l (by decide), zq_l (by decide), zq_l (by decide)]
    exact h3
  · unfold rt_ at h4 ⊢
    rw [zq_l (by decide), zq_l (by decide), zq_l (by decide), zq_l (by decide)]
    exact h4
  · obtain ⟨a, b, c, d⟩ := h5
    exact ⟨fun p hp => ⟨zq_p (by omega) (by decide), zq_p (by omega) (by decide), zq_p (by omega) (by decide), zq_p (by omega) (by decide), zq_p (by omega) (by decide), zq_p (by omega) (by decide)⟩, a, b, c, d⟩
  · intro s hs
    refine ⟨zq_0, ?_⟩
    rw [zq_1, zq_2]
    rcases (h7 s hs).2 with ⟨q1, -⟩ | ⟨t, ht, q1, -⟩
    · exact Or.inl ⟨q1, by rw [if_pos q1]⟩
    · refine Or.inr ⟨t, ht, q1, ?_, ?_⟩
      · rw [q1, if_neg (nI_m1 (by omega))]
      · rw [q1, nI_sub' ht]
/-! the law's small methods -/
theorem a_ap : ∀ a, a < 16 → ∀ b, b < 16 → fL_apart (nI a) (nI b) = some (nI (ds a b)) := by decide +kernel
theorem a_ap0 {b : Nat} (h : b < 16) : fL_apart 0 (nI b) = some (nI (ds b 0)) := by
  rw [show (0 : Int32) = nI 0 from rfl, a_ap 0 (by decide) b h, ds_c 0 (by decide) b h]
theorem a_cnt : ∀ m, m < 256 → fL_count (nI m) = some (nI (pc_ m)) := by decide +kernel
theorem an_ (v : Int32) : ∃ n : Nat, v = nI n := by
  refine ⟨v.toBitVec.toNat, ?_⟩
  apply Int32.toBitVec_inj.mp
  unfold nI
  simp
theorem a_low (v : Int32) {m : Nat} (h0 : 0 < m) (hm : m < 2 ^ 31) : ∃ r, r < m ∧ fL_low v (nI m) = some (nI r) := by
  obtain ⟨n, rfl⟩ := an_ v
  refine ⟨(n % 2 ^ 31) % m, Nat.mod_lt _ h0, ?_⟩
  unfold fL_low
  rw [ok_ (nI_ne0 h0 hm), show (2147483647 : Int32) = nI (2 ^ 31 - 1) from rfl, fa_mask, pk_rem (Nat.mod_lt _ (by decide)) h0 hm]
theorem px_ {p j : Nat} : nI 6 * nI p + nI j = nI (6 * p + j) := by rw [nI_mul, nI_add]
theorem px0 {p : Nat} : nI 6 * nI p = nI (6 * p) := nI_mul _ _
theorem rx0 {s : Nat} : nI 2 * nI s = nI (2 * s) := nI_mul _ _
theorem rx1 {s : Nat} : nI 2 * nI s + nI 1 = nI (2 * s + 1) := by rw [nI_mul, nI_add]
theorem mk_8 {P : Nat → Bool} {n : Nat} (h : ∀ p, n ≤ p → p < 8 → P p = false) : ∀ d, n + d ≤ 8 → mk_ P (n + d) = mk_ P n
  | 0, _ => rfl
  | d + 1, q => by
    rw [show n + (d + 1) = (n + d) + 1 by omega, mk_n (by rw [h (n + d) (by omega) (by omega)]; decide)]
    exact mk_8 h d (by omega)
theorem cn_8 {P : Nat → Bool} {n : Nat} (h : ∀ p, n ≤ p → p < 8 → P p = false) : ∀ d, n + d ≤ 8 → cn_ P (n + d) = cn_ P n
  | 0, _ => rfl
  | d + 1, q => by
    rw [show n + (d + 1) = (n + d) + 1 by omega, cn_n (by rw [h (n + d) (by omega) (by omega)]; decide)]
    exact cn_8 h d (by omega)
theorem hq_e {v : Int32} {s : Nat} (hs : s < 16) : hq_ v = nI s ↔ v = nI s := by
  unfold hq_
  by_cases q : v = NO
  · rw [if_pos q, q]
    exact ⟨fun h => absurd h.symm (nI_m1 (by omega)), fun h => absurd h.symm (nI_NO (by omega))⟩
  · rw [if_neg q]
section Z
variable {n R pt : Nat} {σ Ω : sg_T}
theorem q_at (h : ri_ n R pt σ Ω) {s : Nat} (hs : s < 16) : mk_ (at_ σ s) 8 = mk_ (at_ σ s) n ∧ cn_ (at_ σ s) 8 = cn_ (at_ σ s) n := by
  have hn := h.2.1.1
  have f : ∀ p, n ≤ p → p < 8 → at_ σ s p = false := fun p h1 h2 => by
    unfold at_
    rw [(h.2.2.2.2.1.2.1 p h1 h2).2.2.2.2.2]
    exact decide_eq_false (fun q => nI_NO (by omega) q.symm)
  have e : n + (8 - n) = 8 := by omega
  have a := mk_8 f (8 - n) (by omega)
  have b := cn_8 f (8 - n) (by omega)
  rw [e] at a b
  exact ⟨a, b⟩
theorem q_hd (h : ri_ n R pt σ Ω) : cn_ (hd_ σ) 8 = cn_ (hd_ σ) n := by
  have hn := h.2.1.1
  have f : ∀ p, n ≤ p → p < 8 → hd_ σ p = false := fun p h1 h2 => by
    unfold hd_
    rw [(h.2.2.2.2.1.2.1 p h1 h2).2.2.2.2.2]
    exact decide_eq_false (fun q => q rfl)
  have e : n + (8 - n) = 8 := by omega
  have b := cn_8 f (8 - n) (by omega)
  rw [e] at b
  exact b
theorem a_here (h2 : m2_ σ Ω) {s : Nat} (hs : s < 16) : fL_here (nI s) Ω = some (nI (mk_ (at_ σ s) 8)) := by
  have key : ∀ d i f, i + d = 8 → d < f → lL_here_4 f (nI s) (nI (mk_ (at_ σ s) i)) (nI i) Ω = some (nI (mk_ (at_ σ s) 8)) := by
    intro d
    induction d with
    | zero =>
      intro i f hi hf
      obtain ⟨f, rfl⟩ : ∃ g, f = g + 1 := ⟨f - 1, by omega⟩
      have hi : i = 8 := by omega
      subst hi
      rw [lL_here_4, if_pos (show (8 : Int32) ≤ nI 8 by decide)]
    | succ d ih =>
      intro i f hi hf
      obtain ⟨f, rfl⟩ : ∃ g, f = g + 1 := ⟨f - 1, by omega⟩
      rw [lL_here_4, if_neg (by rw [show (8 : Int32) = nI 8 from rfl, nI_leI (by decide) (by omega)]; omega), show (6 : Int32) = nI 6 from rfl, show (5 : Int32) = nI 5 from rfl, px_, ox_ (by omega) (by decide), cl_ (by omega), h2 i (by omega), nI_1]
      by_cases q : σ 7 i = nI s
      · rw [if_pos ((hq_e hs).mpr q), Option.bind_some, or_1 (by omega), ← mk_1 (P := at_ σ s) (by unfold at_; rw [bo_]; exact q)]
        exact ih (i + 1) f (by omega) (by omega)
      · rw [if_neg (fun w => q ((hq_e hs).mp w)), Option.bind_some, or_0, ← mk_n (P := at_ σ s) (i := i) (by unfold at_; rw [bo_]; exact q)]
        exact ih (i + 1) f (by omega) (by omega)
  unfold fL_here
  rw [show (0 : Int32) = nI (mk_ (at_ σ s) 0) from rfl]
  rw [ob_ (show lL_here_4 70 (nI s) (nI (mk_ (at_ σ s) 0)) (nI (mk_ (at_ σ s) 0)) Ω = _ from key 8 0 70 (by omega) (by omega))]
theorem hq_0 (h : pq_ n pt σ) {p : Nat} (hp : p < 8) : (σ 7 p = NO ∧ hq_ (σ 7 p) = -1) ∨ (∃ s, 1 ≤ s ∧ s < 16 ∧ σ 7 p = nI s ∧ ¬ σ 7 p = NO ∧ hq_ (σ 7 p) = nI s) := by
  unfold hq_
  rcases h.1 p hp with q | ⟨s, s1, s2, q⟩
  · exact Or.inl ⟨q, if_pos q⟩
  · have w : ¬ σ 7 p = NO := by rw [q]; exact nI_NO (by omega)
    exact Or.inr ⟨s, s1, s2, q, w, by rw [if_neg w]; exact q⟩
theorem a_hid (h : pq_ n pt σ) (h2 : m2_ σ Ω) : fL_hidden Ω = some (nI (cn_ (hd_ σ) 8)) := by
  have key : ∀ d i f, i + d = 8 → d < f → lL_hidden_4 f (nI (cn_ (hd_ σ) i)) (nI i) Ω = some (nI (cn_ (hd_ σ) 8)) := by
    intro d
    induction d with
    | zero =>
      intro i f hi hf
      obtain ⟨f, rfl⟩ : ∃ g, f = g + 1 := ⟨f - 1, by omega⟩
      have hi : i = 8 := by omega
      subst hi
      rw [lL_hidden_4, if_pos (show (8 : Int32) ≤ nI 8 by decide)]
    | succ d ih =>
      intro i f hi hf
      obtain ⟨f, rfl⟩ : ∃ g, f = g + 1 := ⟨f - 1, by omega⟩
      rw [lL_hidden_4, if_neg (by rw [show (8 : Int32) = nI 8 from rfl, nI_leI (by decide) (by omega)]; omega), show (6 : Int32) = nI 6 from rfl, show (5 : Int32) = nI 5 from rfl, px_, ox_ (by omega) (by decide), cl_ (by omega), h2 i (by omega), nI_1]
      rcases hq_0 h (show i < 8 by omega) with ⟨q, e⟩ | ⟨s, s1, s2, q, q', e⟩
      · rw [e, if_pos (show (-1 : Int32) ≤ 0 by decide), Option.bind_some, Int32.add_zero, ← cn_n (P := hd_ σ) (i := i) (by unfold hd_; rw [bo_]; exact fun z => z q)]
        exact ih (i + 1) f (by omega) (by omega)
      · rw [e, if_neg (nI_nle (by omega) (by omega)), Option.bind_some, nI_1, ← cn_1 (P := hd_ σ) (by unfold hd_; rw [bo_]; exact q')]
        exact ih (i + 1) f (by omega) (by omega)
  unfold fL_hidden
  rw [show (0 : Int32) = nI (cn_ (hd_ σ) 0) from rfl]
  rw [ob_ (show lL_hidden_4 70 (nI (cn_ (hd_ σ) 0)) (nI (cn_ (hd_ σ) 0)) Ω = _ from key 8 0 70 (by omega) (by omega))]
theorem a_good (h : ri_ n R pt σ Ω) {b s : Nat} (hb : b ≤ 8) (e : Ω 4 8 = nI b) (hs : s < 16) : (gd_ σ b s ∧ fL_good (nI s) Ω = some 1) ∨ (¬ gd_ σ b s ∧ fL_good (nI s) Ω = some 0) := by
  unfold fL_good gd_
  have d8 := ds_8 s hs 0 (by decide)
  by_cases q0 : s = 0
  · subst q0
    rw [if_pos nI_0]
    exact Or.inr ⟨fun z => z.1 rfl, rfl⟩
  · rw [if_neg (nI_ne0 (by omega) (by omega)), ob_ (a_ap0 hs), show (8 : Int32).toNatClampNeg = 8 from rfl, e]
    by_cases q1 : nI b < nI (ds s 0)
    · rw [if_pos q1]
      rw [nI_ltI (by omega) (by omega)] at q1
      exact Or.inr ⟨fun z => by have := z.2.1; omega, rfl⟩
    · rw [if_neg q1, show (2 : Int32) = nI 2 from rfl, rx0, ox_ (by omega) (by decide), cl_ (by omega)]
      rw [nI_ltI (by omega) (by omega)] at q1
      rcases (h.2.2.2.2.2.2 s hs).2 with ⟨w1, w2, -⟩ | ⟨t, ht, w1, w2, -⟩
      · rw [w2, if_pos rfl]
        exact Or.inl ⟨⟨q0, by omega, w1⟩, rfl⟩
      · rw [w2, if_neg n10]
        refine Or.inr ⟨fun z => ?_, rfl⟩
        rw [w1] at z
        exact nI_m1 (by have := h.1; omega) z.2.2
end Z
/-- differences of small numbers -/
theorem su_ {x y : Int32} {B : Int} (hB : B ≤ 1000000) (h1 : -B ≤ x.toInt) (h2 : x.toInt ≤ B) (h3 : -B ≤ y.toInt) (h4 : y.toInt ≤ B) : (x - y).toInt = x.toInt - y.toInt := by
  rw [Int32.toInt_sub]
  exact Int.bmod_eq_of_le (by omega) (by omega)
def bd_ (P C : Nat) (σ : sg_T) : Prop := (∀ p, p < 8 → -(P : Int) ≤ (σ 2 p).toInt ∧ (σ 2 p).toInt ≤ P) ∧ (∀ p, p < 8 → 0 ≤ (σ 5 p).toInt ∧ (σ 5 p).toInt ≤ C) ∧ (∀ s, s < 16 → ∃ c, c ≤ C ∧ σ 8 s = nI c)
theorem a_ahead {σ Ω : sg_T} {P C : Nat} (hP : P ≤ 1000000) (hC : C ≤ 1000000) (hb : bd_ P C σ) (h1 : m1_ σ Ω) {p q : Nat} (hp : p < 8) (hq : q < 8) : fL_ahead (nI p) (nI q) Ω = some (if ah_ σ p q = true then 1 else 0) := by
  obtain ⟨b1, b2, -⟩ := hb
  have e0 : ∀ k, k < 8 → Ω 1 (6 * k) = σ 2 k := fun k hk => h1 k hk 0 (by decide)
  have e3 : ∀ k, k < 8 → Ω 1 (6 * k + 3) = σ 5 k := fun k hk => h1 k hk 3 (by decide)
  unfold fL_ahead
  rw [show (6 : Int32) = nI 6 from rfl, show (3 : Int32) = nI 3 from rfl]
  simp only [px0, nI_add]
  rw [ox_ (by omega) (by decide), ox_ (by omega) (by decide), ox_ (by omega) (by decide), ox_ (by omega) (by decide), cl_ (by omega), cl_ (by omega), cl_ (by omega), cl_ (by omega), e0 p hp, e0 q hq, e3 p hp, e3 q hq]
  have z0 : (0 : Int32).toInt = 0 := by decide
  have sp := su_ (x := σ 2 p) (y := σ 2 q) (B := P) (by omega) (b1 p hp).1 (b1 p hp).2 (b1 q hq).1 (b1 q hq).2
  have sc := su_ (x := σ 5 q) (y := σ 5 p) (B := C) (by omega) (by have := (b2 q hq).1; omega) (b2 q hq).2 (by have := (b2 p hp).1; omega) (b2 p hp).2
  have k1 : (0 < σ 2 p - σ 2 q) ↔ (σ 2 q).toInt < (σ 2 p).toInt := by rw [fa_lt, sp, z0]; omega
  have k2 : (σ 2 p - σ 2 q = 0) ↔ (σ 2 p).toInt = (σ 2 q).toInt := by rw [fa_eq, sp, z0]; omega
  have k3 : (0 < σ 5 q - σ 5 p) ↔ (σ 5 p).toInt < (σ 5 q).toInt := by rw [fa_lt, sc, z0]; omega
  have k4 : (σ 5 q - σ 5 p = 0) ↔ (σ 5 p).toInt = (σ 5 q).toInt := by rw [fa_eq, sc, z0]; omega
  have k5 := nI_leI (a := q) (b := p) (by omega) (by omega)
  have k6 : ah_ σ p q = true ↔ ((σ 2 q).toInt < (σ 2 p).toInt ∨ ((σ 2 p).toInt = (σ 2 q).toInt ∧ ((σ 5 p).toInt < (σ 5 q).toInt ∨ ((σ 5 p).toInt = (σ 5 q).toInt ∧ p < q)))) := by
    rw [ah_i]; simp only [fa_lt, fa_eq]
  by_cases c1 : 0 < σ 2 p - σ 2 q
  · rw [if_pos c1, if_pos (k6.mpr (Or.inl (k1.mp c1)))]
  · rw [if_neg c1]
    rw [k1] at c1
    by_cases c2 : σ 2 p - σ 2 q = 0
    · rw [if_pos c2]
      rw [k2] at c2
      by_cases c3 : 0 < σ 5 q - σ 5 p
      · rw [if_pos c3, if_pos (k6.mpr (Or.inr ⟨c2, Or.inl (k3.mp c3)⟩))]
      · rw [if_neg c3]
        rw [k3] at c3
        by_cases c4 : σ 5 q - σ 5 p = 0
        · rw [if_pos c4]
          rw [k4] at c4
          by_cases c5 : nI q ≤ nI p
          · rw [if_pos c5, if_neg (fun z => by have := k6.mp z; have := k5.mp c5; omega)]
          · rw [if_neg c5, if_pos (k6.mpr (Or.inr ⟨c2, Or.inr ⟨c4, by rw [k5] at c5; omega⟩⟩))]
        · rw [if_neg c4, if_neg (fun z => by have := k6.mp z; rw [k4] at c4; omega)]
    · rw [if_neg c2, if_neg (fun z => by have := k6.mp z; rw [k2] at c2; omega)]
