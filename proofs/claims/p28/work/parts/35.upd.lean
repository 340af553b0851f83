/-! changes of both sides -/
def mf_ (σ : sg_T) (f : Nat → Int32) : Prop := ∀ p, p < 8 → ∀ j, j < 5 → f (6 * p + j) = σ (2 + j) p
def nf_ (σ : sg_T) (f : Nat → Int32) : Prop := ∀ p, p < 8 → f (6 * p + 5) = hq_ (σ 7 p)
def hf_ (R : Nat) (σ : sg_T) (f2 f3 : Nat → Int32) (s : Nat) : Prop := f2 s = σ 8 s ∧ ((σ 9 s = -1 ∧ f3 (2 * s) = 0 ∧ f3 (2 * s + 1) = 0) ∨ ∃ t, t ≤ R ∧ σ 9 s = nI t ∧ f3 (2 * s) = 1 ∧ f3 (2 * s + 1) = nI t)
def rf_ (n R pt : Nat) (σ : sg_T) (f1 f2 f3 f4 : Nat → Int32) : Prop := R < 2 ^ 30 ∧ r0_ n R pt σ f4 ∧ rs_ σ f4 ∧ rt_ n pt σ f4 ∧ pq_ n pt σ ∧ mf_ σ f1 ∧ ∀ s, s < 16 → hf_ R σ f2 f3 s
theorem mf_7 {σ : sg_T} {f : Nat → Int32} (h : mf_ σ f) (g : Nat → Int32) : mf_ (sg_a σ 7 g) f := fun p hp j hj => by
  rw [sg_an _ _ (by omega)]; exact h p hp j hj
theorem mf_0 {σ : sg_T} {f : Nat → Int32} (h : mf_ σ f) (g : Nat → Int32) : mf_ (sg_a σ 0 g) f := fun p hp j hj => by
  rw [sg_an _ _ (by omega)]; exact h p hp j hj
theorem mf_u5 {σ : sg_T} {f : Nat → Int32} (h : mf_ σ f) {k : Nat} (v : Int32) : mf_ σ (upd f (6 * k + 5) v) := fun p hp j hj => by
  rw [up_n _ _ (by omega)]; exact h p hp j hj
theorem mf_add {σ : sg_T} {f : Nat → Int32} (h : mf_ σ f) {k j : Nat} (hk : k < 8) (hj : j < 5) (x : Int32) : mf_ (sg_a σ (2 + j) (upd (σ (2 + j)) k x)) (upd f (6 * k + j) x) := fun p hp i hi => by
  by_cases q : i = j
  · subst q
    rw [sg_as]
    by_cases q2 : p = k
    · subst q2; rw [up_s, up_s]
    · rw [up_n _ _ (by omega), up_n _ _ q2]; exact h p hp i hi
  · rw [sg_an _ _ (by omega), up_n _ _ (by omega)]; exact h p hp i hi
theorem nf_no {σ : sg_T} {f : Nat → Int32} (h : nf_ σ f) {k : Nat} (hk : k < 8) : nf_ (sg_a σ 7 (upd (σ 7) k NO)) (upd f (6 * k + 5) (-1)) := fun p hp => by
  rw [sg_as]
  by_cases q : p = k
  · subst q; rw [up_s, up_s]; rfl
  · rw [up_n _ _ (by omega), up_n _ _ q]; exact h p hp
theorem nf_hide {σ : sg_T} {f : Nat → Int32} (h : nf_ σ f) {k s : Nat} (hk : k < 8) (hs : s < 16) : nf_ (sg_a σ 7 (upd (σ 7) k (nI s))) (upd f (6 * k + 5) (nI s)) := fun p hp => by
  rw [sg_as]
  by_cases q : p = k
  · subst q
    rw [up_s, up_s]
    unfold hq_
    rw [if_neg (nI_NO (by omega))]
  · rw [up_n _ _ (by omega), up_n _ _ q]; exact h p hp
theorem nf_add {σ : sg_T} {f : Nat → Int32} (h : nf_ σ f) {k j : Nat} (hj : j < 5) (x : Int32) (g : Nat → Int32) : nf_ (sg_a σ (2 + j) g) (upd f (6 * k + j) x) := fun p hp => by
  rw [sg_an _ _ (by omega), up_n _ _ (by omega)]; exact h p hp
theorem nf_o {σ : sg_T} {f : Nat → Int32} (h : nf_ σ f) {j : Nat} (hj : j ≠ 7) (g : Nat → Int32) : nf_ (sg_a σ j g) f := fun p hp => by
  rw [sg_an _ _ (fun z => hj z.symm)]; exact h p hp
theorem pq_o {n pt : Nat} {σ : sg_T} (h : pq_ n pt σ) {j : Nat} (hj : j < 2 ∨ 7 < j) (g : Nat → Int32) : pq_ n pt (sg_a σ j g) := by
  unfold pq_ at h ⊢
  rw [sg_an _ _ (show 2 ≠ j by omega), sg_an _ _ (show 3 ≠ j by omega), sg_an _ _ (show 4 ≠ j by omega), sg_an _ _ (show 5 ≠ j by omega), sg_an _ _ (show 6 ≠ j by omega), sg_an _ _ (show 7 ≠ j by omega)]
  exact h
theorem pq_pt {n pt pt' : Nat} {σ : sg_T} (h : pq_ n pt σ) (hno : pt' = 0 → ∀ p, p < 8 → σ 7 p = NO) : pq_ n pt' σ := ⟨h.1, h.2.1, hno, h.2.2.2⟩
theorem pq_add {n pt : Nat} {σ : sg_T} (h : pq_ n pt σ) {k j : Nat} (hk : k < n) (hj : j < 5) (x : Int32) : pq_ n pt (sg_a σ (2 + j) (upd (σ (2 + j)) k x)) := by
  obtain ⟨e2, e3, e4, e5⟩ := h
  have c7 : sg_a σ (2 + j) (upd (σ (2 + j)) k x) 7 = σ 7 := sg_an _ _ (by omega)
  have far : ∀ p i, n ≤ p → p < 8 → i < 5 → sg_a σ (2 + j) (upd (σ (2 + j)) k x) (2 + i) p = 0 := by
    intro p i hp hp8 hi
    have old : σ (2 + i) p = 0 := by
      obtain ⟨a0, a1, a2, a3, a4, -⟩ := e3 p hp hp8
      rcases (show i = 0 ∨ i = 1 ∨ i = 2 ∨ i = 3 ∨ i = 4 by omega) with rfl | rfl | rfl | rfl | rfl <;> assumption
    by_cases q : i = j
    · subst q
      rw [sg_as, up_n _ _ (by omega)]; exact old
    · rw [sg_an _ _ (by omega)]; exact old
  unfold pq_
  rw [c7]
  exact ⟨e2, fun p h1 h2 => ⟨far p 0 h1 h2 (by decide), far p 1 h1 h2 (by decide), far p 2 h1 h2 (by decide), far p 3 h1 h2 (by decide), far p 4 h1 h2 (by decide), (e3 p h1 h2).2.2.2.2.2⟩, e4, e5⟩
theorem pq_no {n pt : Nat} {σ : sg_T} (h : pq_ n pt σ) (k : Nat) : pq_ n pt (sg_a σ 7 (upd (σ 7) k NO)) := by
  obtain ⟨e2, e3, e4, e5⟩ := h
  unfold pq_
  rw [sg_as, sg_an _ _ (by decide), sg_an _ _ (by decide), sg_an _ _ (by decide), sg_an _ _ (by decide), sg_an _ _ (by decide)]
  have le : ∀ p, upd (σ 7) k NO p = NO ∨ upd (σ 7) k NO p = σ 7 p := fun p => by
    by_cases q : p = k
    · left; rw [q, up_s]
    · right; rw [up_n _ _ q]
  refine ⟨fun p hp => ?_, fun p h1 h2 => ?_, fun q p hp => ?_, fun s h1 h2 => ?_⟩
  · rcases le p with q | q
    · exact Or.inl q
    · rw [q]; exact e2 p hp
  · have := e3 p h1 h2
    refine ⟨this.1, this.2.1, this.2.2.1, this.2.2.2.1, this.2.2.2.2.1, ?_⟩
    rcases le p with q | q
    · exact q
    · rw [q]; exact this.2.2.2.2.2
  · rcases le p with z1 | z1
    · exact z1
    · rw [z1]; exact e4 q p hp
  · refine Nat.le_trans (cn_m (fun p hp hP => ?_)) (e5 s h1 h2)
    rw [bo_] at hP ⊢
    rcases le p with q | q
    · rw [q] at hP
      exact absurd hP.symm (nI_NO (by omega))
    · rw [← q]; exact hP
theorem pq_hide {n pt : Nat} {σ : sg_T} (h : pq_ n pt σ) (hp : pt ≠ 0) {k s : Nat} (hk : k < n) (hs1 : 1 ≤ s) (hs : s < 16) (hc : cn_ (at_ σ s) n < 2) : pq_ n pt (sg_a σ 7 (upd (σ 7) k (nI s))) := by
  obtain ⟨e2, e3, e4, e5⟩ := h
  unfold pq_
  rw [sg_as, sg_an _ _ (by decide), sg_an _ _ (by decide), sg_an _ _ (by decide), sg_an _ _ (by decide), sg_an _ _ (by decide)]
  refine ⟨fun p hp => ?_, fun p h1 h2 => ?_, fun q => absurd q hp, fun t h1 h2 => ?_⟩
  · by_cases q : p = k
    · subst q; rw [up_s]; exact Or.inr ⟨s, hs1, hs, rfl⟩
    · rw [up_n _ _ q]; exact e2 p hp
  · have := e3 p h1 h2
    rw [up_n _ _ (show p ≠ k by omega)]
    exact this
  · by_cases q : t = s
    · subst q
      have : cn_ (fun p => decide (upd (σ 7) k (nI t) p = nI t)) n ≤ cn_ (at_ σ t) n + 1 := cn_one (k := k) (fun i hi hik hP => by
        unfold at_
        rw [bo_] at hP ⊢
        rw [up_n _ _ hik] at hP
        exact hP)
      omega
    · refine Nat.le_trans (cn_m (fun p hp hP => ?_)) (e5 t h1 h2)
      rw [bo_] at hP ⊢
      by_cases q2 : p = k
      · subst q2
        rw [up_s, nI_eq (by omega) (by omega)] at hP
        exact absurd hP.symm q
      · rw [up_n _ _ q2] at hP; exact hP
/-- rows 0, 1, 8, 9 as they were -/
theorem rf_p {n R pt : Nat} {σ σ' : sg_T} {f1 f2 f3 f4 g1 : Nat → Int32} (h : rf_ n R pt σ f1 f2 f3 f4) (h0 : σ' 0 = σ 0) (h1 : σ' 1 = σ 1) (h8 : σ' 8 = σ 8) (h9 : σ' 9 = σ 9) (hp : pq_ n pt σ') (hm : mf_ σ' g1) : rf_ n R pt σ' g1 f2 f3 f4 := by
  obtain ⟨a, b, c, d, -, -, e⟩ := h
  refine ⟨a, ?_, ?_, ?_, hp, hm, fun s hs => ?_⟩
  · unfold r0_ at b ⊢
    rw [h0]; exact b
  · unfold rs_ at c ⊢
    rw [h1]; exact c
  · unfold rt_ at d ⊢
    rw [h0]; exact d
  · have := e s hs
    unfold hf_ at this ⊢
    rw [h8, h9]; exact this
/-! how large the numbers get -/
theorem bd_m {P C P' C' : Nat} {σ : sg_T} (h : bd_ P C σ) (h1 : P ≤ P') (h2 : C ≤ C') : bd_ P' C' σ :=
  ⟨fun p hp => by have := h.1 p hp; omega, fun p hp => by have := h.2.1 p hp; omega, fun s hs => by
    obtain ⟨c, c1, c2⟩ := h.2.2 s hs
    exact ⟨c, by omega, c2⟩⟩
theorem bd_o {P C : Nat} {σ : sg_T} (h : bd_ P C σ) {j : Nat} (h2 : j ≠ 2) (h5 : j ≠ 5) (h8 : j ≠ 8) (g : Nat → Int32) : bd_ P C (sg_a σ j g) := by
  unfold bd_ at h ⊢
  rw [sg_an _ _ (fun z => h2 z.symm), sg_an _ _ (fun z => h5 z.symm), sg_an _ _ (fun z => h8 z.symm)]
  exact h
theorem bd_2 {P C : Nat} {σ : sg_T} (h : bd_ P C σ) (hP : P ≤ 900000) (k : Nat) {x : Int32} (h1 : -3 ≤ x.toInt) (h2 : x.toInt ≤ 3) : bd_ (P + 3) C (sg_a σ 2 (upd (σ 2) k (σ 2 k + x))) := by
  unfold bd_ at h ⊢
  rw [sg_as, sg_an _ _ (by decide), sg_an _ _ (by decide)]
  refine ⟨fun p hp => ?_, h.2⟩
  have hh := h.1 p hp
  by_cases q : p = k
  · subst q
    rw [up_s, ad_ (by omega) (by omega) (by omega) (by omega)]
    omega
  · rw [up_n _ _ q]; omega
theorem bd_5 {P C : Nat} {σ : sg_T} (h : bd_ P C σ) (hC : C ≤ 900000) (k : Nat) : bd_ P (C + 1) (sg_a σ 5 (upd (σ 5) k (σ 5 k + 1))) := by
  unfold bd_ at h ⊢
  rw [sg_as, sg_an _ _ (by decide), sg_an _ _ (by decide)]
  refine ⟨h.1, fun p hp => ?_, fun s hs => by
    obtain ⟨c, c1, c2⟩ := h.2.2 s hs
    exact ⟨c, by omega, c2⟩⟩
  have hh := h.2.1 p hp
  have one : (1 : Int32).toInt = 1 := by decide
  by_cases q : p = k
  · subst q
    rw [up_s, ad_ (by omega) (by omega) (by omega) (by omega)]
    omega
  · rw [up_n _ _ q]; omega
theorem bd_8 {P C : Nat} {σ : sg_T} (h : bd_ P C σ) (k : Nat) : bd_ P (C + 1) (sg_a σ 8 (upd (σ 8) k (σ 8 k + 1))) := by
  unfold bd_ at h ⊢
  rw [sg_as, sg_an _ _ (by decide), sg_an _ _ (by decide)]
  refine ⟨h.1, fun p hp => by have := h.2.1 p hp; omega, fun s hs => ?_⟩
  obtain ⟨c, c1, c2⟩ := h.2.2 s hs
  by_cases q : s = k
  · subst q
    rw [up_s, c2, nI_1]
    exact ⟨c + 1, by omega, rfl⟩
  · rw [up_n _ _ q]
    exact ⟨c, by omega, c2⟩
