/-! what the class answers, in closed form -/
def sm_ (σ : sg_T) : Nat → Int32
  | 0 => 0
  | i + 1 => sm_ σ i + σ 2 i
def rt8 (σ : sg_T) (s : Nat) : Bool := decide (¬ σ 9 s = -1)
def so_ (σ : sg_T) (i t : Nat) : Bool := decide (σ 3 i < σ 3 t ∨ (σ 3 i = σ 3 t ∧ ah_ σ t i = true))
def nn_ (σ : sg_T) : Nat → Nat
  | 0 => 0
  | i + 1 => if i = 0 then 0 else if so_ σ i (nn_ σ i) = true then i else nn_ σ i
def nv_ (σ : sg_T) (d : Int32) (i : Nat) : Int32 := if i = 0 then d else nI (nn_ σ i)
theorem nn_lt (σ : sg_T) : ∀ i, 0 < i → nn_ σ i < i
  | 0, h => absurd h (Nat.lt_irrefl 0)
  | i + 1, _ => by
    show (if i = 0 then 0 else if so_ σ i (nn_ σ i) = true then i else nn_ σ i) < i + 1
    by_cases q : i = 0
    · rw [if_pos q]; omega
    · rw [if_neg q]
      have := nn_lt σ i (by omega)
      split <;> omega
theorem nv_1 (σ : sg_T) (d : Int32) {i : Nat} (h : i ≠ 0) : nv_ σ d (i + 1) = if so_ σ i (nn_ σ i) = true then nI i else nI (nn_ σ i) := by
  unfold nv_
  rw [if_neg (by omega)]
  show nI (if i = 0 then 0 else if so_ σ i (nn_ σ i) = true then i else nn_ σ i) = _
  rw [if_neg h]
  split <;> rfl
theorem nv_n (σ : sg_T) (d : Int32) {i : Nat} (h : i ≠ 0) : nv_ σ d i = nI (nn_ σ i) := if_neg h
def bt_ (σ : sg_T) (n i t : Nat) : Bool := decide (ds t 0 < ds i 0 ∨ (ds i 0 = ds t 0 ∧ (σ 8 i < σ 8 t ∨ (σ 8 i = σ 8 t ∧ cn_ (at_ σ i) n < cn_ (at_ σ t) n))))
theorem bt_i {σ : sg_T} {n i t : Nat} : bt_ σ n i t = true ↔ (ds t 0 < ds i 0 ∨ (ds i 0 = ds t 0 ∧ (σ 8 i < σ 8 t ∨ (σ 8 i = σ 8 t ∧ cn_ (at_ σ i) n < cn_ (at_ σ t) n)))) := by unfold bt_; rw [bo_]
def gb_ (σ : sg_T) (n b i : Nat) : Bool := decide ((¬ i = 0 ∧ ds i 0 ≤ b ∧ σ 9 i = -1) ∧ cn_ (at_ σ i) n < 2)
theorem gb_i {σ : sg_T} {n b i : Nat} : gb_ σ n b i = true ↔ gd_ σ b i ∧ cn_ (at_ σ i) n < 2 := by unfold gb_ gd_; rw [bo_]
def b1_ (σ : sg_T) (n i : Nat) : Option Nat → Option Nat
  | none => some i
  | some t => if bt_ σ n i t = true then some i else some t
def bs_ (σ : sg_T) (n b : Nat) : Nat → Option Nat
  | 0 => none
  | i + 1 => if gb_ σ n b i = true then b1_ σ n i (bs_ σ n b i) else bs_ σ n b i
theorem bs_1 (σ : sg_T) (n b i : Nat) : bs_ σ n b (i + 1) = if gb_ σ n b i = true then b1_ σ n i (bs_ σ n b i) else bs_ σ n b i := rfl
def bv_ (d : Int32) : Option Nat → Int32
  | none => d
  | some t => nI t
theorem bs_lt (σ : sg_T) (n b : Nat) : ∀ i t, bs_ σ n b i = some t → t < i
  | 0, t, h => by cases h
  | i + 1, t, h => by
    rw [bs_1] at h
    have ih := bs_lt σ n b i
    by_cases q : gb_ σ n b i = true
    · rw [if_pos q] at h
      cases hb : bs_ σ n b i with
      | none =>
        rw [hb] at h
        have : i = t := Option.some.inj h
        omega
      | some w =>
        rw [hb] at h
        have hw := ih w hb
        have h : (if bt_ σ n i w = true then some i else some w) = some t := h
        by_cases q2 : bt_ σ n i w = true
        · rw [if_pos q2] at h
          have : i = t := Option.some.inj h
          omega
        · rw [if_neg q2] at h
          have : w = t := Option.some.inj h
          omega
    · rw [if_neg q] at h
      have := ih t h
      omega
def sg8 (a q s : Nat) : Bool := decide (ds a s ≤ q)
def es_ (σ : sg_T) (a p : Nat) : Bool := decide (¬ σ 7 p = NO ∧ ds (σ 7 p).toNatClampNeg 0 < ds a 0)
section Z
variable {n R pt : Nat} {σ μ : sg_T}
theorem c_sum (h : r5_ n R pt σ (μ 1)) : fX5_sumOfPoints σ = some (sm_ σ n) := by
  obtain ⟨hn, e1, -⟩ := z_0 h
  have key : ∀ d i f, i + d = n → d < f → lX5_sumOfPoints_4 f (sm_ σ i) (nI i) σ = some (sm_ σ n) := by
    intro d
    induction d with
    | zero =>
      intro i f hi hf
      obtain ⟨f, rfl⟩ : ∃ g, f = g + 1 := ⟨f - 1, by omega⟩
      have hi : i = n := by omega
      subst hi
      rw [lX5_sumOfPoints_4, e1, if_pos (Int32.le_refl _)]
    | succ d ih =>
      intro i f hi hf
      obtain ⟨f, rfl⟩ : ∃ g, f = g + 1 := ⟨f - 1, by omega⟩
      rw [lX5_sumOfPoints_4, e1, if_neg (by rw [nI_leI (by omega) (by omega)]; omega), ox_ (by omega) (by decide), cl_ (by omega), nI_1]
      exact ih (i + 1) f (by omega) (by omega)
  exact key n 0 70 (by omega) (by omega)
theorem c_ret (h : r5_ n R pt σ (μ 1)) : fX5_retiredCount σ = some (nI (cn_ (rt8 σ) 16)) := by
  have key : ∀ d i f, i + d = 16 → d < f → lX5_retiredCount_4 f (nI (cn_ (rt8 σ) i)) (nI i) σ = some (nI (cn_ (rt8 σ) 16)) := by
    intro d
    induction d with
    | zero =>
      intro i f hi hf
      obtain ⟨f, rfl⟩ : ∃ g, f = g + 1 := ⟨f - 1, by omega⟩
      have hi : i = 16 := by omega
      subst hi
      rw [lX5_retiredCount_4, if_pos (show (16 : Int32) ≤ nI 16 by decide)]
    | succ d ih =>
      intro i f hi hf
      obtain ⟨f, rfl⟩ : ∃ g, f = g + 1 := ⟨f - 1, by omega⟩
      have q : ¬ (16 : Int32) ≤ nI i := by rw [show (16 : Int32) = nI 16 from rfl, nI_leI (by decide) (by omega)]; omega
      rw [lX5_retiredCount_4, if_neg q, ob_ (z_ret h (show i < 16 by omega)).1, nI_1]
      by_cases q1 : σ 9 i = -1
      · rw [if_pos q1, if_pos p00, ← cn_n (P := rt8 σ) (i := i) (by unfold rt8; rw [bo_]; exact fun z => z q1)]
        exact ih (i + 1) f (by omega) (by omega)
      · rw [if_neg q1, if_neg n10, nI_1, ← cn_1 (P := rt8 σ) (by unfold rt8; rw [bo_]; exact q1)]
        exact ih (i + 1) f (by omega) (by omega)
  exact key 16 0 70 (by omega) (by omega)
theorem c_next (h : r5_ n R pt σ (μ 1)) : fX4_seekerOfNextRound σ = some (nv_ σ NO n) := by
  obtain ⟨hn, e1, -⟩ := z_0 h
  have key : ∀ d i f, i + d = n → d < f → lX4_seekerOfNextRound_6 f (nv_ σ NO i) (nI i) σ = some (nv_ σ NO n) := by
    intro d
    induction d with
    | zero =>
      intro i f hi hf
      obtain ⟨f, rfl⟩ : ∃ g, f = g + 1 := ⟨f - 1, by omega⟩
      have hi : i = n := by omega
      subst hi
      rw [lX4_seekerOfNextRound_6, e1, if_pos (Int32.le_refl _)]
    | succ d ih =>
      intro i f hi hf
      obtain ⟨f, rfl⟩ : ∃ g, f = g + 1 := ⟨f - 1, by omega⟩
      have g := ih (i + 1) f (by omega) (by omega)
      rw [lX4_seekerOfNextRound_6, e1, if_neg (by rw [nI_leI (by omega) (by omega)]; omega), nI_1]
      by_cases hi0 : i = 0
      · subst hi0
        have z : fX5_isPlayer NO σ = some 0 := by unfold fX5_isPlayer; rw [if_pos (by decide)]
        rw [show nv_ σ NO 0 = NO from rfl, ob_ z, if_pos p00]
        exact g
      · have ht := nn_lt σ i (by omega)
        rw [nv_1 _ _ hi0] at g
        rw [nv_n _ _ hi0, ob_ (z_isP h (show nn_ σ i < n by omega)), if_neg n10]
        obtain ⟨b1, -⟩ := z_ah h (show nn_ σ i < n by omega) (show i < n by omega)
        have ss : fX4_seeksSooner (nI i) (nI (nn_ σ i)) σ = some (if so_ σ i (nn_ σ i) = true then 1 else 0) := by
          unfold fX4_seeksSooner
          rw [ox_ (by omega) (by decide), ox_ (by omega) (by decide), cl_ (by omega), cl_ (by omega), ob_ b1]
          have k : so_ σ i (nn_ σ i) = true ↔ (σ 3 i < σ 3 (nn_ σ i) ∨ (σ 3 i = σ 3 (nn_ σ i) ∧ ah_ σ (nn_ σ i) i = true)) := by unfold so_; rw [bo_]
          by_cases q1 : σ 3 i = σ 3 (nn_ σ i)
          · have q2 : ¬ σ 3 i < σ 3 (nn_ σ i) := by rw [q1, fa_lt]; omega
            rw [if_pos q1]
            by_cases q : ah_ σ (nn_ σ i) i = true
            · rw [if_pos q, if_pos (k.mpr (Or.inr ⟨q1, q⟩))]; rfl
            · rw [if_neg q, if_neg (fun z => (k.mp z).elim q2 (fun w => q w.2))]; rfl
          · rw [if_neg q1]
            by_cases q2 : σ 3 (nn_ σ i) ≤ σ 3 i
            · have q3 : ¬ σ 3 i < σ 3 (nn_ σ i) := by rw [fa_lt]; rw [fa_le] at q2; omega
              rw [if_pos q2, if_neg (fun z => (k.mp z).elim q3 (fun w => q1 w.1))]
            · rw [if_neg q2, if_pos (k.mpr (Or.inl (fa_nle.mp q2)))]
        rw [ob_ ss]
        by_cases q : so_ σ i (nn_ σ i) = true
        · rw [if_pos q, if_neg n10]
          rw [if_pos q] at g
          exact g
        · rw [if_neg q, if_pos p00]
          rw [if_neg q, ← nv_n σ NO hi0] at g
          rw [← nv_n σ NO hi0]
          exact g
  exact key n 0 70 (by omega) (by omega)
theorem c_bet (h : r5_ n R pt σ (μ 1)) {s t : Nat} (hs : s < 16) (ht : t < s) : fX0_isBetterToHide (nI s) (nI t) σ = some (if bt_ σ n s t = true then 1 else 0) := by
  obtain ⟨hn, -⟩ := z_0 h
  have ht2 : t < 16 := by omega
  have cs1 := (z_cnt h hs).1
  have ct1 := (z_cnt h ht2).1
  have k1 := cn_le (at_ σ s) n
  have k2 := cn_le (at_ σ t) n
  have d1 := ds_8 s hs 0 (by decide)
  have d2 := ds_8 t ht2 0 (by decide)
  have k := bt_i (σ := σ) (n := n) (i := s) (t := t)
  unfold fX0_isBetterToHide
  simp only [ob_ (p_base hs), ob_ (p_base ht2), ob_ cs1, ob_ ct1, ox_ hs (by decide), ox_ ht2 (by decide), cl_ (show s < 2 ^ 31 by omega), cl_ (show t < 2 ^ 31 by omega)]
  by_cases q1 : nI (ds s 0) = nI (ds t 0)
  · rw [if_pos q1]
    rw [nI_eq (by omega) (by omega)] at q1
    by_cases q2 : σ 8 s = σ 8 t
    · have q2' : ¬ σ 8 s < σ 8 t := by rw [q2, fa_lt]; omega
      rw [if_pos q2]
      by_cases q3 : nI (cn_ (at_ σ s) n) = nI (cn_ (at_ σ t) n)
      · rw [nI_eq (by omega) (by omega)] at q3
        have z : ¬ bt_ σ n s t = true := by
          rw [k]
          rintro (z | ⟨-, z | ⟨-, z⟩⟩)
          · omega
          · exact q2' z
          · omega
        rw [if_pos (by rw [q3]), if_pos ((nI_leI (by omega) (by omega)).mpr (by omega)), if_neg z]
      · rw [if_neg q3]
        by_cases q4 : nI (cn_ (at_ σ t) n) ≤ nI (cn_ (at_ σ s) n)
        · rw [if_pos q4]
          rw [nI_leI (by omega) (by omega)] at q4
          have z : ¬ bt_ σ n s t = true := by
            rw [k]
            rintro (z | ⟨-, z | ⟨-, z⟩⟩)
            · omega
            · exact q2' z
            · omega
          rw [if_neg z]
        · rw [if_neg q4]
          rw [nI_leI (by omega) (by omega)] at q4
          rw [if_pos (k.mpr (Or.inr ⟨q1, Or.inr ⟨q2, by omega⟩⟩))]
    · rw [if_neg q2]
      by_cases q4 : σ 8 t ≤ σ 8 s
      · rw [if_pos q4]
        have z : ¬ bt_ σ n s t = true := by
          rw [k]
          rintro (z | ⟨-, z | ⟨z, -⟩⟩)
          · omega
          · rw [fa_lt] at z; rw [fa_le] at q4; omega
          · exact q2 z
        rw [if_neg z]
      · rw [if_neg q4, if_pos (k.mpr (Or.inr ⟨q1, Or.inl (fa_nle.mp q4)⟩))]
  · rw [if_neg q1]
    rw [nI_eq (by omega) (by omega)] at q1
    by_cases q4 : nI (ds s 0) ≤ nI (ds t 0)
    · rw [if_pos q4]
      rw [nI_leI (by omega) (by omega)] at q4
      have z : ¬ bt_ σ n s t = true := by
        rw [k]
        rintro (z | ⟨z, -⟩)
        · omega
        · omega
      rw [if_neg z]
    · rw [if_neg q4]
      rw [nI_leI (by omega) (by omega)] at q4
      rw [if_pos (k.mpr (Or.inl (by omega)))]
theorem c_best (h : r5_ n R 1 σ (μ 1)) {b : Nat} (hb : b ≤ 8) (b1 : σ 0 4 = nI b) (b2 : μ 1 8 = nI b) : fX0_bestHidingSpot σ = some (bv_ NO (bs_ σ n b 16)) := by
  have e1 := h.2.1.2.2.2.2.2.2.1
  unfold fX0_bestHidingSpot
  rw [e1, if_pos (show nI 1 = 1 from rfl)]
  have key : ∀ d i f, i + d = 16 → d < f → lX0_bestHidingSpot_18 f (bv_ NO (bs_ σ n b i)) (nI i) σ = some (bv_ NO (bs_ σ n b 16)) := by
    intro d
    induction d with
    | zero =>
      intro i f hi hf
      obtain ⟨f, rfl⟩ : ∃ g, f = g + 1 := ⟨f - 1, by omega⟩
      have hi : i = 16 := by omega
      subst hi
      rw [lX0_bestHidingSpot_18, if_pos (show (16 : Int32) ≤ nI 16 by decide)]
    | succ d ih =>
      intro i f hi hf
      obtain ⟨f, rfl⟩ : ∃ g, f = g + 1 := ⟨f - 1, by omega⟩
      have q0 : ¬ (16 : Int32) ≤ nI i := by rw [show (16 : Int32) = nI 16 from rfl, nI_leI (by decide) (by omega)]; omega
      have g := ih (i + 1) f (by omega) (by omega)
      rw [lX0_bestHidingSpot_18, if_neg q0, nI_1]
      rw [bs_1] at g
      rcases z_open h (show i < 16 by omega) hb b1 b2 with ⟨g1, g2, g3, -⟩ | ⟨g1, g3, -⟩
      · rw [if_pos (gb_i.mpr ⟨g1, g2⟩)] at g
        rw [ob_ g3, if_neg n10]
        cases hbs : bs_ σ n b i with
        | none =>
          rw [hbs] at g
          rw [show bv_ NO none = NO from rfl, show fX6_isSpot NO = some 0 by decide, Option.bind_some, if_pos p00]
          exact g
        | some t =>
          have ht := bs_lt σ n b i t hbs
          rw [hbs] at g
          have g : lX0_bestHidingSpot_18 f (bv_ NO (if bt_ σ n i t = true then some i else some t)) (nI (i + 1)) σ = _ := g
          rw [show bv_ NO (some t) = nI t from rfl, ob_ (z_isS (show t < 16 by omega)), if_neg n10, ob_ (c_bet h (show i < 16 by omega) ht)]
          by_cases q : bt_ σ n i t = true
          · rw [if_pos q, if_neg n10]
            rw [if_pos q] at g
            exact g
          · rw [if_neg q, if_pos p00]
            rw [if_neg q] at g
            exact g
      · rw [if_neg (fun z => g1 (gb_i.mp z))] at g
        rw [ob_ g3, if_pos p00]
        exact g
  exact key 16 0 70 (by omega) (by omega)
theorem c_sight (h : r5_ n R 2 σ (μ 1)) {a q : Nat} (ha : a < 16) (hq : q ≤ 3) (a1 : σ 0 5 = nI a) (q1 : σ 1 0 = nI q) : fX0_spotsInSight σ = some (nI (mk_ (sg8 a q) 16)) := by
  have e1 := h.2.1.2.2.2.2.2.2.1
  unfold fX0_spotsInSight
  rw [e1, if_pos (show nI 2 = 2 from rfl)]
  have key : ∀ d i f, i + d = 16 → d < f → lX0_spotsInSight_16 f (nI (mk_ (sg8 a q) i)) (nI i) σ = some (nI (mk_ (sg8 a q) 16)) := by
    intro d
    induction d with
    | zero =>
      intro i f hi hf
      obtain ⟨f, rfl⟩ : ∃ g, f = g + 1 := ⟨f - 1, by omega⟩
      have hi : i = 16 := by omega
      subst hi
      rw [lX0_spotsInSight_16, if_pos (show (16 : Int32) ≤ nI 16 by decide)]
    | succ d ih =>
      intro i f hi hf
      obtain ⟨f, rfl⟩ : ∃ g, f = g + 1 := ⟨f - 1, by omega⟩
      have q0 : ¬ (16 : Int32) ≤ nI i := by rw [show (16 : Int32) = nI 16 from rfl, nI_leI (by decide) (by omega)]; omega
      have d8 := ds_8 a ha i (by omega)
      rw [lX0_spotsInSight_16, if_neg q0, ob_ (z_sees ha a1 q1 (show i < 16 by omega)), nI_1]
      by_cases z : nI q < nI (ds a i)
      · rw [if_pos z, if_pos p00]
        rw [nI_ltI (by omega) (by omega)] at z
        rw [← mk_n (P := sg8 a q) (i := i) (by unfold sg8; rw [bo_]; omega)]
        exact ih (i + 1) f (by omega) (by omega)
      · rw [if_neg z, if_neg n10]
        rw [nI_ltI (by omega) (by omega)] at z
        rw [or_1 (by omega), ← mk_1 (P := sg8 a q) (by unfold sg8; rw [bo_]; omega)]
        exact ih (i + 1) f (by omega) (by omega)
  exact key 16 0 70 (by omega) (by omega)
theorem c_esc (h : r5_ n R 2 σ (μ 1)) {a : Nat} (ha : a < 16) (a1 : σ 0 5 = nI a) {p : Nat} (hp : p < n) : fX5_wouldEscape (nI p) σ = some (if es_ σ a p = true then 1 else 0) := by
  obtain ⟨hn, -⟩ := z_0 h
  have k : es_ σ a p = true ↔ (¬ σ 7 p = NO ∧ ds (σ 7 p).toNatClampNeg 0 < ds a 0) := by unfold es_; rw [bo_]
  unfold fX5_wouldEscape
  rw [ob_ (z_hid h hp)]
  by_cases q : σ 7 p = NO
  · rw [if_pos q, if_pos p00, if_neg (fun z => (k.mp z).1 q)]
  · rcases h.2.2.2.2.1.2.1 p (by omega) with z | ⟨s, hs1, hs2, e⟩
    · exact absurd z q
    · have d1 := ds_8 s hs2 0 (by decide)
      have d2 := ds_8 a ha 0 (by decide)
      rw [e, cl_ (by omega)] at k
      rw [if_neg q, if_neg n10, ox_ (by omega) (by decide), cl_ (by omega), e, ob_ (p_base hs2), a1, ob_ (p_base ha)]
      by_cases z : nI (ds a 0) ≤ nI (ds s 0)
      · rw [if_pos z]
        rw [nI_leI (by omega) (by omega)] at z
        rw [if_neg (fun w => by have := (k.mp w).2; omega)]
      · rw [if_neg z]
        rw [nI_leI (by omega) (by omega)] at z
        rw [if_pos (k.mpr ⟨by rw [← e]; exact q, by omega⟩)]
theorem c_dash (h : r5_ n R 2 σ (μ 1)) {a : Nat} (ha : a < 16) (a1 : σ 0 5 = nI a) : fX0_playersWhoWouldEscape σ = some (nI (mk_ (es_ σ a) n)) := by
  obtain ⟨hn, f1, -⟩ := z_0 h
  have e1 := h.2.1.2.2.2.2.2.2.1
  unfold fX0_playersWhoWouldEscape
  rw [e1, if_pos (show nI 2 = 2 from rfl)]
  have key : ∀ d i f, i + d = n → d < f → lX0_playersWhoWouldEscape_16 f (nI (mk_ (es_ σ a) i)) (nI i) σ = some (nI (mk_ (es_ σ a) n)) := by
    intro d
    induction d with
    | zero =>
      intro i f hi hf
      obtain ⟨f, rfl⟩ : ∃ g, f = g + 1 := ⟨f - 1, by omega⟩
      have hi : i = n := by omega
      subst hi
      rw [lX0_playersWhoWouldEscape_16, f1, if_pos (Int32.le_refl _)]
    | succ d ih =>
      intro i f hi hf
      obtain ⟨f, rfl⟩ : ∃ g, f = g + 1 := ⟨f - 1, by omega⟩
      rw [lX0_playersWhoWouldEscape_16, f1, if_neg (by rw [nI_leI (by omega) (by omega)]; omega), ob_ (c_esc h ha a1 (show i < n by omega)), nI_1]
      by_cases z : es_ σ a i = true
      · rw [if_pos z, if_neg n10, or_1 (by omega), ← mk_1 z]
        exact ih (i + 1) f (by omega) (by omega)
      · rw [if_neg z, if_pos p00, ← mk_n z]
        exact ih (i + 1) f (by omega) (by omega)
  exact key n 0 70 (by omega) (by omega)
theorem pl_lt (σ : sg_T) {n p : Nat} (hp : p < n) : pl_ σ n p < n := by
  have := cn_lt (P := fun i => ah_ σ i p) (Q := fun _ => true) (n := n) (fun i _ _ => rfl) p hp ah_r rfl
  have := cn_le (fun _ => true) n
  unfold pl_
  omega
theorem c_rank (h : r5_ n R pt σ (μ 1)) {p : Nat} (hp : p < n) : fX4_playerAt (nI (pl_ σ n p)) σ = some (nI p) := by
  obtain ⟨hn, e1, -⟩ := z_0 h
  have lp := pl_lt σ hp
  have key : ∀ d i f, i + d = p → d < f → lX4_playerAt_2 f (nI (pl_ σ n p)) (nI i) σ = some (nI p) := by
    intro d
    induction d with
    | zero =>
      intro i f hi hf
      obtain ⟨f, rfl⟩ : ∃ g, f = g + 1 := ⟨f - 1, by omega⟩
      have hi : i = p := by omega
      subst hi
      rw [lX4_playerAt_2, e1, if_neg (by rw [nI_leI (by omega) (by omega)]; omega), ob_ (z_place h hp).1, if_pos rfl]
    | succ d ih =>
      intro i f hi hf
      obtain ⟨f, rfl⟩ : ∃ g, f = g + 1 := ⟨f - 1, by omega⟩
      have li := pl_lt σ (show i < n by omega)
      have z : ¬ nI (pl_ σ n i) = nI (pl_ σ n p) := by
        rw [nI_eq (by omega) (by omega)]
        intro e
        have := pl_i (show i < n by omega) hp e
        omega
      rw [lX4_playerAt_2, e1, if_neg (by rw [nI_leI (by omega) (by omega)]; omega), ob_ (z_place h (show i < n by omega)).1, if_neg z, nI_1]
      exact ih (i + 1) f (by omega) (by omega)
  exact key p 0 70 (by omega) (by omega)
theorem c_rankN (h : r5_ n R pt σ (μ 1)) : fX4_playerAt (nI n) σ = some (-10001) := by
  obtain ⟨hn, e1, -⟩ := z_0 h
  have key : ∀ d i f, i + d = n → d < f → lX4_playerAt_2 f (nI n) (nI i) σ = some (-10001) := by
    intro d
    induction d with
    | zero =>
      intro i f hi hf
      obtain ⟨f, rfl⟩ : ∃ g, f = g + 1 := ⟨f - 1, by omega⟩
      have hi : i = n := by omega
      subst hi
      rw [lX4_playerAt_2, e1, if_pos (Int32.le_refl _)]
    | succ d ih =>
      intro i f hi hf
      obtain ⟨f, rfl⟩ : ∃ g, f = g + 1 := ⟨f - 1, by omega⟩
      have li := pl_lt σ (show i < n by omega)
      have z : ¬ nI (pl_ σ n i) = nI n := by
        rw [nI_eq (by omega) (by omega)]
        omega
      rw [lX4_playerAt_2, e1, if_neg (by rw [nI_leI (by omega) (by omega)]; omega), ob_ (z_place h (show i < n by omega)).1, if_neg z, nI_1]
      exact ih (i + 1) f (by omega) (by omega)
  exact key n 0 70 (by omega) (by omega)
end Z
