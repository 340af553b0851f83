/-! a move is read -/
def k2_ (r_1 : Int32) (σ : sg_T) : Option (sg_T) := ((fX8_wants (1 : Int32) σ).bind fun σ4 => (o_x ((3 : Int32) * (σ4 0 3)) 93 ((fX8_letter (sg_a σ4 5 (upd (σ4 5) (((3 : Int32) * (σ4 0 3))).toNatClampNeg r_1))).bind fun r_7 => (o_x (((3 : Int32) * (σ4 0 3)) + (1 : Int32)) 93 ((fX8_letter (sg_a (sg_a σ4 5 (upd (σ4 5) (((3 : Int32) * (σ4 0 3))).toNatClampNeg r_1)) 5 (upd (upd (σ4 5) (((3 : Int32) * (σ4 0 3))).toNatClampNeg r_1) ((((3 : Int32) * (σ4 0 3)) + (1 : Int32))).toNatClampNeg (r_7 - (48 : Int32))))).bind fun r_10 => ((fX8_in r_10 (48 : Int32) (55 : Int32)).bind fun r_12 => ((fX8_wants r_12 (sg_a (sg_a σ4 5 (upd (σ4 5) (((3 : Int32) * (σ4 0 3))).toNatClampNeg r_1)) 5 (upd (upd (σ4 5) (((3 : Int32) * (σ4 0 3))).toNatClampNeg r_1) ((((3 : Int32) * (σ4 0 3)) + (1 : Int32))).toNatClampNeg (r_7 - (48 : Int32))))).bind fun σ14 => ((fX8_letter σ14).bind fun r_16 => (o_x (((3 : Int32) * (σ4 0 3)) + (2 : Int32)) 93 ((fX8_letter (sg_a σ14 5 (upd (σ14 5) ((((3 : Int32) * (σ4 0 3)) + (2 : Int32))).toNatClampNeg (r_16 - (97 : Int32))))).bind fun r_19 => ((fX8_in r_19 (97 : Int32) (112 : Int32)).bind fun r_21 => ((fX8_wants r_21 (sg_a σ14 5 (upd (σ14 5) ((((3 : Int32) * (σ4 0 3)) + (2 : Int32))).toNatClampNeg (r_16 - (97 : Int32))))).bind fun σ23 => (some ((sg_a σ23 0 (sg_u (σ23 0) 3 ((σ23 0 3) + (1 : Int32))))))))))))))))))
def k1_ (r_1 : Int32) (σ : sg_T) : Option (sg_T) := ((fX8_wants (1 : Int32) σ).bind fun σ63 => (o_x ((3 : Int32) * (σ63 0 3)) 93 ((fX8_letter (sg_a σ63 5 (upd (σ63 5) (((3 : Int32) * (σ63 0 3))).toNatClampNeg r_1))).bind fun r_66 => (o_x (((3 : Int32) * (σ63 0 3)) + (1 : Int32)) 93 ((fX8_letter (sg_a (sg_a σ63 5 (upd (σ63 5) (((3 : Int32) * (σ63 0 3))).toNatClampNeg r_1)) 5 (upd (upd (σ63 5) (((3 : Int32) * (σ63 0 3))).toNatClampNeg r_1) ((((3 : Int32) * (σ63 0 3)) + (1 : Int32))).toNatClampNeg (r_66 - (48 : Int32))))).bind fun r_69 => ((fX8_in r_69 (48 : Int32) (55 : Int32)).bind fun r_71 => ((fX8_wants r_71 (sg_a (sg_a σ63 5 (upd (σ63 5) (((3 : Int32) * (σ63 0 3))).toNatClampNeg r_1)) 5 (upd (upd (σ63 5) (((3 : Int32) * (σ63 0 3))).toNatClampNeg r_1) ((((3 : Int32) * (σ63 0 3)) + (1 : Int32))).toNatClampNeg (r_66 - (48 : Int32))))).bind fun σ73 => (some ((sg_a σ73 0 (sg_u (σ73 0) 3 ((σ73 0 3) + (1 : Int32)))))))))))))
def k0_ (x r_1 : Int32) (σ : sg_T) : Option (sg_T) := ((fX8_wants x σ).bind fun σ60 => (o_x ((3 : Int32) * (σ60 0 3)) 93 (some ((sg_a (sg_a σ60 5 (upd (σ60 5) (((3 : Int32) * (σ60 0 3))).toNatClampNeg r_1)) 0 (sg_u (σ60 0) 3 ((σ60 0 3) + (1 : Int32))))))))
theorem rm_eq (σ : sg_T) : fX8_readMove σ = (fX8_letter σ).bind fun r_1 => if r_1 = 104 then k2_ r_1 σ else if r_1 = 98 then k0_ 1 r_1 σ else if r_1 = 43 then k0_ 1 r_1 σ else if r_1 = 45 then k0_ 1 r_1 σ else if r_1 = 99 then k2_ r_1 σ else if r_1 = 100 then k1_ r_1 σ else k0_ 0 r_1 σ := rfl
section Z
variable {t m p : Nat} {f : Nat → Int32} {μ σ : sg_T} {w : Int32}
theorem ct1_ (c0 : σ 0 0 = nI t) (cf : ∀ k, k < t → σ 1 k = f k) (ht : t ≤ 60) {k : Nat} (hk : k < t) (g : Nat) (st : Int32) : lX1_firstError_4 (g + 1) st (nI k) σ = (fX1_expectedAfter st (f k)).bind fun r_4 => if r_4 = 0 then some (nI k) else lX1_firstError_4 g r_4 (nI (k + 1)) σ := by
  rw [lX1_firstError_4, c0, if_neg (by rw [nI_leI (by omega) (by omega)]; omega), ox_ (by omega) (by decide), cl_ (by omega), cf k hk, nI_1]
theorem ce_ (c0 : σ 0 0 = nI t) (g : Nat) (st : Int32) (h5 : ¬ st = 5) : lX1_firstError_4 (g + 1) st (nI t) σ = some (nI t) := by
  rw [lX1_firstError_4, c0, if_pos (Int32.le_refl _), if_neg h5]
theorem ce5 (c0 : σ 0 0 = nI t) (g : Nat) : lX1_firstError_4 (g + 1) 5 (nI t) σ = some NO := by
  rw [lX1_firstError_4, c0, if_pos (Int32.le_refl _), if_pos rfl]
theorem dg_ (c0 : σ 0 0 = nI t) (cf : ∀ k, k < t → σ 1 k = f k) (ht : t ≤ 60) {st nx lo hi : Int32} (E : ∀ c, fX1_expectedAfter st c = some (if c < lo ∨ hi < c then 0 else nx)) (hn : ¬ nx = 0) (hl : NO < lo) (h44 : (44 : Int32) < lo) (h5 : ¬ st = 5) {k : Nat} (hk : k ≤ t) : (k < t ∧ fX8_in (lt_ t f k) lo hi = some 1 ∧ lt_ t f k = f k ∧ ¬ f k = 44 ∧ ∀ g, lX1_firstError_4 (g + 1) st (nI k) σ = lX1_firstError_4 g nx (nI (k + 1)) σ) ∨ (fX8_in (lt_ t f k) lo hi = some 0 ∧ ∀ g, lX1_firstError_4 (g + 1) st (nI k) σ = some (nI k)) := by
  rw [q_in]
  by_cases q : k < t
  · have e : lt_ t f k = f k := if_pos q
    rw [e]
    by_cases c : f k < lo ∨ hi < f k
    · right
      rw [if_pos c]
      refine ⟨rfl, fun g => ?_⟩
      rw [ct1_ c0 cf ht q, E, if_pos c]
      rfl
    · left
      rw [if_neg c]
      refine ⟨q, rfl, rfl, fun w => ?_, fun g => ?_⟩
      · rw [w] at c
        exact c (Or.inl h44)
      · rw [ct1_ c0 cf ht q, E, if_neg c]
        exact if_neg hn
  · have e : lt_ t f k = NO := if_neg q
    right
    rw [e, if_pos (Or.inl hl)]
    refine ⟨rfl, fun g => ?_⟩
    have : k = t := by omega
    subst this
    exact ce_ c0 g st h5
theorem e2_ (c : Int32) : fX1_expectedAfter 2 c = some (if c < 48 ∨ 55 < c then 0 else 4) := by
  unfold fX1_expectedAfter fX1_isPlayerDigit
  rw [if_neg (by decide), if_pos rfl]
  by_cases q : c < 48
  · rw [if_pos q, if_pos (Or.inl q)]; rfl
  · rw [if_neg q]
    by_cases q2 : 55 < c
    · rw [if_pos q2, if_pos (Or.inr q2)]; rfl
    · rw [if_neg q2, if_neg (fun w => w.elim q q2)]; rfl
theorem e3_ (c : Int32) : fX1_expectedAfter 3 c = some (if c < 48 ∨ 55 < c then 0 else 5) := by
  unfold fX1_expectedAfter fX1_isPlayerDigit
  rw [if_neg (by decide), if_neg (by decide), if_pos rfl]
  by_cases q : c < 48
  · rw [if_pos q, if_pos (Or.inl q)]; rfl
  · rw [if_neg q]
    by_cases q2 : 55 < c
    · rw [if_pos q2, if_pos (Or.inr q2)]; rfl
    · rw [if_neg q2, if_neg (fun w => w.elim q q2)]; rfl
theorem e4_ (c : Int32) : fX1_expectedAfter 4 c = some (if c < 97 ∨ 112 < c then 0 else 5) := by
  unfold fX1_expectedAfter fX1_isSpotLetter
  rw [if_neg (by decide), if_neg (by decide), if_neg (by decide), if_pos rfl]
  by_cases q : c < 97
  · rw [if_pos q, if_pos (Or.inl q)]; rfl
  · rw [if_neg q]
    by_cases q2 : 112 < c
    · rw [if_pos q2, if_pos (Or.inr q2)]; rfl
    · rw [if_neg q2, if_neg (fun w => w.elim q q2)]; rfl
theorem nNO {k : Nat} (hk : k < 2 ^ 30) : ¬ nI k = NO := by
  rw [fa_eq, nI_toInt (by omega)]
  have : (NO : Int32).toInt = -10006 := by decide
  omega
theorem k2_spec (h : TX t f m p NO μ) (c0 : σ 0 0 = nI t) (cf : ∀ k, k < t → σ 1 k = f k) (ht : t ≤ 60) (hp : p < t) (hm : m ≤ 30) (r : Int32) : ∃ (μ' : sg_T) (w : Int32) (p' : Nat), k2_ r μ = some μ' ∧ TX t f (m + 1) p' w μ' ∧ FR μ μ' ∧ (∀ k, k < 3 * m → μ' 5 k = μ 5 k) ∧ ((w = NO ∧ p' = p + 3 ∧ p + 2 < t ∧ (∀ g, lX1_firstError_4 (g + 2) 2 (nI (p + 1)) σ = lX1_firstError_4 g 5 (nI (p + 3)) σ) ∧ ¬ f (p + 1) = 44 ∧ ¬ f (p + 2) = 44 ∧ μ' 5 (3 * m) = r ∧ μ' 5 (3 * m + 1) = f (p + 1) - 48 ∧ μ' 5 (3 * m + 2) = f (p + 2) - 97) ∨ (∃ e, e ≤ t ∧ w = nI e ∧ ∀ g, lX1_firstError_4 (g + 2) 2 (nI (p + 1)) σ = some (nI e))) := by
  unfold k2_
  obtain ⟨μ4, w4, T4, F4, g4⟩ := tx_Y h 1 n10
  have i0 : (3 : Int32) * nI m = nI (3 * m) := by rw [show (3 : Int32) = nI 3 from rfl, nI_mul]
  have i1 : nI (3 * m) + (1 : Int32) = nI (3 * m + 1) := nI_1 _
  have i2 : nI (3 * m) + (2 : Int32) = nI (3 * m + 2) := by rw [show (2 : Int32) = nI 2 from rfl, nI_add]
  rw [ob_ w4, T4.2.1, i0, i1, i2, cl_ (show 3 * m < 2 ^ 31 by omega), cl_ (show 3 * m + 1 < 2 ^ 31 by omega), cl_ (show 3 * m + 2 < 2 ^ 31 by omega), ox_ (show 3 * m < 93 by omega) (by decide)]
  obtain ⟨T5, F5⟩ := tx_5 T4 (upd (μ4 5) (3 * m) r)
  rw [ob_ (tx_let T5 ht (by omega)), ox_ (show 3 * m + 1 < 93 by omega) (by decide)]
  obtain ⟨T6, F6⟩ := tx_5 T5 (upd (upd (μ4 5) (3 * m) r) (3 * m + 1) (lt_ t f (p + 1) - 48))
  rw [ob_ (tx_let T6 ht (by omega))]
  have F46 := FR_t F4 (FR_t F5 F6)
  rcases dg_ c0 cf ht e2_ (by decide) (by decide) (by decide) (by decide) (show p + 1 ≤ t by omega) with ⟨q, b1, b2, b3, b4⟩ | ⟨b1, b4⟩
  · rw [ob_ b1]
    obtain ⟨μ7, w7, T7, F7, g7⟩ := tx_Y T6 1 n10
    rw [ob_ w7, ob_ (tx_let T7 ht (by omega)), ox_ (show 3 * m + 2 < 93 by omega) (by decide)]
    obtain ⟨T8, F8⟩ := tx_5 T7 (upd (μ7 5) (3 * m + 2) (lt_ t f (p + 1 + 1) - 97))
    rw [ob_ (tx_let T8 ht (by omega))]
    have F48 := FR_t F46 (FR_t F7 F8)
    have r8 : sg_a μ7 5 (upd (μ7 5) (3 * m + 2) (lt_ t f (p + 1 + 1) - 97)) 5 = upd (upd (upd (μ 5) (3 * m) r) (3 * m + 1) (lt_ t f (p + 1) - 48)) (3 * m + 2) (lt_ t f (p + 1 + 1) - 97) := by rw [sg_as, g7, sg_as, g4]
    rcases dg_ c0 cf ht e4_ (by decide) (by decide) (by decide) (by decide) (show p + 1 + 1 ≤ t by omega) with ⟨q', d1, d2, d3, d4⟩ | ⟨d1, d4⟩
    · rw [ob_ d1]
      obtain ⟨μ9, w9, T9, F9, g9⟩ := tx_Y T8 1 n10
      obtain ⟨Tm, Fm⟩ := tx_m T9
      rw [ob_ w9]
      have r9 : ∀ x, sg_a μ9 0 x 5 = upd (upd (upd (μ 5) (3 * m) r) (3 * m + 1) (lt_ t f (p + 1) - 48)) (3 * m + 2) (lt_ t f (p + 1 + 1) - 97) := fun x => by rw [sg_an _ _ (by decide), g9, r8]
      refine ⟨_, _, _, rfl, Tm, FR_t F48 (FR_t F9 Fm), fun k hk => ?_, Or.inl ⟨rfl, by omega, q', fun g => ?_, b3, d3, ?_, ?_, ?_⟩⟩
      · rw [r9, up_n _ _ (by omega), up_n _ _ (by omega), up_n _ _ (by omega)]
      · rw [b4, d4]
      · rw [r9, up_n _ _ (by omega), up_n _ _ (by omega), up_s]
      · rw [r9, up_n _ _ (by omega), up_s, b2]
      · rw [r9, up_s, d2]
    · rw [ob_ d1]
      obtain ⟨μ9, w9, T9, F9, g9⟩ := tx_N T8
      obtain ⟨Tm, Fm⟩ := tx_m T9
      rw [ob_ w9]
      have r9 : ∀ x, sg_a μ9 0 x 5 = upd (upd (upd (μ 5) (3 * m) r) (3 * m + 1) (lt_ t f (p + 1) - 48)) (3 * m + 2) (lt_ t f (p + 1 + 1) - 97) := fun x => by rw [sg_an _ _ (by decide), g9, r8]
      refine ⟨_, _, _, rfl, Tm, FR_t F48 (FR_t F9 Fm), fun k hk => ?_, Or.inr ⟨p + 1 + 1, by omega, rfl, fun g => ?_⟩⟩
      · rw [r9, up_n _ _ (by omega), up_n _ _ (by omega), up_n _ _ (by omega)]
      · rw [b4, d4]
  · rw [ob_ b1]
    obtain ⟨μ7, w7, T7, F7, g7⟩ := tx_N T6
    have hw : ¬ nI (p + 1) = NO := nNO (by omega)
    rw [ob_ w7, ob_ (tx_let T7 ht (by omega)), ox_ (show 3 * m + 2 < 93 by omega) (by decide)]
    obtain ⟨T8, F8⟩ := tx_5 T7 (upd (μ7 5) (3 * m + 2) (lt_ t f (p + 1 + 1) - 97))
    have F48 := FR_t F46 (FR_t F7 F8)
    have r8 : sg_a μ7 5 (upd (μ7 5) (3 * m + 2) (lt_ t f (p + 1 + 1) - 97)) 5 = upd (upd (upd (μ 5) (3 * m) r) (3 * m + 1) (lt_ t f (p + 1) - 48)) (3 * m + 2) (lt_ t f (p + 1 + 1) - 97) := by rw [sg_as, g7, sg_as, g4]
    rw [ob_ (tx_let T8 ht (by omega)), ob_ (q_in _ _ _), ob_ (tx_S T8 hw _)]
    obtain ⟨Tm, Fm⟩ := tx_m T8
    refine ⟨_, _, _, rfl, Tm, FR_t F48 Fm, fun k hk => ?_, Or.inr ⟨p + 1, by omega, rfl, fun g => b4 (g + 1)⟩⟩
    rw [sg_an _ _ (by decide), r8, up_n _ _ (by omega), up_n _ _ (by omega), up_n _ _ (by omega)]
end Z
