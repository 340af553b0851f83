def fX8_in (p0 p1 p2 : Int32) : Option Int32 := (if p0 < p1 then (some (0 : Int32)) else (if p2 < p0 then (some (0 : Int32)) else (some (1 : Int32))))
def fX8_isSpot (p0 : Int32) : Option Int32 := ((fX8_in p0 (0 : Int32) (15 : Int32)).bind fun r_1 => (o_k (r_1 = 0 ∨ r_1 = 1) (some r_1)))
def fX8_isPlayer (p1 : Int32) (σ : sg_T) : Option (Int32) := ((fX8_in p1 (0 : Int32) (((σ 1) ((4 : Int32)).toNatClampNeg) - (1 : Int32))).bind fun r_1 => (o_k (r_1 = 0 ∨ r_1 = 1) (some r_1)))
def fX8_of (p1 p2 : Int32) (σ : sg_T) : Option (Int32) := (o_x (((12 : Int32) + ((6 : Int32) * p1)) + p2) 108 (some ((σ 1) ((((12 : Int32) + ((6 : Int32) * p1)) + p2)).toNatClampNeg)))
def fX8_adds (p1 p2 p3 : Int32) (σ : sg_T) : Option (sg_T) := (o_x (((12 : Int32) + ((6 : Int32) * p1)) + p2) 108 (some ((sg_a σ 1 (upd (σ 1) ((((12 : Int32) + ((6 : Int32) * p1)) + p2)).toNatClampNeg (((σ 1) ((((12 : Int32) + ((6 : Int32) * p1)) + p2)).toNatClampNeg) + p3))))))
def fX8_hides (p1 p2 : Int32) (σ : sg_T) : Option (sg_T) := (o_x (((12 : Int32) + ((6 : Int32) * p1)) + (5 : Int32)) 108 (some ((sg_a σ 1 (upd (σ 1) ((((12 : Int32) + ((6 : Int32) * p1)) + (5 : Int32))).toNatClampNeg p2)))))
def fX8_ofSpot (p1 p2 : Int32) (σ : sg_T) : Option (Int32) := (o_x (((60 : Int32) + ((3 : Int32) * p1)) + p2) 108 (some ((σ 1) ((((60 : Int32) + ((3 : Int32) * p1)) + p2)).toNatClampNeg)))
def fX8_isRetired (p1 : Int32) (σ : sg_T) : Option (Int32) := ((fX8_ofSpot p1 (1 : Int32) σ).bind fun r_1 => (if r_1 = (1 : Int32) then (some (1 : Int32)) else (some (0 : Int32))))
def fX8_distance (p0 p1 : Int32) : Option Int32 := (if p1 ≤ p0 then (if (8 : Int32) < (p0 - p1) then (some ((16 : Int32) - (p0 - p1))) else (some (p0 - p1))) else (if (8 : Int32) < (p1 - p0) then (some ((16 : Int32) - (p1 - p0))) else (some (p1 - p0))))
def lX8_hidersAt_4 : Nat → Int32 → Int32 → Int32 → (sg_T) → Option (Int32)
  | 0, _, _, _, _ => none
  | n + 1, a1, a2, a3, σ => (if ((σ 1) ((4 : Int32)).toNatClampNeg) ≤ a3 then (some a2) else ((fX8_of a3 (5 : Int32) σ).bind fun r_2 => (if r_2 = a1 then (lX8_hidersAt_4 n a1 (a2 ||| ((1 : Int32) <<< (a3 &&& 31))) (a3 + (1 : Int32)) σ) else (lX8_hidersAt_4 n a1 (a2 ||| (0 : Int32)) (a3 + (1 : Int32)) σ))))
def fX8_hidersAt (p1 : Int32) (σ : sg_T) : Option (Int32) := (lX8_hidersAt_4 70 p1 (0 : Int32) (0 : Int32) σ)
def lX8_bits_4 : Nat → Int32 → Int32 → Int32 → Option (Int32)
  | 0, _, _, _ => none
  | n + 1, a0, a1, a2 => (if (16 : Int32) ≤ a2 then (some a1) else (lX8_bits_4 n a0 (a1 + ((a0 >>> (a2 &&& 31)) &&& (1 : Int32))) (a2 + (1 : Int32))))
def fX8_bits (p0 : Int32) : Option Int32 := (lX8_bits_4 70 p0 (0 : Int32) (0 : Int32))
def lX8_hidden_4 : Nat → Int32 → Int32 → (sg_T) → Option (Int32)
  | 0, _, _, _ => none
  | n + 1, a1, a2, σ => (if ((σ 1) ((4 : Int32)).toNatClampNeg) ≤ a2 then (some a1) else ((fX8_of a2 (5 : Int32) σ).bind fun r_2 => (if r_2 = (-10006 : Int32) then (lX8_hidden_4 n (a1 + (0 : Int32)) (a2 + (1 : Int32)) σ) else (lX8_hidden_4 n (a1 + (1 : Int32)) (a2 + (1 : Int32)) σ))))
def fX8_hidden (σ : sg_T) : Option (Int32) := (lX8_hidden_4 70 (0 : Int32) (0 : Int32) σ)
def fX8_isGood (p1 : Int32) (σ : sg_T) : Option (Int32) := (if p1 ≤ 0 then (some (0 : Int32)) else ((fX8_distance p1 (0 : Int32)).bind fun r_2 => (if ((σ 1) ((8 : Int32)).toNatClampNeg) < r_2 then (some (0 : Int32)) else ((fX8_isRetired p1 σ).bind fun r_5 => (if r_5 = 0 then (some (1 : Int32)) else (some (0 : Int32)))))))
def fX8_isOpen (p1 : Int32) (σ : sg_T) : Option (Int32) := ((fX8_isGood p1 σ).bind fun r_1 => (if r_1 = 0 then (some (0 : Int32)) else ((fX8_hidersAt p1 σ).bind fun r_4 => ((fX8_bits r_4).bind fun r_6 => (if (2 : Int32) ≤ r_6 then (some (0 : Int32)) else (some (1 : Int32)))))))
def lX8_start_106 : Nat → Int32 → Int32 → Int32 → Int32 → (sg_T) → Option (Int32 × sg_T)
  | 0, _, _, _, _, _ => none
  | n + 1, a1, a2, a3, a4, σ => (if (16 : Int32) ≤ a4 then (some (a3, σ)) else ((fX8_isOpen a4 σ).bind fun r_14 => (if r_14 = 0 then (lX8_start_106 n a1 a2 (a3 + (0 : Int32)) (a4 + (1 : Int32)) σ) else (lX8_start_106 n a1 a2 (a3 + (1 : Int32)) (a4 + (1 : Int32)) σ))))
def fX8_isFaster (p1 : Int32) (σ : sg_T) : Option (Int32) := ((fX8_of p1 (5 : Int32) σ).bind fun r_1 => ((fX8_distance r_1 (0 : Int32)).bind fun r_3 => ((fX8_distance ((σ 1) ((9 : Int32)).toNatClampNeg) (0 : Int32)).bind fun r_5 => (if r_5 ≤ r_3 then (some (0 : Int32)) else (some (1 : Int32))))))
def fX8_isBefore (p1 p2 : Int32) (σ : sg_T) : Option (Int32) := ((fX8_of p1 (0 : Int32) σ).bind fun r_1 => ((fX8_of p2 (0 : Int32) σ).bind fun r_3 => (if r_1 = r_3 then ((fX8_of p1 (3 : Int32) σ).bind fun r_6 => ((fX8_of p2 (3 : Int32) σ).bind fun r_8 => (if r_6 = r_8 then (if p2 ≤ p1 then (some (0 : Int32)) else (some (1 : Int32))) else ((fX8_of p1 (3 : Int32) σ).bind fun r_12 => ((fX8_of p2 (3 : Int32) σ).bind fun r_14 => (if r_14 ≤ r_12 then (some (0 : Int32)) else (some (1 : Int32)))))))) else ((fX8_of p1 (0 : Int32) σ).bind fun r_17 => ((fX8_of p2 (0 : Int32) σ).bind fun r_19 => (if r_17 ≤ r_19 then (some (0 : Int32)) else (some (1 : Int32))))))))
def lX8_placeOf_4 : Nat → Int32 → Int32 → Int32 → (sg_T) → Option (Int32)
  | 0, _, _, _, _ => none
  | n + 1, a1, a2, a3, σ => (if ((σ 1) ((4 : Int32)).toNatClampNeg) ≤ a3 then (some a2) else (if a3 = a1 then (lX8_placeOf_4 n a1 (a2 + (0 : Int32)) (a3 + (1 : Int32)) σ) else ((fX8_isBefore a3 a1 σ).bind fun r_3 => (if r_3 = 0 then (lX8_placeOf_4 n a1 (a2 + (0 : Int32)) (a3 + (1 : Int32)) σ) else (lX8_placeOf_4 n a1 (a2 + (1 : Int32)) (a3 + (1 : Int32)) σ)))))
def fX8_placeOf (p1 : Int32) (σ : sg_T) : Option (Int32) := (lX8_placeOf_4 70 p1 (0 : Int32) (0 : Int32) σ)
def lX8_ranked_6 : Nat → Int32 → Int32 → Int32 → (sg_T) → Option (Int32)
  | 0, _, _, _, _ => none
  | n + 1, a1, a2, a3, σ => (if ((σ 1) ((4 : Int32)).toNatClampNeg) ≤ a3 then (some a2) else ((fX8_placeOf a3 σ).bind fun r_2 => (if r_2 = a1 then (lX8_ranked_6 n a1 a3 (a3 + (1 : Int32)) σ) else (lX8_ranked_6 n a1 a2 (a3 + (1 : Int32)) σ))))
def fX8_ranked (p1 : Int32) (σ : sg_T) : Option (Int32) := (lX8_ranked_6 70 p1 (-10001 : Int32) (0 : Int32) σ)
def lX8_nextSeeker_6 : Nat → Int32 → Int32 → (sg_T) → Option (Int32)
  | 0, _, _, _ => none
  | n + 1, a1, a2, σ => (if ((σ 1) ((4 : Int32)).toNatClampNeg) ≤ a2 then (some a1) else (if a1 = (-10006 : Int32) then (lX8_nextSeeker_6 n a2 (a2 + (1 : Int32)) σ) else ((fX8_of a2 (1 : Int32) σ).bind fun r_3 => ((fX8_of a1 (1 : Int32) σ).bind fun r_5 => (if r_3 < r_5 then (lX8_nextSeeker_6 n a2 (a2 + (1 : Int32)) σ) else ((fX8_of a2 (1 : Int32) σ).bind fun r_8 => ((fX8_of a1 (1 : Int32) σ).bind fun r_10 => (if r_8 = r_10 then ((fX8_isBefore a1 a2 σ).bind fun r_13 => (if r_13 = 0 then (lX8_nextSeeker_6 n a1 (a2 + (1 : Int32)) σ) else (lX8_nextSeeker_6 n a2 (a2 + (1 : Int32)) σ))) else (lX8_nextSeeker_6 n a1 (a2 + (1 : Int32)) σ)))))))))
def fX8_nextSeeker (σ : sg_T) : Option (Int32) := (lX8_nextSeeker_6 70 (-10006 : Int32) (0 : Int32) σ)
def lX8_sumOfPoints_4 : Nat → Int32 → Int32 → (sg_T) → Option (Int32)
  | 0, _, _, _ => none
  | n + 1, a1, a2, σ => (if ((σ 1) ((4 : Int32)).toNatClampNeg) ≤ a2 then (some a1) else ((fX8_of a2 (0 : Int32) σ).bind fun r_2 => (lX8_sumOfPoints_4 n (a1 + r_2) (a2 + (1 : Int32)) σ)))
def fX8_sumOfPoints (σ : sg_T) : Option (Int32) := (lX8_sumOfPoints_4 70 (0 : Int32) (0 : Int32) σ)
def lX8_retired_4 : Nat → Int32 → Int32 → (sg_T) → Option (Int32)
  | 0, _, _, _ => none
  | n + 1, a1, a2, σ => (if (16 : Int32) ≤ a2 then (some a1) else ((fX8_ofSpot a2 (1 : Int32) σ).bind fun r_2 => (lX8_retired_4 n (a1 + r_2) (a2 + (1 : Int32)) σ)))
def fX8_retired (σ : sg_T) : Option (Int32) := (lX8_retired_4 70 (0 : Int32) (0 : Int32) σ)
def lX8_inSight_19 : Nat → Int32 → Int32 → (sg_T) → Option (Int32)
  | 0, _, _, _ => none
  | n + 1, a1, a2, σ => (if (16 : Int32) ≤ a2 then (some a1) else ((fX8_distance a2 ((σ 1) ((9 : Int32)).toNatClampNeg)).bind fun r_3 => (if ((σ 1) ((0 : Int32)).toNatClampNeg) < r_3 then (lX8_inSight_19 n (a1 ||| (0 : Int32)) (a2 + (1 : Int32)) σ) else (lX8_inSight_19 n (a1 ||| ((1 : Int32) <<< (a2 &&& 31))) (a2 + (1 : Int32)) σ))))
def fX8_inSight (σ : sg_T) : Option (Int32) := (if ((σ 1) ((6 : Int32)).toNatClampNeg) = (2 : Int32) then (lX8_inSight_19 70 (0 : Int32) (0 : Int32) σ) else (some (-10003 : Int32)))
def lX8_couldDash_19 : Nat → Int32 → Int32 → (sg_T) → Option (Int32)
  | 0, _, _, _ => none
  | n + 1, a1, a2, σ => (if ((σ 1) ((4 : Int32)).toNatClampNeg) ≤ a2 then (some a1) else ((fX8_of a2 (5 : Int32) σ).bind fun r_3 => (if r_3 = (-10006 : Int32) then (lX8_couldDash_19 n (a1 ||| (0 : Int32)) (a2 + (1 : Int32)) σ) else ((fX8_isFaster a2 σ).bind fun r_6 => (if r_6 = 0 then (lX8_couldDash_19 n (a1 ||| (0 : Int32)) (a2 + (1 : Int32)) σ) else (lX8_couldDash_19 n (a1 ||| ((1 : Int32) <<< (a2 &&& 31))) (a2 + (1 : Int32)) σ))))))
def fX8_couldDash (σ : sg_T) : Option (Int32) := (if ((σ 1) ((6 : Int32)).toNatClampNeg) = (2 : Int32) then (lX8_couldDash_19 70 (0 : Int32) (0 : Int32) σ) else (some (-10003 : Int32)))
def fX8_isBetter (p1 p2 : Int32) (σ : sg_T) : Option (Int32) := ((fX8_distance p1 (0 : Int32)).bind fun r_1 => ((fX8_distance p2 (0 : Int32)).bind fun r_3 => (if r_1 = r_3 then ((fX8_ofSpot p1 (0 : Int32) σ).bind fun r_6 => ((fX8_ofSpot p2 (0 : Int32) σ).bind fun r_8 => (if r_6 = r_8 then ((fX8_hidersAt p1 σ).bind fun r_11 => ((fX8_bits r_11).bind fun r_13 => ((fX8_hidersAt p2 σ).bind fun r_15 => ((fX8_bits r_15).bind fun r_17 => (if r_17 ≤ r_13 then (some (0 : Int32)) else (some (1 : Int32))))))) else ((fX8_ofSpot p1 (0 : Int32) σ).bind fun r_20 => ((fX8_ofSpot p2 (0 : Int32) σ).bind fun r_22 => (if r_22 ≤ r_20 then (some (0 : Int32)) else (some (1 : Int32)))))))) else ((fX8_distance p1 (0 : Int32)).bind fun r_25 => ((fX8_distance p2 (0 : Int32)).bind fun r_27 => (if r_25 ≤ r_27 then (some (0 : Int32)) else (some (1 : Int32))))))))
def lX8_bestSpot_21 : Nat → Int32 → Int32 → (sg_T) → Option (Int32)
  | 0, _, _, _ => none
  | n + 1, a1, a2, σ => (if (16 : Int32) ≤ a2 then (some a1) else ((fX8_isOpen a2 σ).bind fun r_3 => (if r_3 = 0 then (lX8_bestSpot_21 n a1 (a2 + (1 : Int32)) σ) else (if a1 = (-10006 : Int32) then (lX8_bestSpot_21 n a2 (a2 + (1 : Int32)) σ) else ((fX8_isBetter a2 a1 σ).bind fun r_7 => (if r_7 = 0 then (lX8_bestSpot_21 n a1 (a2 + (1 : Int32)) σ) else (lX8_bestSpot_21 n a2 (a2 + (1 : Int32)) σ)))))))
def fX8_bestSpot (σ : sg_T) : Option (Int32) := (if ((σ 1) ((6 : Int32)).toNatClampNeg) = (1 : Int32) then (lX8_bestSpot_21 70 (-10006 : Int32) (1 : Int32) σ) else (some (-10003 : Int32)))
