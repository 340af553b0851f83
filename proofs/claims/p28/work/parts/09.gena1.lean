def lX0_playersWhoWouldEscape_16 : Nat → Int32 → Int32 → (sg_T) → Option (Int32)
  | 0, _, _, _ => none
  | n + 1, a1, a2, σ => (if (σ 0 0) ≤ a2 then (some a1) else ((fX5_wouldEscape a2 σ).bind fun r_3 => (if r_3 = 0 then (lX0_playersWhoWouldEscape_16 n a1 (a2 + (1 : Int32)) σ) else (lX0_playersWhoWouldEscape_16 n (a1 ||| ((1 : Int32) <<< (a2 &&& 31))) (a2 + (1 : Int32)) σ))))
def fX0_playersWhoWouldEscape (σ : sg_T) : Option (Int32) := (if (σ 0 2) = (2 : Int32) then (lX0_playersWhoWouldEscape_16 70 (0 : Int32) (0 : Int32) σ) else (some (-10003 : Int32)))
set_option maxRecDepth 100000 in
set_option maxHeartbeats 4000000 in
theorem mX0_playersWhoWouldEscape (l : Launch) (D : va_G) (cI : ClassId) (h : Nat → Nat) (σ : sg_T) (r : Int32) (hrun : fX0_playersWhoWouldEscape σ = some r) : me_I l D (tS cI) yX0_playersWhoWouldEscape cX0_playersWhoWouldEscape 3 .int 4 84 (wS cI h σ) [.ref (h 0)] r (wS cI h σ) := by
  refine me_ofI (plainFor_of_name (by decide)) (Nat.le_of_ble_eq_true rfl) ?_
  intro p e s m args below meth c A ls S hK Y hA hl hr hlk hZ
  have hx := S.1
  have hb := S.2.1
  have hl : lv_has ls 3 [(0, .ref (h 0))] := hl
  have lp16 : ∀ (n : Nat) (a1 : Int32) (a2 : Int32), lX0_playersWhoWouldEscape_16 n a1 a2 σ = some r → ∀ (H : Heap) (locs : List Loc) (ls : Array Slot), dy_ D A s (wS cI h σ) H locs → lv_has ls 3 [(0, .ref (h 0)), (1, .int a1), (2, .int a2)] → W p l e (rm_ 4 84) s m args below meth c H locs 0 0 (MQ below (me_Qi D (tS cI) A r (wS cI h σ)) args s 0 0 A) (F0 m 16 ls []) := by
    intro n
    induction n with
    | zero => intro a1 a2 hrun; cases hrun
    | succ n ih =>
      intro a1 a2 hrun H locs ls Y hl
      unfold lX0_playersWhoWouldEscape_16 at hrun
      refine lv_iload_n hx hb dX0_playersWhoWouldEscape_16 rfl (lv_at hl 2 rfl) ?_
      refine lv_aload_n hx hb dX0_playersWhoWouldEscape_17 rfl (lv_at hl 0 rfl) ?_
      refine ig S hK Y fX0_21 0 rfl (v := .int (σ 0 0)) rfl dX0_playersWhoWouldEscape_18 ?_
      refine lv_icmp_ge (tgt := 44) hx hb dX0_playersWhoWouldEscape_21 (by decide) (fun c_2 => ?_) (fun c_2 => ?_)
      · have hrun := o_t hrun c_2
        refine lv_iload_n hx hb dX0_playersWhoWouldEscape_44 rfl (lv_at hl 1 rfl) ?_
        cases hrun
        exact me_ri S hK Y hr hlk rfl dX0_playersWhoWouldEscape_45
      · have hrun := o_f hrun c_2
        refine lv_aload_n hx hb dX0_playersWhoWouldEscape_24 rfl (lv_at hl 0 rfl) ?_
        refine lv_iload_n hx hb dX0_playersWhoWouldEscape_25 rfl (lv_at hl 2 rfl) ?_
        obtain ⟨r_3, e_4, hrun⟩ := o_bh hrun
        refine cf_v (As := [.int a2]) (rest := []) S hK hA hZ Y hl.1 (mX5_wouldEscape l D cI h σ a2 r_3 e_4) kX0_24 (T := TX5) (N := 16) rfl (q0 := 0) rfl ⟨Nat.le_of_ble_eq_true rfl, Nat.le_of_ble_eq_true rfl⟩ rfl rfl (Nat.le_of_ble_eq_true rfl) ⟨Nat.le_of_ble_eq_true rfl, Nat.le_of_ble_eq_true rfl⟩ dX0_playersWhoWouldEscape_26 (fun H locs Y => ?_)
        refine lv_if_eq (tgt := 38) hx hb dX0_playersWhoWouldEscape_29 (by decide) (fun c_5 => ?_) (fun c_5 => ?_)
        · have hrun := o_t hrun c_5
          refine lv_iinc (v := (a2 + (1 : Int32))) (lv' := [(2, .int (a2 + (1 : Int32))), (0, .ref (h 0)), (1, .int a1)]) hx hb dX0_playersWhoWouldEscape_38 hl (k := 2) rfl (by rfl) (Nat.le_of_ble_eq_true rfl) rfl (fun ls hl => ?_)
          refine lv_goto (tgt := 16) hx hb dX0_playersWhoWouldEscape_41 (by decide) ?_
          exact ih a1 (a2 + (1 : Int32)) hrun _ _ _ Y (lv_sub hl [1, 2, 0] rfl)
        · have hrun := o_f hrun c_5
          refine lv_iload_n hx hb dX0_playersWhoWouldEscape_32 rfl (lv_at hl 1 rfl) ?_
          refine lv_iconst (v := (1 : Int32)) hx hb dX0_playersWhoWouldEscape_33 (by decide) ?_
          refine lv_iload_n hx hb dX0_playersWhoWouldEscape_34 rfl (lv_at hl 2 rfl) ?_
          refine lv_ishl hx hb dX0_playersWhoWouldEscape_35 ?_
          refine lv_ior hx hb dX0_playersWhoWouldEscape_36 ?_
          refine lv_istore_n (lv' := [(1, .int (a1 ||| ((1 : Int32) <<< (a2 &&& 31)))), (0, .ref (h 0)), (2, .int a2)]) hx hb dX0_playersWhoWouldEscape_37 rfl hl (Nat.le_of_ble_eq_true rfl) rfl (fun ls hl => ?_)
          refine lv_iinc (v := (a2 + (1 : Int32))) (lv' := [(2, .int (a2 + (1 : Int32))), (1, .int (a1 ||| ((1 : Int32) <<< (a2 &&& 31)))), (0, .ref (h 0))]) hx hb dX0_playersWhoWouldEscape_38 hl (k := 2) rfl (by rfl) (Nat.le_of_ble_eq_true rfl) rfl (fun ls hl => ?_)
          refine lv_goto (tgt := 16) hx hb dX0_playersWhoWouldEscape_41 (by decide) ?_
          exact ih (a1 ||| ((1 : Int32) <<< (a2 &&& 31))) (a2 + (1 : Int32)) hrun _ _ _ Y (lv_sub hl [2, 1, 0] rfl)
  unfold fX0_playersWhoWouldEscape at hrun
  refine lv_aload_n hx hb dX0_playersWhoWouldEscape_0 rfl (lv_at hl 0 rfl) ?_
  refine ig S hK Y fX0_9 0 rfl (v := .int (σ 0 2)) rfl dX0_playersWhoWouldEscape_1 ?_
  refine lv_iconst (v := (2 : Int32)) hx hb dX0_playersWhoWouldEscape_4 (by decide) ?_
  refine lv_icmp_eq (tgt := 12) hx hb dX0_playersWhoWouldEscape_5 (by decide) (fun c_1 => ?_) (fun c_1 => ?_)
  · have hrun := o_t hrun c_1
    refine lv_iconst (v := (0 : Int32)) hx hb dX0_playersWhoWouldEscape_12 (by decide) ?_
    refine lv_istore_n (lv' := [(1, .int (0 : Int32)), (0, .ref (h 0))]) hx hb dX0_playersWhoWouldEscape_13 rfl hl (Nat.le_of_ble_eq_true rfl) rfl (fun ls hl => ?_)
    refine lv_iconst (v := (0 : Int32)) hx hb dX0_playersWhoWouldEscape_14 (by decide) ?_
    refine lv_istore_n (lv' := [(2, .int (0 : Int32)), (1, .int (0 : Int32)), (0, .ref (h 0))]) hx hb dX0_playersWhoWouldEscape_15 rfl hl (Nat.le_of_ble_eq_true rfl) rfl (fun ls hl => ?_)
    exact lp16 70 (0 : Int32) (0 : Int32) hrun _ _ _ Y (lv_sub hl [2, 1, 0] rfl)
  · have hrun := o_f hrun c_1
    refine lv_sipush (v := (-10003 : Int32)) hx hb dX0_playersWhoWouldEscape_8 (by decide) ?_
    cases hrun
    exact me_ri S hK Y hr hlk rfl dX0_playersWhoWouldEscape_11
def lX0_bestHidingSpot_18 : Nat → Int32 → Int32 → (sg_T) → Option (Int32)
  | 0, _, _, _ => none
  | n + 1, a1, a2, σ => (if (16 : Int32) ≤ a2 then (some a1) else ((fX5_hasRoomToHide a2 σ).bind fun r_3 => (if r_3 = 0 then (lX0_bestHidingSpot_18 n a1 (a2 + (1 : Int32)) σ) else ((fX6_isSpot a1).bind fun r_6 => (if r_6 = 0 then (lX0_bestHidingSpot_18 n a2 (a2 + (1 : Int32)) σ) else ((fX0_isBetterToHide a2 a1 σ).bind fun r_9 => (if r_9 = 0 then (lX0_bestHidingSpot_18 n a1 (a2 + (1 : Int32)) σ) else (lX0_bestHidingSpot_18 n a2 (a2 + (1 : Int32)) σ))))))))
def fX0_bestHidingSpot (σ : sg_T) : Option (Int32) := (if (σ 0 2) = (1 : Int32) then (lX0_bestHidingSpot_18 70 (-10006 : Int32) (0 : Int32) σ) else (some (-10003 : Int32)))
set_option maxRecDepth 100000 in
set_option maxHeartbeats 4000000 in
theorem mX0_bestHidingSpot (l : Launch) (D : va_G) (cI : ClassId) (h : Nat → Nat) (σ : sg_T) (r : Int32) (hrun : fX0_bestHidingSpot σ = some r) : me_I l D (tS cI) yX0_bestHidingSpot cX0_bestHidingSpot 3 .int 5 105 (wS cI h σ) [.ref (h 0)] r (wS cI h σ) := by
  refine me_ofI (plainFor_of_name (by decide)) (Nat.le_of_ble_eq_true rfl) ?_
  intro p e s m args below meth c A ls S hK Y hA hl hr hlk hZ
  have hx := S.1
  have hb := S.2.1
  have hl : lv_has ls 3 [(0, .ref (h 0))] := hl
  have lp18 : ∀ (n : Nat) (a1 : Int32) (a2 : Int32), lX0_bestHidingSpot_18 n a1 a2 σ = some r → ∀ (H : Heap) (locs : List Loc) (ls : Array Slot), dy_ D A s (wS cI h σ) H locs → lv_has ls 3 [(0, .ref (h 0)), (1, .int a1), (2, .int a2)] → W p l e (rm_ 5 105) s m args below meth c H locs 0 0 (MQ below (me_Qi D (tS cI) A r (wS cI h σ)) args s 0 0 A) (F0 m 18 ls []) := by
    intro n
    induction n with
    | zero => intro a1 a2 hrun; cases hrun
    | succ n ih =>
      intro a1 a2 hrun H locs ls Y hl
      unfold lX0_bestHidingSpot_18 at hrun
      refine lv_iload_n hx hb dX0_bestHidingSpot_18 rfl (lv_at hl 2 rfl) ?_
      refine lv_bipush (v := (16 : Int32)) hx hb dX0_bestHidingSpot_19 (by decide) ?_
      refine lv_icmp_ge (tgt := 56) hx hb dX0_bestHidingSpot_21 (by decide) (fun c_2 => ?_) (fun c_2 => ?_)
      · have hrun := o_t hrun c_2
        refine lv_iload_n hx hb dX0_bestHidingSpot_56 rfl (lv_at hl 1 rfl) ?_
        cases hrun
        exact me_ri S hK Y hr hlk rfl dX0_bestHidingSpot_57
      · have hrun := o_f hrun c_2
        refine lv_aload_n hx hb dX0_bestHidingSpot_24 rfl (lv_at hl 0 rfl) ?_
        refine lv_iload_n hx hb dX0_bestHidingSpot_25 rfl (lv_at hl 2 rfl) ?_
        obtain ⟨r_3, e_4, hrun⟩ := o_bh hrun
        refine cf_v (As := [.int a2]) (rest := []) S hK hA hZ Y hl.1 (mX5_hasRoomToHide l D cI h σ a2 r_3 e_4) kX0_27 (T := TX5) (N := 16) rfl (q0 := 0) rfl ⟨Nat.le_of_ble_eq_true rfl, Nat.le_of_ble_eq_true rfl⟩ rfl rfl (Nat.le_of_ble_eq_true rfl) ⟨Nat.le_of_ble_eq_true rfl, Nat.le_of_ble_eq_true rfl⟩ dX0_bestHidingSpot_26 (fun H locs Y => ?_)
        refine lv_if_eq (tgt := 50) hx hb dX0_bestHidingSpot_29 (by decide) (fun c_5 => ?_) (fun c_5 => ?_)
        · have hrun := o_t hrun c_5
          refine lv_iinc (v := (a2 + (1 : Int32))) (lv' := [(2, .int (a2 + (1 : Int32))), (0, .ref (h 0)), (1, .int a1)]) hx hb dX0_bestHidingSpot_50 hl (k := 2) rfl (by rfl) (Nat.le_of_ble_eq_true rfl) rfl (fun ls hl => ?_)
          refine lv_goto (tgt := 18) hx hb dX0_bestHidingSpot_53 (by decide) ?_
          exact ih a1 (a2 + (1 : Int32)) hrun _ _ _ Y (lv_sub hl [1, 2, 0] rfl)
        · have hrun := o_f hrun c_5
          refine lv_iload_n hx hb dX0_bestHidingSpot_32 rfl (lv_at hl 1 rfl) ?_
          obtain ⟨r_6, e_7, hrun⟩ := o_bh hrun
          refine cp_s (As := [.int a1]) (rest := []) S hK hA hZ Y hl.1 (mX6_isSpot l D a1 r_6 e_7) kX0_30 ⟨Nat.le_of_ble_eq_true rfl, Nat.le_of_ble_eq_true rfl⟩ rfl rfl (Nat.le_of_ble_eq_true rfl) ⟨Nat.le_of_ble_eq_true rfl, Nat.le_of_ble_eq_true rfl⟩ dX0_bestHidingSpot_33 (fun H locs Y => ?_)
          refine lv_if_eq (tgt := 48) hx hb dX0_bestHidingSpot_36 (by decide) (fun c_8 => ?_) (fun c_8 => ?_)
          · have hrun := o_t hrun c_8
            refine lv_iload_n hx hb dX0_bestHidingSpot_48 rfl (lv_at hl 2 rfl) ?_
            refine lv_istore_n (lv' := [(1, .int a2), (0, .ref (h 0)), (2, .int a2)]) hx hb dX0_bestHidingSpot_49 rfl hl (Nat.le_of_ble_eq_true rfl) rfl (fun ls hl => ?_)
            refine lv_iinc (v := (a2 + (1 : Int32))) (lv' := [(2, .int (a2 + (1 : Int32))), (1, .int a2), (0, .ref (h 0))]) hx hb dX0_bestHidingSpot_50 hl (k := 2) rfl (by rfl) (Nat.le_of_ble_eq_true rfl) rfl (fun ls hl => ?_)
            refine lv_goto (tgt := 18) hx hb dX0_bestHidingSpot_53 (by decide) ?_
            exact ih a2 (a2 + (1 : Int32)) hrun _ _ _ Y (lv_sub hl [2, 1, 0] rfl)
          · have hrun := o_f hrun c_8
            refine lv_aload_n hx hb dX0_bestHidingSpot_39 rfl (lv_at hl 0 rfl) ?_
            refine lv_iload_n hx hb dX0_bestHidingSpot_40 rfl (lv_at hl 2 rfl) ?_
            refine lv_iload_n hx hb dX0_bestHidingSpot_41 rfl (lv_at hl 1 rfl) ?_
            obtain ⟨r_9, e_10, hrun⟩ := o_bh hrun
            refine cf_s (As := [.ref (h 0), .int a2, .int a1]) (rest := []) S hK hA hZ Y hl.1 (mX0_isBetterToHide l D cI h σ a2 a1 r_9 e_10) kX0_33 ⟨Nat.le_of_ble_eq_true rfl, Nat.le_of_ble_eq_true rfl⟩ rfl rfl (Nat.le_of_ble_eq_true rfl) ⟨Nat.le_of_ble_eq_true rfl, Nat.le_of_ble_eq_true rfl⟩ dX0_bestHidingSpot_42 (fun H locs Y => ?_)
            refine lv_if_eq (tgt := 50) hx hb dX0_bestHidingSpot_45 (by decide) (fun c_11 => ?_) (fun c_11 => ?_)
            · have hrun := o_t hrun c_11
              refine lv_iinc (v := (a2 + (1 : Int32))) (lv' := [(2, .int (a2 + (1 : Int32))), (0, .ref (h 0)), (1, .int a1)]) hx hb dX0_bestHidingSpot_50 hl (k := 2) rfl (by rfl) (Nat.le_of_ble_eq_true rfl) rfl (fun ls hl => ?_)
              refine lv_goto (tgt := 18) hx hb dX0_bestHidingSpot_53 (by decide) ?_
              exact ih a1 (a2 + (1 : Int32)) hrun _ _ _ Y (lv_sub hl [1, 2, 0] rfl)
            · have hrun := o_f hrun c_11
              refine lv_iload_n hx hb dX0_bestHidingSpot_48 rfl (lv_at hl 2 rfl) ?_
              refine lv_istore_n (lv' := [(1, .int a2), (0, .ref (h 0)), (2, .int a2)]) hx hb dX0_bestHidingSpot_49 rfl hl (Nat.le_of_ble_eq_true rfl) rfl (fun ls hl => ?_)
              refine lv_iinc (v := (a2 + (1 : Int32))) (lv' := [(2, .int (a2 + (1 : Int32))), (1, .int a2), (0, .ref (h 0))]) hx hb dX0_bestHidingSpot_50 hl (k := 2) rfl (by rfl) (Nat.le_of_ble_eq_true rfl) rfl (fun ls hl => ?_)
              refine lv_goto (tgt := 18) hx hb dX0_bestHidingSpot_53 (by decide) ?_
              exact ih a2 (a2 + (1 : Int32)) hrun _ _ _ Y (lv_sub hl [2, 1, 0] rfl)
  unfold fX0_bestHidingSpot at hrun
  refine lv_aload_n hx hb dX0_bestHidingSpot_0 rfl (lv_at hl 0 rfl) ?_
  refine ig S hK Y fX0_9 0 rfl (v := .int (σ 0 2)) rfl dX0_bestHidingSpot_1 ?_
  refine lv_iconst (v := (1 : Int32)) hx hb dX0_bestHidingSpot_4 (by decide) ?_
  refine lv_icmp_eq (tgt := 12) hx hb dX0_bestHidingSpot_5 (by decide) (fun c_1 => ?_) (fun c_1 => ?_)
  · have hrun := o_t hrun c_1
    refine lv_sipush (v := (-10006 : Int32)) hx hb dX0_bestHidingSpot_12 (by decide) ?_
    refine lv_istore_n (lv' := [(1, .int (-10006 : Int32)), (0, .ref (h 0))]) hx hb dX0_bestHidingSpot_15 rfl hl (Nat.le_of_ble_eq_true rfl) rfl (fun ls hl => ?_)
    refine lv_iconst (v := (0 : Int32)) hx hb dX0_bestHidingSpot_16 (by decide) ?_
    refine lv_istore_n (lv' := [(2, .int (0 : Int32)), (1, .int (-10006 : Int32)), (0, .ref (h 0))]) hx hb dX0_bestHidingSpot_17 rfl hl (Nat.le_of_ble_eq_true rfl) rfl (fun ls hl => ?_)
    exact lp18 70 (-10006 : Int32) (0 : Int32) hrun _ _ _ Y (lv_sub hl [2, 1, 0] rfl)
  · have hrun := o_f hrun c_1
    refine lv_sipush (v := (-10003 : Int32)) hx hb dX0_bestHidingSpot_8 (by decide) ?_
    cases hrun
    exact me_ri S hK Y hr hlk rfl dX0_bestHidingSpot_11
def lX0_stepsDownForTheRest_4 : Nat → Int32 → Int32 → Int32 → (sg_T) → Option (Int32)
  | 0, _, _, _, _ => none
  | n + 1, a1, a2, a3, σ => (if (σ 0 0) ≤ a3 then (some a2) else ((fX5_isHidden a3 σ).bind fun r_2 => (if r_2 = 0 then (lX0_stepsDownForTheRest_4 n a1 a2 (a3 + (1 : Int32)) σ) else (o_x a3 8 ((fX5_seekerSees ((σ 7) (a3).toNatClampNeg) σ).bind fun r_6 => (if r_6 = 0 then ((fX6_stepsUp (σ 0 5) ((σ 7) (a3).toNatClampNeg)).bind fun r_9 => (if (r_9 - ((σ 1) ((0 : Int32)).toNatClampNeg)) ≤ a1 then (lX0_stepsDownForTheRest_4 n a1 a2 (a3 + (1 : Int32)) σ) else ((fJ9_max_7cf53 a2 (((16 : Int32) - r_9) - ((σ 1) ((0 : Int32)).toNatClampNeg))).bind fun r_12 => (lX0_stepsDownForTheRest_4 n a1 r_12 (a3 + (1 : Int32)) σ)))) else (lX0_stepsDownForTheRest_4 n a1 a2 (a3 + (1 : Int32)) σ)))))))
def fX0_stepsDownForTheRest (p1 : Int32) (σ : sg_T) : Option (Int32) := (lX0_stepsDownForTheRest_4 70 p1 (0 : Int32) (0 : Int32) σ)
set_option maxRecDepth 100000 in
set_option maxHeartbeats 4000000 in
theorem mX0_stepsDownForTheRest (l : Launch) (D : va_G) (cI : ClassId) (h : Nat → Nat) (σ : sg_T) (p1 : Int32) (r : Int32) (hrun : fX0_stepsDownForTheRest p1 σ = some r) : me_I l D (tS cI) yX0_stepsDownForTheRest cX0_stepsDownForTheRest 6 .int 4 85 (wS cI h σ) [.ref (h 0), .int p1] r (wS cI h σ) := by
  refine me_ofI (plainFor_of_name (by decide)) (Nat.le_of_ble_eq_true rfl) ?_
  intro p e s m args below meth c A ls S hK Y hA hl hr hlk hZ
  have hx := S.1
  have hb := S.2.1
  have hl : lv_has ls 6 [(0, .ref (h 0)), (1, .int p1)] := hl
  have lp4 : ∀ (n : Nat) (a1 : Int32) (a2 : Int32) (a3 : Int32), lX0_stepsDownForTheRest_4 n a1 a2 a3 σ = some r → ∀ (H : Heap) (locs : List Loc) (ls : Array Slot), dy_ D A s (wS cI h σ) H locs → lv_has ls 6 [(0, .ref (h 0)), (1, .int a1), (2, .int a2), (3, .int a3)] → W p l e (rm_ 4 85) s m args below meth c H locs 0 0 (MQ below (me_Qi D (tS cI) A r (wS cI h σ)) args s 0 0 A) (F0 m 4 ls []) := by
    intro n
    induction n with
    | zero => intro a1 a2 a3 hrun; cases hrun
    | succ n ih =>
      intro a1 a2 a3 hrun H locs ls Y hl
      unfold lX0_stepsDownForTheRest_4 at hrun
      refine lv_iload_n hx hb dX0_stepsDownForTheRest_4 rfl (lv_at hl 3 rfl) ?_
      refine lv_aload_n hx hb dX0_stepsDownForTheRest_5 rfl (lv_at hl 0 rfl) ?_
      refine ig S hK Y fX0_21 0 rfl (v := .int (σ 0 0)) rfl dX0_stepsDownForTheRest_6 ?_
      refine lv_icmp_ge (tgt := 88) hx hb dX0_stepsDownForTheRest_9 (by decide) (fun c_1 => ?_) (fun c_1 => ?_)
      · have hrun := o_t hrun c_1
        refine lv_iload_n hx hb dX0_stepsDownForTheRest_88 rfl (lv_at hl 2 rfl) ?_
        cases hrun
        exact me_ri S hK Y hr hlk rfl dX0_stepsDownForTheRest_89
      · have hrun := o_f hrun c_1
        refine lv_aload_n hx hb dX0_stepsDownForTheRest_12 rfl (lv_at hl 0 rfl) ?_
        refine lv_iload_n hx hb dX0_stepsDownForTheRest_13 rfl (lv_at hl 3 rfl) ?_
        obtain ⟨r_2, e_3, hrun⟩ := o_bh hrun
        refine cf_v (As := [.int a3]) (rest := []) S hK hA hZ Y hl.1 (mX5_isHidden l D cI h σ a3 r_2 e_3) kX0_60 (T := TX5) (N := 16) rfl (q0 := 0) rfl ⟨Nat.le_of_ble_eq_true rfl, Nat.le_of_ble_eq_true rfl⟩ rfl rfl (Nat.le_of_ble_eq_true rfl) ⟨Nat.le_of_ble_eq_true rfl, Nat.le_of_ble_eq_true rfl⟩ dX0_stepsDownForTheRest_14 (fun H locs Y => ?_)
        refine lv_if_eq (tgt := 82) hx hb dX0_stepsDownForTheRest_17 (by decide) (fun c_4 => ?_) (fun c_4 => ?_)
        · have hrun := o_t hrun c_4
          refine lv_iinc (v := (a3 + (1 : Int32))) (lv' := [(3, .int (a3 + (1 : Int32))), (0, .ref (h 0)), (1, .int a1), (2, .int a2)]) hx hb dX0_stepsDownForTheRest_82 hl (k := 3) rfl (by rfl) (Nat.le_of_ble_eq_true rfl) rfl (fun ls hl => ?_)
          refine lv_goto (tgt := 4) hx hb dX0_stepsDownForTheRest_85 (by decide) ?_
          exact ih a1 a2 (a3 + (1 : Int32)) hrun _ _ _ Y (lv_sub hl [1, 2, 3, 0] rfl)
        · have hrun := o_f hrun c_4
          refine lv_aload_n hx hb dX0_stepsDownForTheRest_20 rfl (lv_at hl 0 rfl) ?_
          refine lv_aload_n hx hb dX0_stepsDownForTheRest_21 rfl (lv_at hl 0 rfl) ?_
          refine ig S hK Y fX0_63 0 rfl (v := .ref (h 7)) rfl dX0_stepsDownForTheRest_22 ?_
          refine lv_iload_n hx hb dX0_stepsDownForTheRest_25 rfl (lv_at hl 3 rfl) ?_
          obtain ⟨b_5, hrun⟩ := o_xh hrun
          refine ia S hK Y 7 0 (f := (σ 7)) rfl rfl b_5 dX0_stepsDownForTheRest_26 ?_
          obtain ⟨r_6, e_7, hrun⟩ := o_bh hrun
          refine cf_v (As := [.int ((σ 7) (a3).toNatClampNeg)]) (rest := []) S hK hA hZ Y hl.1 (mX5_seekerSees l D cI h σ ((σ 7) (a3).toNatClampNeg) r_6 e_7) kX0_17 (T := TX5) (N := 16) rfl (q0 := 0) rfl ⟨Nat.le_of_ble_eq_true rfl, Nat.le_of_ble_eq_true rfl⟩ rfl rfl (Nat.le_of_ble_eq_true rfl) ⟨Nat.le_of_ble_eq_true rfl, Nat.le_of_ble_eq_true rfl⟩ dX0_stepsDownForTheRest_27 (fun H locs Y => ?_)
          refine lv_if_ne (tgt := 82) hx hb dX0_stepsDownForTheRest_30 (by decide) (fun c_8 => ?_) (fun c_8 => ?_)
          · have hrun := o_f hrun c_8
            refine lv_iinc (v := (a3 + (1 : Int32))) (lv' := [(3, .int (a3 + (1 : Int32))), (0, .ref (h 0)), (1, .int a1), (2, .int a2)]) hx hb dX0_stepsDownForTheRest_82 hl (k := 3) rfl (by rfl) (Nat.le_of_ble_eq_true rfl) rfl (fun ls hl => ?_)
            refine lv_goto (tgt := 4) hx hb dX0_stepsDownForTheRest_85 (by decide) ?_
            exact ih a1 a2 (a3 + (1 : Int32)) hrun _ _ _ Y (lv_sub hl [1, 2, 3, 0] rfl)
          · have hrun := o_t hrun c_8
            refine lv_aload_n hx hb dX0_stepsDownForTheRest_33 rfl (lv_at hl 0 rfl) ?_
            refine ig S hK Y fX0_66 0 rfl (v := .int (σ 0 5)) rfl dX0_stepsDownForTheRest_34 ?_
            refine lv_aload_n hx hb dX0_stepsDownForTheRest_37 rfl (lv_at hl 0 rfl) ?_
            refine ig S hK Y fX0_63 0 rfl (v := .ref (h 7)) rfl dX0_stepsDownForTheRest_38 ?_
            refine lv_iload_n hx hb dX0_stepsDownForTheRest_41 rfl (lv_at hl 3 rfl) ?_
            refine ia S hK Y 7 0 (f := (σ 7)) rfl rfl b_5 dX0_stepsDownForTheRest_42 ?_
            obtain ⟨r_9, e_10, hrun⟩ := o_bh hrun
            refine cp_s (As := [.int (σ 0 5), .int ((σ 7) (a3).toNatClampNeg)]) (rest := []) S hK hA hZ Y hl.1 (mX6_stepsUp l D (σ 0 5) ((σ 7) (a3).toNatClampNeg) r_9 e_10) kX0_69 ⟨Nat.le_of_ble_eq_true rfl, Nat.le_of_ble_eq_true rfl⟩ rfl rfl (Nat.le_of_ble_eq_true rfl) ⟨Nat.le_of_ble_eq_true rfl, Nat.le_of_ble_eq_true rfl⟩ dX0_stepsDownForTheRest_43 (fun H locs Y => ?_)
            refine lv_istore (lv' := [(4, .int r_9), (0, .ref (h 0)), (1, .int a1), (2, .int a2), (3, .int a3)]) hx hb dX0_stepsDownForTheRest_46 hl (Nat.le_of_ble_eq_true rfl) rfl (fun ls hl => ?_)
            refine lv_bipush (v := (16 : Int32)) hx hb dX0_stepsDownForTheRest_48 (by decide) ?_
            refine lv_iload hx hb dX0_stepsDownForTheRest_50 (lv_at hl 0 rfl) ?_
            refine lv_isub hx hb dX0_stepsDownForTheRest_52 ?_
            refine lv_istore (lv' := [(5, .int ((16 : Int32) - r_9)), (4, .int r_9), (0, .ref (h 0)), (1, .int a1), (2, .int a2), (3, .int a3)]) hx hb dX0_stepsDownForTheRest_53 hl (Nat.le_of_ble_eq_true rfl) rfl (fun ls hl => ?_)
            refine lv_iload hx hb dX0_stepsDownForTheRest_55 (lv_at hl 1 rfl) ?_
            refine lv_aload_n hx hb dX0_stepsDownForTheRest_57 rfl (lv_at hl 2 rfl) ?_
            refine ig S hK Y fX0_72 0 rfl (v := .ref (h 1)) rfl dX0_stepsDownForTheRest_58 ?_
            refine lv_iconst (v := (0 : Int32)) hx hb dX0_stepsDownForTheRest_61 (by decide) ?_
            refine ia S hK Y 1 0 (f := (σ 1)) rfl rfl (show ¬ ((0 : Int32) < 0 ∨ 4 ≤ ((0 : Int32)).toNatClampNeg) by decide) dX0_stepsDownForTheRest_62 ?_
            refine lv_isub hx hb dX0_stepsDownForTheRest_63 ?_
            refine lv_iload_n hx hb dX0_stepsDownForTheRest_64 rfl (lv_at hl 3 rfl) ?_
            refine lv_icmp_le (tgt := 82) hx hb dX0_stepsDownForTheRest_65 (by decide) (fun c_11 => ?_) (fun c_11 => ?_)
            · have hrun := o_t hrun c_11
              refine lv_iinc (v := (a3 + (1 : Int32))) (lv' := [(3, .int (a3 + (1 : Int32))), (5, .int ((16 : Int32) - r_9)), (4, .int r_9), (0, .ref (h 0)), (1, .int a1), (2, .int a2)]) hx hb dX0_stepsDownForTheRest_82 hl (k := 5) rfl (by rfl) (Nat.le_of_ble_eq_true rfl) rfl (fun ls hl => ?_)
              refine lv_goto (tgt := 4) hx hb dX0_stepsDownForTheRest_85 (by decide) ?_
              exact ih a1 a2 (a3 + (1 : Int32)) hrun _ _ _ Y (lv_sub hl [3, 4, 5, 0] rfl)
            · have hrun := o_f hrun c_11
              refine lv_iload_n hx hb dX0_stepsDownForTheRest_68 rfl (lv_at hl 4 rfl) ?_
              refine lv_iload hx hb dX0_stepsDownForTheRest_69 (lv_at hl 0 rfl) ?_
              refine lv_aload_n hx hb dX0_stepsDownForTheRest_71 rfl (lv_at hl 2 rfl) ?_
              refine ig S hK Y fX0_72 0 rfl (v := .ref (h 1)) rfl dX0_stepsDownForTheRest_72 ?_
              refine lv_iconst (v := (0 : Int32)) hx hb dX0_stepsDownForTheRest_75 (by decide) ?_
              refine ia S hK Y 1 0 (f := (σ 1)) rfl rfl (show ¬ ((0 : Int32) < 0 ∨ 4 ≤ ((0 : Int32)).toNatClampNeg) by decide) dX0_stepsDownForTheRest_76 ?_
              refine lv_isub hx hb dX0_stepsDownForTheRest_77 ?_
              obtain ⟨r_12, e_13, hrun⟩ := o_bh hrun
              refine cp_s (As := [.int a2, .int (((16 : Int32) - r_9) - ((σ 1) ((0 : Int32)).toNatClampNeg))]) (rest := []) S hK hA hZ Y hl.1 (mJ9_max_7cf53 l D a2 (((16 : Int32) - r_9) - ((σ 1) ((0 : Int32)).toNatClampNeg)) r_12 e_13) kX0_75 ⟨Nat.le_of_ble_eq_true rfl, Nat.le_of_ble_eq_true rfl⟩ rfl rfl (Nat.le_of_ble_eq_true rfl) ⟨Nat.le_of_ble_eq_true rfl, Nat.le_of_ble_eq_true rfl⟩ dX0_stepsDownForTheRest_78 (fun H locs Y => ?_)
              refine lv_istore_n (lv' := [(2, .int r_12), (5, .int ((16 : Int32) - r_9)), (4, .int r_9), (0, .ref (h 0)), (1, .int a1), (3, .int a3)]) hx hb dX0_stepsDownForTheRest_81 rfl hl (Nat.le_of_ble_eq_true rfl) rfl (fun ls hl => ?_)
              refine lv_iinc (v := (a3 + (1 : Int32))) (lv' := [(3, .int (a3 + (1 : Int32))), (2, .int r_12), (5, .int ((16 : Int32) - r_9)), (4, .int r_9), (0, .ref (h 0)), (1, .int a1)]) hx hb dX0_stepsDownForTheRest_82 hl (k := 5) rfl (by rfl) (Nat.le_of_ble_eq_true rfl) rfl (fun ls hl => ?_)
              refine lv_goto (tgt := 4) hx hb dX0_stepsDownForTheRest_85 (by decide) ?_
              exact ih a1 r_12 (a3 + (1 : Int32)) hrun _ _ _ Y (lv_sub hl [4, 5, 1, 0] rfl)
  unfold fX0_stepsDownForTheRest at hrun
  refine lv_iconst (v := (0 : Int32)) hx hb dX0_stepsDownForTheRest_0 (by decide) ?_
  refine lv_istore_n (lv' := [(2, .int (0 : Int32)), (0, .ref (h 0)), (1, .int p1)]) hx hb dX0_stepsDownForTheRest_1 rfl hl (Nat.le_of_ble_eq_true rfl) rfl (fun ls hl => ?_)
  refine lv_iconst (v := (0 : Int32)) hx hb dX0_stepsDownForTheRest_2 (by decide) ?_
  refine lv_istore_n (lv' := [(3, .int (0 : Int32)), (2, .int (0 : Int32)), (0, .ref (h 0)), (1, .int p1)]) hx hb dX0_stepsDownForTheRest_3 rfl hl (Nat.le_of_ble_eq_true rfl) rfl (fun ls hl => ?_)
  exact lp4 70 p1 (0 : Int32) (0 : Int32) hrun _ _ _ Y (lv_sub hl [2, 3, 1, 0] rfl)
def lX2_countHidingSpots_4 : Nat → Int32 → Int32 → (sg_T) → Option (Int32)
  | 0, _, _, _ => none
  | n + 1, a1, a2, σ => (if (16 : Int32) ≤ a2 then (some a1) else ((fX5_hasRoomToHide a2 σ).bind fun r_2 => (if r_2 = 0 then (lX2_countHidingSpots_4 n a1 (a2 + (1 : Int32)) σ) else (lX2_countHidingSpots_4 n (a1 + (1 : Int32)) (a2 + (1 : Int32)) σ))))
def fX2_countHidingSpots (σ : sg_T) : Option (Int32) := (lX2_countHidingSpots_4 70 (0 : Int32) (0 : Int32) σ)
set_option maxRecDepth 100000 in
set_option maxHeartbeats 4000000 in
theorem mX2_countHidingSpots (l : Launch) (D : va_G) (cI : ClassId) (h : Nat → Nat) (σ : sg_T) (r : Int32) (hrun : fX2_countHidingSpots σ = some r) : me_I l D (tS cI) yX2_countHidingSpots cX2_countHidingSpots 3 .int 5 105 (wS cI h σ) [.ref (h 0)] r (wS cI h σ) := by
  refine me_ofI (plainFor_of_name (by decide)) (Nat.le_of_ble_eq_true rfl) ?_
  intro p e s m args below meth c A ls S hK Y hA hl hr hlk hZ
  have hx := S.1
  have hb := S.2.1
  have hl : lv_has ls 3 [(0, .ref (h 0))] := hl
  have lp4 : ∀ (n : Nat) (a1 : Int32) (a2 : Int32), lX2_countHidingSpots_4 n a1 a2 σ = some r → ∀ (H : Heap) (locs : List Loc) (ls : Array Slot), dy_ D A s (wS cI h σ) H locs → lv_has ls 3 [(0, .ref (h 0)), (1, .int a1), (2, .int a2)] → W p l e (rm_ 5 105) s m args below meth c H locs 0 0 (MQ below (me_Qi D (tS cI) A r (wS cI h σ)) args s 0 0 A) (F0 m 4 ls []) := by
    intro n
    induction n with
    | zero => intro a1 a2 hrun; cases hrun
    | succ n ih =>
      intro a1 a2 hrun H locs ls Y hl
      unfold lX2_countHidingSpots_4 at hrun
      refine lv_iload_n hx hb dX2_countHidingSpots_4 rfl (lv_at hl 2 rfl) ?_
      refine lv_bipush (v := (16 : Int32)) hx hb dX2_countHidingSpots_5 (by decide) ?_
      refine lv_icmp_ge (tgt := 27) hx hb dX2_countHidingSpots_7 (by decide) (fun c_1 => ?_) (fun c_1 => ?_)
      · have hrun := o_t hrun c_1
        refine lv_iload_n hx hb dX2_countHidingSpots_27 rfl (lv_at hl 1 rfl) ?_
        cases hrun
        exact me_ri S hK Y hr hlk rfl dX2_countHidingSpots_28
      · have hrun := o_f hrun c_1
        refine lv_aload_n hx hb dX2_countHidingSpots_10 rfl (lv_at hl 0 rfl) ?_
        refine lv_iload_n hx hb dX2_countHidingSpots_11 rfl (lv_at hl 2 rfl) ?_
        obtain ⟨r_2, e_3, hrun⟩ := o_bh hrun
        refine cf_v (As := [.int a2]) (rest := []) S hK hA hZ Y hl.1 (mX5_hasRoomToHide l D cI h σ a2 r_2 e_3) kX2_52 (T := TX5) (N := 16) rfl (q0 := 0) rfl ⟨Nat.le_of_ble_eq_true rfl, Nat.le_of_ble_eq_true rfl⟩ rfl rfl (Nat.le_of_ble_eq_true rfl) ⟨Nat.le_of_ble_eq_true rfl, Nat.le_of_ble_eq_true rfl⟩ dX2_countHidingSpots_12 (fun H locs Y => ?_)
        refine lv_if_eq (tgt := 21) hx hb dX2_countHidingSpots_15 (by decide) (fun c_4 => ?_) (fun c_4 => ?_)
        · have hrun := o_t hrun c_4
          refine lv_iinc (v := (a2 + (1 : Int32))) (lv' := [(2, .int (a2 + (1 : Int32))), (0, .ref (h 0)), (1, .int a1)]) hx hb dX2_countHidingSpots_21 hl (k := 2) rfl (by rfl) (Nat.le_of_ble_eq_true rfl) rfl (fun ls hl => ?_)
          refine lv_goto (tgt := 4) hx hb dX2_countHidingSpots_24 (by decide) ?_
          exact ih a1 (a2 + (1 : Int32)) hrun _ _ _ Y (lv_sub hl [1, 2, 0] rfl)
        · have hrun := o_f hrun c_4
          refine lv_iinc (v := (a1 + (1 : Int32))) (lv' := [(1, .int (a1 + (1 : Int32))), (0, .ref (h 0)), (2, .int a2)]) hx hb dX2_countHidingSpots_18 hl (k := 1) rfl (by rfl) (Nat.le_of_ble_eq_true rfl) rfl (fun ls hl => ?_)
          refine lv_iinc (v := (a2 + (1 : Int32))) (lv' := [(2, .int (a2 + (1 : Int32))), (1, .int (a1 + (1 : Int32))), (0, .ref (h 0))]) hx hb dX2_countHidingSpots_21 hl (k := 2) rfl (by rfl) (Nat.le_of_ble_eq_true rfl) rfl (fun ls hl => ?_)
          refine lv_goto (tgt := 4) hx hb dX2_countHidingSpots_24 (by decide) ?_
          exact ih (a1 + (1 : Int32)) (a2 + (1 : Int32)) hrun _ _ _ Y (lv_sub hl [2, 1, 0] rfl)
  unfold fX2_countHidingSpots at hrun
  refine lv_iconst (v := (0 : Int32)) hx hb dX2_countHidingSpots_0 (by decide) ?_
  refine lv_istore_n (lv' := [(1, .int (0 : Int32)), (0, .ref (h 0))]) hx hb dX2_countHidingSpots_1 rfl hl (Nat.le_of_ble_eq_true rfl) rfl (fun ls hl => ?_)
  refine lv_iconst (v := (0 : Int32)) hx hb dX2_countHidingSpots_2 (by decide) ?_
  refine lv_istore_n (lv' := [(2, .int (0 : Int32)), (1, .int (0 : Int32)), (0, .ref (h 0))]) hx hb dX2_countHidingSpots_3 rfl hl (Nat.le_of_ble_eq_true rfl) rfl (fun ls hl => ?_)
  exact lp4 70 (0 : Int32) (0 : Int32) hrun _ _ _ Y (lv_sub hl [2, 1, 0] rfl)
def fX2_hidePlayer (p1 p2 : Int32) (σ : sg_T) : Option (Int32 × sg_T) := ((fX5_isPlayer p1 σ).bind fun r_1 => (if r_1 = 0 then (some ((-10001 : Int32), σ)) else ((fX6_isSpot p2).bind fun r_4 => (if r_4 = 0 then (some ((-10001 : Int32), σ)) else (if (σ 0 2) = (1 : Int32) then (if p1 = (σ 0 3) then (some ((-10003 : Int32), σ)) else ((fX5_isHidden p1 σ).bind fun r_9 => (if r_9 = 0 then ((fX5_isHidingPlace p2 σ).bind fun r_12 => (if r_12 = 0 then (some ((-10003 : Int32), σ)) else ((fX5_isFull p2 σ).bind fun r_15 => (if r_15 = 0 then (o_x p1 8 ((fX6_fromBase p2).bind fun r_19 => (some (r_19, (sg_a σ 7 (upd (σ 7) (p1).toNatClampNeg p2)))))) else (some ((-10004 : Int32), σ)))))) else (some ((-10003 : Int32), σ))))) else (some ((-10003 : Int32), σ)))))))
set_option maxRecDepth 100000 in
set_option maxHeartbeats 4000000 in
theorem mX2_hidePlayer (l : Launch) (D : va_G) (cI : ClassId) (h : Nat → Nat) (σ : sg_T) (p1 p2 : Int32) (r : Int32) (σ' : sg_T) (hrun : fX2_hidePlayer p1 p2 σ = some (r, σ')) : me_I l D (tS cI) yX2_hidePlayer cX2_hidePlayer 3 .int 4 84 (wS cI h σ) [.ref (h 0), .int p1, .int p2] r (wS cI h σ') := by
  refine me_ofI (plainFor_of_name (by decide)) (Nat.le_of_ble_eq_true rfl) ?_
  intro p e s m args below meth c A ls S hK Y hA hl hr hlk hZ
  have hx := S.1
  have hb := S.2.1
  have hl : lv_has ls 3 [(0, .ref (h 0)), (1, .int p1), (2, .int p2)] := hl
  unfold fX2_hidePlayer at hrun
  refine lv_aload_n hx hb dX2_hidePlayer_0 rfl (lv_at hl 0 rfl) ?_
  refine lv_iload_n hx hb dX2_hidePlayer_1 rfl (lv_at hl 1 rfl) ?_
  obtain ⟨r_1, e_2, hrun⟩ := o_bh hrun
  refine cf_v (As := [.int p1]) (rest := []) S hK hA hZ Y hl.1 (mX5_isPlayer l D cI h σ p1 r_1 e_2) kX2_32 (T := TX5) (N := 16) rfl (q0 := 0) rfl ⟨Nat.le_of_ble_eq_true rfl, Nat.le_of_ble_eq_true rfl⟩ rfl rfl (Nat.le_of_ble_eq_true rfl) ⟨Nat.le_of_ble_eq_true rfl, Nat.le_of_ble_eq_true rfl⟩ dX2_hidePlayer_2 (fun H locs Y => ?_)
  refine lv_if_eq (tgt := 15) hx hb dX2_hidePlayer_5 (by decide) (fun c_3 => ?_) (fun c_3 => ?_)
  · have hrun := o_t hrun c_3
    refine lv_sipush (v := (-10001 : Int32)) hx hb dX2_hidePlayer_15 (by decide) ?_
    cases hrun
    exact me_ri S hK Y hr hlk rfl dX2_hidePlayer_18
  · have hrun := o_f hrun c_3
    refine lv_iload_n hx hb dX2_hidePlayer_8 rfl (lv_at hl 2 rfl) ?_
    obtain ⟨r_4, e_5, hrun⟩ := o_bh hrun
    refine cp_s (As := [.int p2]) (rest := []) S hK hA hZ Y hl.1 (mX6_isSpot l D p2 r_4 e_5) kX2_55 ⟨Nat.le_of_ble_eq_true rfl, Nat.le_of_ble_eq_true rfl⟩ rfl rfl (Nat.le_of_ble_eq_true rfl) ⟨Nat.le_of_ble_eq_true rfl, Nat.le_of_ble_eq_true rfl⟩ dX2_hidePlayer_9 (fun H locs Y => ?_)
    refine lv_if_ne (tgt := 19) hx hb dX2_hidePlayer_12 (by decide) (fun c_6 => ?_) (fun c_6 => ?_)
    · have hrun := o_f hrun c_6
      refine lv_aload_n hx hb dX2_hidePlayer_19 rfl (lv_at hl 0 rfl) ?_
      refine ig S hK Y fX2_25 0 rfl (v := .int (σ 0 2)) rfl dX2_hidePlayer_20 ?_
      refine lv_iconst (v := (1 : Int32)) hx hb dX2_hidePlayer_23 (by decide) ?_
      refine lv_icmp_ne (tgt := 43) hx hb dX2_hidePlayer_24 (by decide) (fun c_7 => ?_) (fun c_7 => ?_)
      · have hrun := o_f hrun c_7
        refine lv_sipush (v := (-10003 : Int32)) hx hb dX2_hidePlayer_43 (by decide) ?_
        cases hrun
        exact me_ri S hK Y hr hlk rfl dX2_hidePlayer_46
      · have hrun := o_t hrun c_7
        refine lv_iload_n hx hb dX2_hidePlayer_27 rfl (lv_at hl 1 rfl) ?_
        refine lv_aload_n hx hb dX2_hidePlayer_28 rfl (lv_at hl 0 rfl) ?_
        refine ig S hK Y fX2_35 0 rfl (v := .int (σ 0 3)) rfl dX2_hidePlayer_29 ?_
        refine lv_icmp_eq (tgt := 43) hx hb dX2_hidePlayer_32 (by decide) (fun c_8 => ?_) (fun c_8 => ?_)
        · have hrun := o_t hrun c_8
          refine lv_sipush (v := (-10003 : Int32)) hx hb dX2_hidePlayer_43 (by decide) ?_
          cases hrun
          exact me_ri S hK Y hr hlk rfl dX2_hidePlayer_46
        · have hrun := o_f hrun c_8
          refine lv_aload_n hx hb dX2_hidePlayer_35 rfl (lv_at hl 0 rfl) ?_
          refine lv_iload_n hx hb dX2_hidePlayer_36 rfl (lv_at hl 1 rfl) ?_
          obtain ⟨r_9, e_10, hrun⟩ := o_bh hrun
          refine cf_v (As := [.int p1]) (rest := []) S hK hA hZ Y hl.1 (mX5_isHidden l D cI h σ p1 r_9 e_10) kX2_58 (T := TX5) (N := 16) rfl (q0 := 0) rfl ⟨Nat.le_of_ble_eq_true rfl, Nat.le_of_ble_eq_true rfl⟩ rfl rfl (Nat.le_of_ble_eq_true rfl) ⟨Nat.le_of_ble_eq_true rfl, Nat.le_of_ble_eq_true rfl⟩ dX2_hidePlayer_37 (fun H locs Y => ?_)
          refine lv_if_eq (tgt := 47) hx hb dX2_hidePlayer_40 (by decide) (fun c_11 => ?_) (fun c_11 => ?_)
          · have hrun := o_t hrun c_11
            refine lv_aload_n hx hb dX2_hidePlayer_47 rfl (lv_at hl 0 rfl) ?_
            refine lv_iload_n hx hb dX2_hidePlayer_48 rfl (lv_at hl 2 rfl) ?_
            obtain ⟨r_12, e_13, hrun⟩ := o_bh hrun
            refine cf_v (As := [.int p2]) (rest := []) S hK hA hZ Y hl.1 (mX5_isHidingPlace l D cI h σ p2 r_12 e_13) kX2_61 (T := TX5) (N := 16) rfl (q0 := 0) rfl ⟨Nat.le_of_ble_eq_true rfl, Nat.le_of_ble_eq_true rfl⟩ rfl rfl (Nat.le_of_ble_eq_true rfl) ⟨Nat.le_of_ble_eq_true rfl, Nat.le_of_ble_eq_true rfl⟩ dX2_hidePlayer_49 (fun H locs Y => ?_)
            refine lv_if_ne (tgt := 59) hx hb dX2_hidePlayer_52 (by decide) (fun c_14 => ?_) (fun c_14 => ?_)
            · have hrun := o_f hrun c_14
              refine lv_aload_n hx hb dX2_hidePlayer_59 rfl (lv_at hl 0 rfl) ?_
              refine lv_iload_n hx hb dX2_hidePlayer_60 rfl (lv_at hl 2 rfl) ?_
              obtain ⟨r_15, e_16, hrun⟩ := o_bh hrun
              refine cf_v (As := [.int p2]) (rest := []) S hK hA hZ Y hl.1 (mX5_isFull l D cI h σ p2 r_15 e_16) kX2_64 (T := TX5) (N := 16) rfl (q0 := 0) rfl ⟨Nat.le_of_ble_eq_true rfl, Nat.le_of_ble_eq_true rfl⟩ rfl rfl (Nat.le_of_ble_eq_true rfl) ⟨Nat.le_of_ble_eq_true rfl, Nat.le_of_ble_eq_true rfl⟩ dX2_hidePlayer_61 (fun H locs Y => ?_)
              refine lv_if_eq (tgt := 71) hx hb dX2_hidePlayer_64 (by decide) (fun c_17 => ?_) (fun c_17 => ?_)
              · have hrun := o_t hrun c_17
                refine lv_aload_n hx hb dX2_hidePlayer_71 rfl (lv_at hl 0 rfl) ?_
                refine ig S hK Y fX2_67 0 rfl (v := .ref (h 7)) rfl dX2_hidePlayer_72 ?_
                refine lv_iload_n hx hb dX2_hidePlayer_75 rfl (lv_at hl 1 rfl) ?_
                refine lv_iload_n hx hb dX2_hidePlayer_76 rfl (lv_at hl 2 rfl) ?_
                obtain ⟨b_18, hrun⟩ := o_xh hrun
                refine iw S hK Y 7 0 (f := (σ 7)) rfl rfl b_18 (ws' := (wS cI h (sg_a σ 7 (upd (σ 7) (p1).toNatClampNeg p2)))) (wS_a7 _ _ _) dX2_hidePlayer_77 (fun H locs Y => ?_)
                refine lv_iload_n hx hb dX2_hidePlayer_78 rfl (lv_at hl 2 rfl) ?_
                obtain ⟨r_19, e_20, hrun⟩ := o_bh hrun
                refine cp_s (As := [.int p2]) (rest := []) S hK hA hZ Y hl.1 (mX6_fromBase l D p2 r_19 e_20) kX2_70 ⟨Nat.le_of_ble_eq_true rfl, Nat.le_of_ble_eq_true rfl⟩ rfl rfl (Nat.le_of_ble_eq_true rfl) ⟨Nat.le_of_ble_eq_true rfl, Nat.le_of_ble_eq_true rfl⟩ dX2_hidePlayer_79 (fun H locs Y => ?_)
                cases hrun
                exact me_ri S hK Y hr hlk rfl dX2_hidePlayer_82
              · have hrun := o_f hrun c_17
                refine lv_sipush (v := (-10004 : Int32)) hx hb dX2_hidePlayer_67 (by decide) ?_
                cases hrun
                exact me_ri S hK Y hr hlk rfl dX2_hidePlayer_70
            · have hrun := o_t hrun c_14
              refine lv_sipush (v := (-10003 : Int32)) hx hb dX2_hidePlayer_55 (by decide) ?_
              cases hrun
              exact me_ri S hK Y hr hlk rfl dX2_hidePlayer_58
          · have hrun := o_f hrun c_11
            refine lv_sipush (v := (-10003 : Int32)) hx hb dX2_hidePlayer_43 (by decide) ?_
            cases hrun
            exact me_ri S hK Y hr hlk rfl dX2_hidePlayer_46
    · have hrun := o_t hrun c_6
      refine lv_sipush (v := (-10001 : Int32)) hx hb dX2_hidePlayer_15 (by decide) ?_
      cases hrun
      exact me_ri S hK Y hr hlk rfl dX2_hidePlayer_18
def fX2_beginSeeking (σ : sg_T) : Option (Int32 × sg_T) := (if (σ 0 2) = (1 : Int32) then ((fX5_hiddenCount (sg_a (sg_a σ 0 (sg_u (σ 0) 2 (2 : Int32))) 0 (sg_u (sg_u (σ 0) 2 (2 : Int32)) 5 (0 : Int32)))).bind fun r_2 => ((fX2_endRoundIfNobodyIsHidden (sg_a (sg_a σ 0 (sg_u (σ 0) 2 (2 : Int32))) 0 (sg_u (sg_u (σ 0) 2 (2 : Int32)) 5 (0 : Int32)))).bind fun σ4 => (some (r_2, σ4)))) else (some ((-10003 : Int32), σ)))
set_option maxRecDepth 100000 in
set_option maxHeartbeats 4000000 in
theorem mX2_beginSeeking (l : Launch) (D : va_G) (cI : ClassId) (h : Nat → Nat) (σ : sg_T) (r : Int32) (σ' : sg_T) (hrun : fX2_beginSeeking σ = some (r, σ')) : me_I l D (tS cI) yX2_beginSeeking cX2_beginSeeking 2 .int 4 84 (wS cI h σ) [.ref (h 0)] r (wS cI h σ') := by
  refine me_ofI (plainFor_of_name (by decide)) (Nat.le_of_ble_eq_true rfl) ?_
  intro p e s m args below meth c A ls S hK Y hA hl hr hlk hZ
  have hx := S.1
  have hb := S.2.1
  have hl : lv_has ls 2 [(0, .ref (h 0))] := hl
  unfold fX2_beginSeeking at hrun
  refine lv_aload_n hx hb dX2_beginSeeking_0 rfl (lv_at hl 0 rfl) ?_
  refine ig S hK Y fX2_25 0 rfl (v := .int (σ 0 2)) rfl dX2_beginSeeking_1 ?_
  refine lv_iconst (v := (1 : Int32)) hx hb dX2_beginSeeking_4 (by decide) ?_
  refine lv_icmp_eq (tgt := 12) hx hb dX2_beginSeeking_5 (by decide) (fun c_1 => ?_) (fun c_1 => ?_)
  · have hrun := o_t hrun c_1
    refine lv_aload_n hx hb dX2_beginSeeking_12 rfl (lv_at hl 0 rfl) ?_
    refine lv_iconst (v := (2 : Int32)) hx hb dX2_beginSeeking_13 (by decide) ?_
    refine ip S hK Y fX2_25 fpX5 rfl 0 (fs := vS h (σ 0)) rfl rfl rfl (Nat.le_of_ble_eq_true rfl) (ws' := (wS cI h (sg_a σ 0 (sg_u (σ 0) 2 (2 : Int32))))) (wS_f2 _ _ _ _) dX2_beginSeeking_14 (fun H locs Y => ?_)
    refine lv_aload_n hx hb dX2_beginSeeking_17 rfl (lv_at hl 0 rfl) ?_
    refine lv_iconst (v := (0 : Int32)) hx hb dX2_beginSeeking_18 (by decide) ?_
    refine ip S hK Y fX2_74 fpX5 rfl 0 (fs := vS h (sg_u (σ 0) 2 (2 : Int32))) rfl rfl rfl (Nat.le_of_ble_eq_true rfl) (ws' := (wS cI h (sg_a (sg_a σ 0 (sg_u (σ 0) 2 (2 : Int32))) 0 (sg_u (sg_u (σ 0) 2 (2 : Int32)) 5 (0 : Int32))))) (wS_f5 _ _ _ _) dX2_beginSeeking_19 (fun H locs Y => ?_)
    refine lv_aload_n hx hb dX2_beginSeeking_22 rfl (lv_at hl 0 rfl) ?_
    obtain ⟨r_2, e_3, hrun⟩ := o_bh hrun
    refine cf_v (As := []) (rest := []) S hK hA hZ Y hl.1 (mX5_hiddenCount l D cI h (sg_a (sg_a σ 0 (sg_u (σ 0) 2 (2 : Int32))) 0 (sg_u (sg_u (σ 0) 2 (2 : Int32)) 5 (0 : Int32))) r_2 e_3) kX2_77 (T := TX5) (N := 16) rfl (q0 := 0) rfl ⟨Nat.le_of_ble_eq_true rfl, Nat.le_of_ble_eq_true rfl⟩ rfl rfl (Nat.le_of_ble_eq_true rfl) ⟨Nat.le_of_ble_eq_true rfl, Nat.le_of_ble_eq_true rfl⟩ dX2_beginSeeking_23 (fun H locs Y => ?_)
    refine lv_istore_n (lv' := [(1, .int r_2), (0, .ref (h 0))]) hx hb dX2_beginSeeking_26 rfl hl (Nat.le_of_ble_eq_true rfl) rfl (fun ls hl => ?_)
    refine lv_aload_n hx hb dX2_beginSeeking_27 rfl (lv_at hl 1 rfl) ?_
    obtain ⟨σ4, e_5, hrun⟩ := o_bh hrun
    refine cf_sv (As := [.ref (h 0)]) (rest := []) S hK hA hZ Y hl.1 (mX2_endRoundIfNobodyIsHidden l D cI h (sg_a (sg_a σ 0 (sg_u (σ 0) 2 (2 : Int32))) 0 (sg_u (sg_u (σ 0) 2 (2 : Int32)) 5 (0 : Int32))) σ4 e_5) kX2_81 ⟨Nat.le_of_ble_eq_true rfl, Nat.le_of_ble_eq_true rfl⟩ rfl rfl (Nat.le_of_ble_eq_true rfl) ⟨Nat.le_of_ble_eq_true rfl, Nat.le_of_ble_eq_true rfl⟩ dX2_beginSeeking_28 (fun H locs Y => ?_)
    refine lv_iload_n hx hb dX2_beginSeeking_31 rfl (lv_at hl 0 rfl) ?_
    cases hrun
    exact me_ri S hK Y hr hlk rfl dX2_beginSeeking_32
  · have hrun := o_f hrun c_1
    refine lv_sipush (v := (-10003 : Int32)) hx hb dX2_beginSeeking_8 (by decide) ?_
    cases hrun
    exact me_ri S hK Y hr hlk rfl dX2_beginSeeking_11
def fX2_findPlayer (p1 p2 : Int32) (σ : sg_T) : Option (sg_T) := (o_x p1 8 ((fX5_isPlayer (σ 0 3) (sg_a σ 7 (upd (σ 7) (p1).toNatClampNeg (-10006 : Int32)))).bind fun r_2 => (if r_2 = 0 then ((fX2_endRoundIfNobodyIsHidden (sg_a σ 7 (upd (σ 7) (p1).toNatClampNeg (-10006 : Int32)))).bind fun σ5 => (some (σ5))) else (o_x (σ 0 3) 8 ((fX2_endRoundIfNobodyIsHidden (sg_a (sg_a (sg_a σ 7 (upd (σ 7) (p1).toNatClampNeg (-10006 : Int32))) 2 (upd (σ 2) ((σ 0 3)).toNatClampNeg (((σ 2) ((σ 0 3)).toNatClampNeg) + p2))) 4 (upd (σ 4) ((σ 0 3)).toNatClampNeg (((σ 4) ((σ 0 3)).toNatClampNeg) + (1 : Int32))))).bind fun σ8 => (some (σ8)))))))
set_option maxRecDepth 100000 in
set_option maxHeartbeats 4000000 in
theorem mX2_findPlayer (l : Launch) (D : va_G) (cI : ClassId) (h : Nat → Nat) (σ : sg_T) (p1 p2 : Int32) (σ' : sg_T) (hrun : fX2_findPlayer p1 p2 σ = some σ') : me_V l D (tS cI) yX2_findPlayer cX2_findPlayer 3 4 84 (wS cI h σ) [.ref (h 0), .int p1, .int p2] (wS cI h σ') := by
  refine me_ofV (plainFor_of_name (by decide)) (Nat.le_of_ble_eq_true rfl) ?_
  intro p e s m args below meth c A ls S hK Y hA hl hr hlk hZ
  have hx := S.1
  have hb := S.2.1
  have hl : lv_has ls 3 [(0, .ref (h 0)), (1, .int p1), (2, .int p2)] := hl
  unfold fX2_findPlayer at hrun
  refine lv_aload_n hx hb dX2_findPlayer_0 rfl (lv_at hl 0 rfl) ?_
  refine ig S hK Y fX2_67 0 rfl (v := .ref (h 7)) rfl dX2_findPlayer_1 ?_
  refine lv_iload_n hx hb dX2_findPlayer_4 rfl (lv_at hl 1 rfl) ?_
  refine lv_sipush (v := (-10006 : Int32)) hx hb dX2_findPlayer_5 (by decide) ?_
  obtain ⟨b_1, hrun⟩ := o_xh hrun
  refine iw S hK Y 7 0 (f := (σ 7)) rfl rfl b_1 (ws' := (wS cI h (sg_a σ 7 (upd (σ 7) (p1).toNatClampNeg (-10006 : Int32))))) (wS_a7 _ _ _) dX2_findPlayer_8 (fun H locs Y => ?_)
  refine lv_aload_n hx hb dX2_findPlayer_9 rfl (lv_at hl 0 rfl) ?_
  refine lv_aload_n hx hb dX2_findPlayer_10 rfl (lv_at hl 0 rfl) ?_
  refine ig S hK Y fX2_35 0 rfl (v := .int (σ 0 3)) rfl dX2_findPlayer_11 ?_
  obtain ⟨r_2, e_3, hrun⟩ := o_bh hrun
  refine cf_v (As := [.int (σ 0 3)]) (rest := []) S hK hA hZ Y hl.1 (mX5_isPlayer l D cI h (sg_a σ 7 (upd (σ 7) (p1).toNatClampNeg (-10006 : Int32))) (σ 0 3) r_2 e_3) kX2_32 (T := TX5) (N := 16) rfl (q0 := 0) rfl ⟨Nat.le_of_ble_eq_true rfl, Nat.le_of_ble_eq_true rfl⟩ rfl rfl (Nat.le_of_ble_eq_true rfl) ⟨Nat.le_of_ble_eq_true rfl, Nat.le_of_ble_eq_true rfl⟩ dX2_findPlayer_14 (fun H locs Y => ?_)
  refine lv_if_eq (tgt := 46) hx hb dX2_findPlayer_17 (by decide) (fun c_4 => ?_) (fun c_4 => ?_)
  · have hrun := o_t hrun c_4
    refine lv_aload_n hx hb dX2_findPlayer_46 rfl (lv_at hl 0 rfl) ?_
    obtain ⟨σ5, e_6, hrun⟩ := o_bh hrun
    refine cf_sv (As := [.ref (h 0)]) (rest := []) S hK hA hZ Y hl.1 (mX2_endRoundIfNobodyIsHidden l D cI h (sg_a σ 7 (upd (σ 7) (p1).toNatClampNeg (-10006 : Int32))) σ5 e_6) kX2_81 ⟨Nat.le_of_ble_eq_true rfl, Nat.le_of_ble_eq_true rfl⟩ rfl rfl (Nat.le_of_ble_eq_true rfl) ⟨Nat.le_of_ble_eq_true rfl, Nat.le_of_ble_eq_true rfl⟩ dX2_findPlayer_47 (fun H locs Y => ?_)
    cases hrun
    exact me_rv S hK Y hr hlk dX2_findPlayer_50
  · have hrun := o_f hrun c_4
    refine lv_aload_n hx hb dX2_findPlayer_20 rfl (lv_at hl 0 rfl) ?_
    refine ig S hK Y fX2_109 0 rfl (v := .ref (h 2)) rfl dX2_findPlayer_21 ?_
    refine lv_aload_n hx hb dX2_findPlayer_24 rfl (lv_at hl 0 rfl) ?_
    refine ig S hK Y fX2_35 0 rfl (v := .int (σ 0 3)) rfl dX2_findPlayer_25 ?_
    refine lv_dup2_11 hx hb dX2_findPlayer_28 rfl rfl ?_
    obtain ⟨b_7, hrun⟩ := o_xh hrun
    refine ia S hK Y 2 0 (f := (σ 2)) rfl rfl b_7 dX2_findPlayer_29 ?_
    refine lv_iload_n hx hb dX2_findPlayer_30 rfl (lv_at hl 2 rfl) ?_
    refine lv_iadd hx hb dX2_findPlayer_31 ?_
    refine iw S hK Y 2 0 (f := (σ 2)) rfl rfl b_7 (ws' := (wS cI h (sg_a (sg_a σ 7 (upd (σ 7) (p1).toNatClampNeg (-10006 : Int32))) 2 (upd (σ 2) ((σ 0 3)).toNatClampNeg (((σ 2) ((σ 0 3)).toNatClampNeg) + p2))))) (wS_a2 _ _ _) dX2_findPlayer_32 (fun H locs Y => ?_)
    refine lv_aload_n hx hb dX2_findPlayer_33 rfl (lv_at hl 0 rfl) ?_
    refine ig S hK Y fX2_112 0 rfl (v := .ref (h 4)) rfl dX2_findPlayer_34 ?_
    refine lv_aload_n hx hb dX2_findPlayer_37 rfl (lv_at hl 0 rfl) ?_
    refine ig S hK Y fX2_35 0 rfl (v := .int (σ 0 3)) rfl dX2_findPlayer_38 ?_
    refine lv_dup2_11 hx hb dX2_findPlayer_41 rfl rfl ?_
    refine ia S hK Y 4 0 (f := (σ 4)) rfl rfl b_7 dX2_findPlayer_42 ?_
    refine lv_iconst (v := (1 : Int32)) hx hb dX2_findPlayer_43 (by decide) ?_
    refine lv_iadd hx hb dX2_findPlayer_44 ?_
    refine iw S hK Y 4 0 (f := (σ 4)) rfl rfl b_7 (ws' := (wS cI h (sg_a (sg_a (sg_a σ 7 (upd (σ 7) (p1).toNatClampNeg (-10006 : Int32))) 2 (upd (σ 2) ((σ 0 3)).toNatClampNeg (((σ 2) ((σ 0 3)).toNatClampNeg) + p2))) 4 (upd (σ 4) ((σ 0 3)).toNatClampNeg (((σ 4) ((σ 0 3)).toNatClampNeg) + (1 : Int32)))))) (wS_a4 _ _ _) dX2_findPlayer_45 (fun H locs Y => ?_)
    refine lv_aload_n hx hb dX2_findPlayer_46 rfl (lv_at hl 0 rfl) ?_
    obtain ⟨σ8, e_9, hrun⟩ := o_bh hrun
    refine cf_sv (As := [.ref (h 0)]) (rest := []) S hK hA hZ Y hl.1 (mX2_endRoundIfNobodyIsHidden l D cI h (sg_a (sg_a (sg_a σ 7 (upd (σ 7) (p1).toNatClampNeg (-10006 : Int32))) 2 (upd (σ 2) ((σ 0 3)).toNatClampNeg (((σ 2) ((σ 0 3)).toNatClampNeg) + p2))) 4 (upd (σ 4) ((σ 0 3)).toNatClampNeg (((σ 4) ((σ 0 3)).toNatClampNeg) + (1 : Int32)))) σ8 e_9) kX2_81 ⟨Nat.le_of_ble_eq_true rfl, Nat.le_of_ble_eq_true rfl⟩ rfl rfl (Nat.le_of_ble_eq_true rfl) ⟨Nat.le_of_ble_eq_true rfl, Nat.le_of_ble_eq_true rfl⟩ dX2_findPlayer_47 (fun H locs Y => ?_)
    cases hrun
    exact me_rv S hK Y hr hlk dX2_findPlayer_50
def lX0_stepsToSeeAll_17 : Nat → Int32 → Int32 → (sg_T) → Option (Int32)
  | 0, _, _, _ => none
  | n + 1, a1, a2, σ => (if (16 : Int32) ≤ a2 then (some a1) else ((fX0_stepsDownForTheRest a2 σ).bind fun r_3 => ((fJ9_min_7cf53 a2 r_3).bind fun r_5 => ((fJ9_min_7cf53 a1 ((a2 + r_3) + r_5)).bind fun r_7 => (lX0_stepsToSeeAll_17 n r_7 (a2 + (1 : Int32)) σ)))))
def fX0_stepsToSeeAll (σ : sg_T) : Option (Int32) := (if (σ 0 2) = (2 : Int32) then (lX0_stepsToSeeAll_17 70 (16 : Int32) (0 : Int32) σ) else (some (-10003 : Int32)))
set_option maxRecDepth 100000 in
set_option maxHeartbeats 4000000 in
theorem mX0_stepsToSeeAll (l : Launch) (D : va_G) (cI : ClassId) (h : Nat → Nat) (σ : sg_T) (r : Int32) (hrun : fX0_stepsToSeeAll σ = some r) : me_I l D (tS cI) yX0_stepsToSeeAll cX0_stepsToSeeAll 4 .int 5 110 (wS cI h σ) [.ref (h 0)] r (wS cI h σ) := by
  refine me_ofI (plainFor_of_name (by decide)) (Nat.le_of_ble_eq_true rfl) ?_
  intro p e s m args below meth c A ls S hK Y hA hl hr hlk hZ
  have hx := S.1
  have hb := S.2.1
  have hl : lv_has ls 4 [(0, .ref (h 0))] := hl
  have lp17 : ∀ (n : Nat) (a1 : Int32) (a2 : Int32), lX0_stepsToSeeAll_17 n a1 a2 σ = some r → ∀ (H : Heap) (locs : List Loc) (ls : Array Slot), dy_ D A s (wS cI h σ) H locs → lv_has ls 4 [(0, .ref (h 0)), (1, .int a1), (2, .int a2)] → W p l e (rm_ 5 110) s m args below meth c H locs 0 0 (MQ below (me_Qi D (tS cI) A r (wS cI h σ)) args s 0 0 A) (F0 m 17 ls []) := by
    intro n
    induction n with
    | zero => intro a1 a2 hrun; cases hrun
    | succ n ih =>
      intro a1 a2 hrun H locs ls Y hl
      unfold lX0_stepsToSeeAll_17 at hrun
      refine lv_iload_n hx hb dX0_stepsToSeeAll_17 rfl (lv_at hl 2 rfl) ?_
      refine lv_bipush (v := (16 : Int32)) hx hb dX0_stepsToSeeAll_18 (by decide) ?_
      refine lv_icmp_ge (tgt := 49) hx hb dX0_stepsToSeeAll_20 (by decide) (fun c_2 => ?_) (fun c_2 => ?_)
      · have hrun := o_t hrun c_2
        refine lv_iload_n hx hb dX0_stepsToSeeAll_49 rfl (lv_at hl 1 rfl) ?_
        cases hrun
        exact me_ri S hK Y hr hlk rfl dX0_stepsToSeeAll_50
      · have hrun := o_f hrun c_2
        refine lv_aload_n hx hb dX0_stepsToSeeAll_23 rfl (lv_at hl 0 rfl) ?_
        refine lv_iload_n hx hb dX0_stepsToSeeAll_24 rfl (lv_at hl 2 rfl) ?_
        obtain ⟨r_3, e_4, hrun⟩ := o_bh hrun
        refine cf_s (As := [.ref (h 0), .int a2]) (rest := []) S hK hA hZ Y hl.1 (mX0_stepsDownForTheRest l D cI h σ a2 r_3 e_4) kX0_50 ⟨Nat.le_of_ble_eq_true rfl, Nat.le_of_ble_eq_true rfl⟩ rfl rfl (Nat.le_of_ble_eq_true rfl) ⟨Nat.le_of_ble_eq_true rfl, Nat.le_of_ble_eq_true rfl⟩ dX0_stepsToSeeAll_25 (fun H locs Y => ?_)
        refine lv_istore_n (lv' := [(3, .int r_3), (0, .ref (h 0)), (1, .int a1), (2, .int a2)]) hx hb dX0_stepsToSeeAll_28 rfl hl (Nat.le_of_ble_eq_true rfl) rfl (fun ls hl => ?_)
        refine lv_iload_n hx hb dX0_stepsToSeeAll_29 rfl (lv_at hl 2 rfl) ?_
        refine lv_iload_n hx hb dX0_stepsToSeeAll_30 rfl (lv_at hl 3 rfl) ?_
        refine lv_iload_n hx hb dX0_stepsToSeeAll_31 rfl (lv_at hl 0 rfl) ?_
        refine lv_iadd hx hb dX0_stepsToSeeAll_32 ?_
        refine lv_iload_n hx hb dX0_stepsToSeeAll_33 rfl (lv_at hl 3 rfl) ?_
        refine lv_iload_n hx hb dX0_stepsToSeeAll_34 rfl (lv_at hl 0 rfl) ?_
        obtain ⟨r_5, e_6, hrun⟩ := o_bh hrun
        refine cp_s (As := [.int a2, .int r_3]) (rest := [.int (a2 + r_3), .int a1]) S hK hA hZ Y hl.1 (mJ9_min_7cf53 l D a2 r_3 r_5 e_6) kX0_54 ⟨Nat.le_of_ble_eq_true rfl, Nat.le_of_ble_eq_true rfl⟩ rfl rfl (Nat.le_of_ble_eq_true rfl) ⟨Nat.le_of_ble_eq_true rfl, Nat.le_of_ble_eq_true rfl⟩ dX0_stepsToSeeAll_35 (fun H locs Y => ?_)
        refine lv_iadd hx hb dX0_stepsToSeeAll_38 ?_
        obtain ⟨r_7, e_8, hrun⟩ := o_bh hrun
        refine cp_s (As := [.int a1, .int ((a2 + r_3) + r_5)]) (rest := []) S hK hA hZ Y hl.1 (mJ9_min_7cf53 l D a1 ((a2 + r_3) + r_5) r_7 e_8) kX0_54 ⟨Nat.le_of_ble_eq_true rfl, Nat.le_of_ble_eq_true rfl⟩ rfl rfl (Nat.le_of_ble_eq_true rfl) ⟨Nat.le_of_ble_eq_true rfl, Nat.le_of_ble_eq_true rfl⟩ dX0_stepsToSeeAll_39 (fun H locs Y => ?_)
        refine lv_istore_n (lv' := [(1, .int r_7), (3, .int r_3), (0, .ref (h 0)), (2, .int a2)]) hx hb dX0_stepsToSeeAll_42 rfl hl (Nat.le_of_ble_eq_true rfl) rfl (fun ls hl => ?_)
        refine lv_iinc (v := (a2 + (1 : Int32))) (lv' := [(2, .int (a2 + (1 : Int32))), (1, .int r_7), (3, .int r_3), (0, .ref (h 0))]) hx hb dX0_stepsToSeeAll_43 hl (k := 3) rfl (by rfl) (Nat.le_of_ble_eq_true rfl) rfl (fun ls hl => ?_)
        refine lv_goto (tgt := 17) hx hb dX0_stepsToSeeAll_46 (by decide) ?_
        exact ih r_7 (a2 + (1 : Int32)) hrun _ _ _ Y (lv_sub hl [3, 1, 0] rfl)
  unfold fX0_stepsToSeeAll at hrun
  refine lv_aload_n hx hb dX0_stepsToSeeAll_0 rfl (lv_at hl 0 rfl) ?_
  refine ig S hK Y fX0_9 0 rfl (v := .int (σ 0 2)) rfl dX0_stepsToSeeAll_1 ?_
  refine lv_iconst (v := (2 : Int32)) hx hb dX0_stepsToSeeAll_4 (by decide) ?_
  refine lv_icmp_eq (tgt := 12) hx hb dX0_stepsToSeeAll_5 (by decide) (fun c_1 => ?_) (fun c_1 => ?_)
  · have hrun := o_t hrun c_1
    refine lv_bipush (v := (16 : Int32)) hx hb dX0_stepsToSeeAll_12 (by decide) ?_
    refine lv_istore_n (lv' := [(1, .int (16 : Int32)), (0, .ref (h 0))]) hx hb dX0_stepsToSeeAll_14 rfl hl (Nat.le_of_ble_eq_true rfl) rfl (fun ls hl => ?_)
    refine lv_iconst (v := (0 : Int32)) hx hb dX0_stepsToSeeAll_15 (by decide) ?_
    refine lv_istore_n (lv' := [(2, .int (0 : Int32)), (1, .int (16 : Int32)), (0, .ref (h 0))]) hx hb dX0_stepsToSeeAll_16 rfl hl (Nat.le_of_ble_eq_true rfl) rfl (fun ls hl => ?_)
    exact lp17 70 (16 : Int32) (0 : Int32) hrun _ _ _ Y (lv_sub hl [2, 1, 0] rfl)
  · have hrun := o_f hrun c_1
    refine lv_sipush (v := (-10003 : Int32)) hx hb dX0_stepsToSeeAll_8 (by decide) ?_
    cases hrun
    exact me_ri S hK Y hr hlk rfl dX0_stepsToSeeAll_11
def fX2_beginRound (p1 p2 : Int32) (σ : sg_T) : Option (Int32 × sg_T) := ((fX5_isPlayer p1 σ).bind fun r_1 => (if r_1 = 0 then (some ((-10001 : Int32), σ)) else (if p2 < (1 : Int32) then (some ((-10002 : Int32), σ)) else (if p2 ≤ (8 : Int32) then (if (σ 0 2) = 0 then (if (2 : Int32) ≤ (σ 0 0) then (o_x p1 8 ((fX2_countHidingSpots (sg_a (sg_a (sg_a (sg_a σ 0 (sg_u (σ 0) 2 (1 : Int32))) 0 (sg_u (sg_u (σ 0) 2 (1 : Int32)) 3 p1)) 0 (sg_u (sg_u (sg_u (σ 0) 2 (1 : Int32)) 3 p1) 4 p2)) 3 (upd (σ 3) (p1).toNatClampNeg (((σ 3) (p1).toNatClampNeg) + (1 : Int32))))).bind fun r_9 => (some (r_9, (sg_a (sg_a (sg_a (sg_a σ 0 (sg_u (σ 0) 2 (1 : Int32))) 0 (sg_u (sg_u (σ 0) 2 (1 : Int32)) 3 p1)) 0 (sg_u (sg_u (sg_u (σ 0) 2 (1 : Int32)) 3 p1) 4 p2)) 3 (upd (σ 3) (p1).toNatClampNeg (((σ 3) (p1).toNatClampNeg) + (1 : Int32)))))))) else (some ((-10003 : Int32), σ))) else (some ((-10003 : Int32), σ))) else (some ((-10002 : Int32), σ))))))
set_option maxRecDepth 100000 in
set_option maxHeartbeats 4000000 in
theorem mX2_beginRound (l : Launch) (D : va_G) (cI : ClassId) (h : Nat → Nat) (σ : sg_T) (p1 p2 : Int32) (r : Int32) (σ' : sg_T) (hrun : fX2_beginRound p1 p2 σ = some (r, σ')) : me_I l D (tS cI) yX2_beginRound cX2_beginRound 3 .int 6 127 (wS cI h σ) [.ref (h 0), .int p1, .int p2] r (wS cI h σ') := by
  refine me_ofI (plainFor_of_name (by decide)) (Nat.le_of_ble_eq_true rfl) ?_
  intro p e s m args below meth c A ls S hK Y hA hl hr hlk hZ
  have hx := S.1
  have hb := S.2.1
  have hl : lv_has ls 3 [(0, .ref (h 0)), (1, .int p1), (2, .int p2)] := hl
  unfold fX2_beginRound at hrun
  refine lv_aload_n hx hb dX2_beginRound_0 rfl (lv_at hl 0 rfl) ?_
  refine lv_iload_n hx hb dX2_beginRound_1 rfl (lv_at hl 1 rfl) ?_
  obtain ⟨r_1, e_2, hrun⟩ := o_bh hrun
  refine cf_v (As := [.int p1]) (rest := []) S hK hA hZ Y hl.1 (mX5_isPlayer l D cI h σ p1 r_1 e_2) kX2_32 (T := TX5) (N := 16) rfl (q0 := 0) rfl ⟨Nat.le_of_ble_eq_true rfl, Nat.le_of_ble_eq_true rfl⟩ rfl rfl (Nat.le_of_ble_eq_true rfl) ⟨Nat.le_of_ble_eq_true rfl, Nat.le_of_ble_eq_true rfl⟩ dX2_beginRound_2 (fun H locs Y => ?_)
  refine lv_if_ne (tgt := 12) hx hb dX2_beginRound_5 (by decide) (fun c_3 => ?_) (fun c_3 => ?_)
  · have hrun := o_f hrun c_3
    refine lv_iload_n hx hb dX2_beginRound_12 rfl (lv_at hl 2 rfl) ?_
    refine lv_iconst (v := (1 : Int32)) hx hb dX2_beginRound_13 (by decide) ?_
    refine lv_icmp_lt (tgt := 23) hx hb dX2_beginRound_14 (by decide) (fun c_4 => ?_) (fun c_4 => ?_)
    · have hrun := o_t hrun c_4
      refine lv_sipush (v := (-10002 : Int32)) hx hb dX2_beginRound_23 (by decide) ?_
      cases hrun
      exact me_ri S hK Y hr hlk rfl dX2_beginRound_26
    · have hrun := o_f hrun c_4
      refine lv_iload_n hx hb dX2_beginRound_17 rfl (lv_at hl 2 rfl) ?_
      refine lv_bipush (v := (8 : Int32)) hx hb dX2_beginRound_18 (by decide) ?_
      refine lv_icmp_le (tgt := 27) hx hb dX2_beginRound_20 (by decide) (fun c_5 => ?_) (fun c_5 => ?_)
      · have hrun := o_t hrun c_5
        refine lv_aload_n hx hb dX2_beginRound_27 rfl (lv_at hl 0 rfl) ?_
        refine ig S hK Y fX2_25 0 rfl (v := .int (σ 0 2)) rfl dX2_beginRound_28 ?_
        refine lv_if_ne (tgt := 42) hx hb dX2_beginRound_31 (by decide) (fun c_6 => ?_) (fun c_6 => ?_)
        · have hrun := o_f hrun c_6
          refine lv_sipush (v := (-10003 : Int32)) hx hb dX2_beginRound_42 (by decide) ?_
          cases hrun
          exact me_ri S hK Y hr hlk rfl dX2_beginRound_45
        · have hrun := o_t hrun c_6
          refine lv_aload_n hx hb dX2_beginRound_34 rfl (lv_at hl 0 rfl) ?_
          refine ig S hK Y fX2_29 0 rfl (v := .int (σ 0 0)) rfl dX2_beginRound_35 ?_
          refine lv_iconst (v := (2 : Int32)) hx hb dX2_beginRound_38 (by decide) ?_
          refine lv_icmp_ge (tgt := 46) hx hb dX2_beginRound_39 (by decide) (fun c_7 => ?_) (fun c_7 => ?_)
          · have hrun := o_t hrun c_7
            refine lv_aload_n hx hb dX2_beginRound_46 rfl (lv_at hl 0 rfl) ?_
            refine lv_iconst (v := (1 : Int32)) hx hb dX2_beginRound_47 (by decide) ?_
            refine ip S hK Y fX2_25 fpX5 rfl 0 (fs := vS h (σ 0)) rfl rfl rfl (Nat.le_of_ble_eq_true rfl) (ws' := (wS cI h (sg_a σ 0 (sg_u (σ 0) 2 (1 : Int32))))) (wS_f2 _ _ _ _) dX2_beginRound_48 (fun H locs Y => ?_)
            refine lv_aload_n hx hb dX2_beginRound_51 rfl (lv_at hl 0 rfl) ?_
            refine lv_iload_n hx hb dX2_beginRound_52 rfl (lv_at hl 1 rfl) ?_
            refine ip S hK Y fX2_35 fpX5 rfl 0 (fs := vS h (sg_u (σ 0) 2 (1 : Int32))) rfl rfl rfl (Nat.le_of_ble_eq_true rfl) (ws' := (wS cI h (sg_a (sg_a σ 0 (sg_u (σ 0) 2 (1 : Int32))) 0 (sg_u (sg_u (σ 0) 2 (1 : Int32)) 3 p1)))) (wS_f3 _ _ _ _) dX2_beginRound_53 (fun H locs Y => ?_)
            refine lv_aload_n hx hb dX2_beginRound_56 rfl (lv_at hl 0 rfl) ?_
            refine lv_iload_n hx hb dX2_beginRound_57 rfl (lv_at hl 2 rfl) ?_
            refine ip S hK Y fX2_38 fpX5 rfl 0 (fs := vS h (sg_u (sg_u (σ 0) 2 (1 : Int32)) 3 p1)) rfl rfl rfl (Nat.le_of_ble_eq_true rfl) (ws' := (wS cI h (sg_a (sg_a (sg_a σ 0 (sg_u (σ 0) 2 (1 : Int32))) 0 (sg_u (sg_u (σ 0) 2 (1 : Int32)) 3 p1)) 0 (sg_u (sg_u (sg_u (σ 0) 2 (1 : Int32)) 3 p1) 4 p2)))) (wS_f4 _ _ _ _) dX2_beginRound_58 (fun H locs Y => ?_)
            refine lv_aload_n hx hb dX2_beginRound_61 rfl (lv_at hl 0 rfl) ?_
            refine ig S hK Y fX2_41 0 rfl (v := .ref (h 3)) rfl dX2_beginRound_62 ?_
            refine lv_iload_n hx hb dX2_beginRound_65 rfl (lv_at hl 1 rfl) ?_
            refine lv_dup2_11 hx hb dX2_beginRound_66 rfl rfl ?_
            obtain ⟨b_8, hrun⟩ := o_xh hrun
            refine ia S hK Y 3 0 (f := (σ 3)) rfl rfl b_8 dX2_beginRound_67 ?_
            refine lv_iconst (v := (1 : Int32)) hx hb dX2_beginRound_68 (by decide) ?_
            refine lv_iadd hx hb dX2_beginRound_69 ?_
            refine iw S hK Y 3 0 (f := (σ 3)) rfl rfl b_8 (ws' := (wS cI h (sg_a (sg_a (sg_a (sg_a σ 0 (sg_u (σ 0) 2 (1 : Int32))) 0 (sg_u (sg_u (σ 0) 2 (1 : Int32)) 3 p1)) 0 (sg_u (sg_u (sg_u (σ 0) 2 (1 : Int32)) 3 p1) 4 p2)) 3 (upd (σ 3) (p1).toNatClampNeg (((σ 3) (p1).toNatClampNeg) + (1 : Int32)))))) (wS_a3 _ _ _) dX2_beginRound_70 (fun H locs Y => ?_)
            refine lv_aload_n hx hb dX2_beginRound_71 rfl (lv_at hl 0 rfl) ?_
            obtain ⟨r_9, e_10, hrun⟩ := o_bh hrun
            refine cf_s (As := [.ref (h 0)]) (rest := []) S hK hA hZ Y hl.1 (mX2_countHidingSpots l D cI h (sg_a (sg_a (sg_a (sg_a σ 0 (sg_u (σ 0) 2 (1 : Int32))) 0 (sg_u (sg_u (σ 0) 2 (1 : Int32)) 3 p1)) 0 (sg_u (sg_u (sg_u (σ 0) 2 (1 : Int32)) 3 p1) 4 p2)) 3 (upd (σ 3) (p1).toNatClampNeg (((σ 3) (p1).toNatClampNeg) + (1 : Int32)))) r_9 e_10) kX2_44 ⟨Nat.le_of_ble_eq_true rfl, Nat.le_of_ble_eq_true rfl⟩ rfl rfl (Nat.le_of_ble_eq_true rfl) ⟨Nat.le_of_ble_eq_true rfl, Nat.le_of_ble_eq_true rfl⟩ dX2_beginRound_72 (fun H locs Y => ?_)
            cases hrun
            exact me_ri S hK Y hr hlk rfl dX2_beginRound_75
          · have hrun := o_f hrun c_7
            refine lv_sipush (v := (-10003 : Int32)) hx hb dX2_beginRound_42 (by decide) ?_
            cases hrun
            exact me_ri S hK Y hr hlk rfl dX2_beginRound_45
      · have hrun := o_f hrun c_5
        refine lv_sipush (v := (-10002 : Int32)) hx hb dX2_beginRound_23 (by decide) ?_
        cases hrun
        exact me_ri S hK Y hr hlk rfl dX2_beginRound_26
  · have hrun := o_t hrun c_3
    refine lv_sipush (v := (-10001 : Int32)) hx hb dX2_beginRound_8 (by decide) ?_
    cases hrun
    exact me_ri S hK Y hr hlk rfl dX2_beginRound_11
def fX2_cryName (p1 p2 : Int32) (σ : sg_T) : Option (Int32 × sg_T) := ((fX5_isPlayer p1 σ).bind fun r_1 => (if r_1 = 0 then (some ((-10001 : Int32), σ)) else ((fX6_isSpot p2).bind fun r_4 => (if r_4 = 0 then (some ((-10001 : Int32), σ)) else (if (σ 0 2) = (2 : Int32) then (if p1 = (σ 0 3) then (some ((-10003 : Int32), σ)) else ((fX5_seekerSees p2 σ).bind fun r_9 => (if r_9 = 0 then (some ((-10003 : Int32), σ)) else (o_x p1 8 (if ((σ 7) (p1).toNatClampNeg) = p2 then ((fX2_countFindOfSpot p2 σ).bind fun σ14 => ((fX2_findPlayer p1 (2 : Int32) σ14).bind fun σ16 => (some ((1 : Int32), σ16)))) else ((fX2_countFalseCry σ).bind fun σ18 => (some ((0 : Int32), σ18)))))))) else (some ((-10003 : Int32), σ)))))))
set_option maxRecDepth 100000 in
set_option maxHeartbeats 4000000 in
theorem mX2_cryName (l : Launch) (D : va_G) (cI : ClassId) (h : Nat → Nat) (σ : sg_T) (p1 p2 : Int32) (r : Int32) (σ' : sg_T) (hrun : fX2_cryName p1 p2 σ = some (r, σ')) : me_I l D (tS cI) yX2_cryName cX2_cryName 3 .int 5 106 (wS cI h σ) [.ref (h 0), .int p1, .int p2] r (wS cI h σ') := by
  refine me_ofI (plainFor_of_name (by decide)) (Nat.le_of_ble_eq_true rfl) ?_
  intro p e s m args below meth c A ls S hK Y hA hl hr hlk hZ
  have hx := S.1
  have hb := S.2.1
  have hl : lv_has ls 3 [(0, .ref (h 0)), (1, .int p1), (2, .int p2)] := hl
  unfold fX2_cryName at hrun
  refine lv_aload_n hx hb dX2_cryName_0 rfl (lv_at hl 0 rfl) ?_
  refine lv_iload_n hx hb dX2_cryName_1 rfl (lv_at hl 1 rfl) ?_
  obtain ⟨r_1, e_2, hrun⟩ := o_bh hrun
  refine cf_v (As := [.int p1]) (rest := []) S hK hA hZ Y hl.1 (mX5_isPlayer l D cI h σ p1 r_1 e_2) kX2_32 (T := TX5) (N := 16) rfl (q0 := 0) rfl ⟨Nat.le_of_ble_eq_true rfl, Nat.le_of_ble_eq_true rfl⟩ rfl rfl (Nat.le_of_ble_eq_true rfl) ⟨Nat.le_of_ble_eq_true rfl, Nat.le_of_ble_eq_true rfl⟩ dX2_cryName_2 (fun H locs Y => ?_)
  refine lv_if_eq (tgt := 15) hx hb dX2_cryName_5 (by decide) (fun c_3 => ?_) (fun c_3 => ?_)
  · have hrun := o_t hrun c_3
    refine lv_sipush (v := (-10001 : Int32)) hx hb dX2_cryName_15 (by decide) ?_
    cases hrun
    exact me_ri S hK Y hr hlk rfl dX2_cryName_18
  · have hrun := o_f hrun c_3
    refine lv_iload_n hx hb dX2_cryName_8 rfl (lv_at hl 2 rfl) ?_
    obtain ⟨r_4, e_5, hrun⟩ := o_bh hrun
    refine cp_s (As := [.int p2]) (rest := []) S hK hA hZ Y hl.1 (mX6_isSpot l D p2 r_4 e_5) kX2_55 ⟨Nat.le_of_ble_eq_true rfl, Nat.le_of_ble_eq_true rfl⟩ rfl rfl (Nat.le_of_ble_eq_true rfl) ⟨Nat.le_of_ble_eq_true rfl, Nat.le_of_ble_eq_true rfl⟩ dX2_cryName_9 (fun H locs Y => ?_)
    refine lv_if_ne (tgt := 19) hx hb dX2_cryName_12 (by decide) (fun c_6 => ?_) (fun c_6 => ?_)
    · have hrun := o_f hrun c_6
      refine lv_aload_n hx hb dX2_cryName_19 rfl (lv_at hl 0 rfl) ?_
      refine ig S hK Y fX2_25 0 rfl (v := .int (σ 0 2)) rfl dX2_cryName_20 ?_
      refine lv_iconst (v := (2 : Int32)) hx hb dX2_cryName_23 (by decide) ?_
      refine lv_icmp_ne (tgt := 43) hx hb dX2_cryName_24 (by decide) (fun c_7 => ?_) (fun c_7 => ?_)
      · have hrun := o_f hrun c_7
        refine lv_sipush (v := (-10003 : Int32)) hx hb dX2_cryName_43 (by decide) ?_
        cases hrun
        exact me_ri S hK Y hr hlk rfl dX2_cryName_46
      · have hrun := o_t hrun c_7
        refine lv_iload_n hx hb dX2_cryName_27 rfl (lv_at hl 1 rfl) ?_
        refine lv_aload_n hx hb dX2_cryName_28 rfl (lv_at hl 0 rfl) ?_
        refine ig S hK Y fX2_35 0 rfl (v := .int (σ 0 3)) rfl dX2_cryName_29 ?_
        refine lv_icmp_eq (tgt := 43) hx hb dX2_cryName_32 (by decide) (fun c_8 => ?_) (fun c_8 => ?_)
        · have hrun := o_t hrun c_8
          refine lv_sipush (v := (-10003 : Int32)) hx hb dX2_cryName_43 (by decide) ?_
          cases hrun
          exact me_ri S hK Y hr hlk rfl dX2_cryName_46
        · have hrun := o_f hrun c_8
          refine lv_aload_n hx hb dX2_cryName_35 rfl (lv_at hl 0 rfl) ?_
          refine lv_iload_n hx hb dX2_cryName_36 rfl (lv_at hl 2 rfl) ?_
          obtain ⟨r_9, e_10, hrun⟩ := o_bh hrun
          refine cf_v (As := [.int p2]) (rest := []) S hK hA hZ Y hl.1 (mX5_seekerSees l D cI h σ p2 r_9 e_10) kX2_89 (T := TX5) (N := 16) rfl (q0 := 0) rfl ⟨Nat.le_of_ble_eq_true rfl, Nat.le_of_ble_eq_true rfl⟩ rfl rfl (Nat.le_of_ble_eq_true rfl) ⟨Nat.le_of_ble_eq_true rfl, Nat.le_of_ble_eq_true rfl⟩ dX2_cryName_37 (fun H locs Y => ?_)
          refine lv_if_ne (tgt := 47) hx hb dX2_cryName_40 (by decide) (fun c_11 => ?_) (fun c_11 => ?_)
          · have hrun := o_f hrun c_11
            refine lv_aload_n hx hb dX2_cryName_47 rfl (lv_at hl 0 rfl) ?_
            refine ig S hK Y fX2_67 0 rfl (v := .ref (h 7)) rfl dX2_cryName_48 ?_
            refine lv_iload_n hx hb dX2_cryName_51 rfl (lv_at hl 1 rfl) ?_
            obtain ⟨b_12, hrun⟩ := o_xh hrun
            refine ia S hK Y 7 0 (f := (σ 7)) rfl rfl b_12 dX2_cryName_52 ?_
            refine lv_iload_n hx hb dX2_cryName_53 rfl (lv_at hl 2 rfl) ?_
            refine lv_icmp_eq (tgt := 63) hx hb dX2_cryName_54 (by decide) (fun c_13 => ?_) (fun c_13 => ?_)
            · have hrun := o_t hrun c_13
              refine lv_aload_n hx hb dX2_cryName_63 rfl (lv_at hl 0 rfl) ?_
              refine lv_iload_n hx hb dX2_cryName_64 rfl (lv_at hl 2 rfl) ?_
              obtain ⟨σ14, e_15, hrun⟩ := o_bh hrun
              refine cf_sv (As := [.ref (h 0), .int p2]) (rest := []) S hK hA hZ Y hl.1 (mX2_countFindOfSpot l D cI h σ p2 σ14 e_15) kX2_95 ⟨Nat.le_of_ble_eq_true rfl, Nat.le_of_ble_eq_true rfl⟩ rfl rfl (Nat.le_of_ble_eq_true rfl) ⟨Nat.le_of_ble_eq_true rfl, Nat.le_of_ble_eq_true rfl⟩ dX2_cryName_65 (fun H locs Y => ?_)
              refine lv_aload_n hx hb dX2_cryName_68 rfl (lv_at hl 0 rfl) ?_
              refine lv_iload_n hx hb dX2_cryName_69 rfl (lv_at hl 1 rfl) ?_
              refine lv_iconst (v := (2 : Int32)) hx hb dX2_cryName_70 (by decide) ?_
              obtain ⟨σ16, e_17, hrun⟩ := o_bh hrun
              refine cf_sv (As := [.ref (h 0), .int p1, .int (2 : Int32)]) (rest := []) S hK hA hZ Y hl.1 (mX2_findPlayer l D cI h σ14 p1 (2 : Int32) σ16 e_17) kX2_99 ⟨Nat.le_of_ble_eq_true rfl, Nat.le_of_ble_eq_true rfl⟩ rfl rfl (Nat.le_of_ble_eq_true rfl) ⟨Nat.le_of_ble_eq_true rfl, Nat.le_of_ble_eq_true rfl⟩ dX2_cryName_71 (fun H locs Y => ?_)
              refine lv_iconst (v := (1 : Int32)) hx hb dX2_cryName_74 (by decide) ?_
              cases hrun
              exact me_ri S hK Y hr hlk rfl dX2_cryName_75
            · have hrun := o_f hrun c_13
              refine lv_aload_n hx hb dX2_cryName_57 rfl (lv_at hl 0 rfl) ?_
              obtain ⟨σ18, e_19, hrun⟩ := o_bh hrun
              refine cf_sv (As := [.ref (h 0)]) (rest := []) S hK hA hZ Y hl.1 (mX2_countFalseCry l D cI h σ σ18 e_19) kX2_92 ⟨Nat.le_of_ble_eq_true rfl, Nat.le_of_ble_eq_true rfl⟩ rfl rfl (Nat.le_of_ble_eq_true rfl) ⟨Nat.le_of_ble_eq_true rfl, Nat.le_of_ble_eq_true rfl⟩ dX2_cryName_58 (fun H locs Y => ?_)
              refine lv_iconst (v := (0 : Int32)) hx hb dX2_cryName_61 (by decide) ?_
              cases hrun
              exact me_ri S hK Y hr hlk rfl dX2_cryName_62
          · have hrun := o_t hrun c_11
            refine lv_sipush (v := (-10003 : Int32)) hx hb dX2_cryName_43 (by decide) ?_
            cases hrun
            exact me_ri S hK Y hr hlk rfl dX2_cryName_46
    · have hrun := o_t hrun c_6
      refine lv_sipush (v := (-10001 : Int32)) hx hb dX2_cryName_15 (by decide) ?_
      cases hrun
      exact me_ri S hK Y hr hlk rfl dX2_cryName_18
def fX2_dashHome (p1 : Int32) (σ : sg_T) : Option (Int32 × sg_T) := ((fX5_isPlayer p1 σ).bind fun r_1 => (if r_1 = 0 then (some ((-10001 : Int32), σ)) else (if (σ 0 2) = (2 : Int32) then ((fX5_isHidden p1 σ).bind fun r_5 => (if r_5 = 0 then (some ((-10003 : Int32), σ)) else ((fX5_wouldEscape p1 σ).bind fun r_8 => (if r_8 = 0 then ((fX2_findPlayer p1 (1 : Int32) σ).bind fun σ15 => (some ((0 : Int32), σ15))) else ((fX2_escape p1 (3 : Int32) σ).bind fun σ11 => ((fX2_endRoundIfNobodyIsHidden σ11).bind fun σ13 => (some ((1 : Int32), σ13)))))))) else (some ((-10003 : Int32), σ)))))
set_option maxRecDepth 100000 in
set_option maxHeartbeats 4000000 in
theorem mX2_dashHome (l : Launch) (D : va_G) (cI : ClassId) (h : Nat → Nat) (σ : sg_T) (p1 : Int32) (r : Int32) (σ' : sg_T) (hrun : fX2_dashHome p1 σ = some (r, σ')) : me_I l D (tS cI) yX2_dashHome cX2_dashHome 2 .int 5 106 (wS cI h σ) [.ref (h 0), .int p1] r (wS cI h σ') := by
  refine me_ofI (plainFor_of_name (by decide)) (Nat.le_of_ble_eq_true rfl) ?_
  intro p e s m args below meth c A ls S hK Y hA hl hr hlk hZ
  have hx := S.1
  have hb := S.2.1
  have hl : lv_has ls 2 [(0, .ref (h 0)), (1, .int p1)] := hl
  unfold fX2_dashHome at hrun
  refine lv_aload_n hx hb dX2_dashHome_0 rfl (lv_at hl 0 rfl) ?_
  refine lv_iload_n hx hb dX2_dashHome_1 rfl (lv_at hl 1 rfl) ?_
  obtain ⟨r_1, e_2, hrun⟩ := o_bh hrun
  refine cf_v (As := [.int p1]) (rest := []) S hK hA hZ Y hl.1 (mX5_isPlayer l D cI h σ p1 r_1 e_2) kX2_32 (T := TX5) (N := 16) rfl (q0 := 0) rfl ⟨Nat.le_of_ble_eq_true rfl, Nat.le_of_ble_eq_true rfl⟩ rfl rfl (Nat.le_of_ble_eq_true rfl) ⟨Nat.le_of_ble_eq_true rfl, Nat.le_of_ble_eq_true rfl⟩ dX2_dashHome_2 (fun H locs Y => ?_)
  refine lv_if_ne (tgt := 12) hx hb dX2_dashHome_5 (by decide) (fun c_3 => ?_) (fun c_3 => ?_)
  · have hrun := o_f hrun c_3
    refine lv_aload_n hx hb dX2_dashHome_12 rfl (lv_at hl 0 rfl) ?_
    refine ig S hK Y fX2_25 0 rfl (v := .int (σ 0 2)) rfl dX2_dashHome_13 ?_
    refine lv_iconst (v := (2 : Int32)) hx hb dX2_dashHome_16 (by decide) ?_
    refine lv_icmp_ne (tgt := 28) hx hb dX2_dashHome_17 (by decide) (fun c_4 => ?_) (fun c_4 => ?_)
    · have hrun := o_f hrun c_4
      refine lv_sipush (v := (-10003 : Int32)) hx hb dX2_dashHome_28 (by decide) ?_
      cases hrun
      exact me_ri S hK Y hr hlk rfl dX2_dashHome_31
    · have hrun := o_t hrun c_4
      refine lv_aload_n hx hb dX2_dashHome_20 rfl (lv_at hl 0 rfl) ?_
      refine lv_iload_n hx hb dX2_dashHome_21 rfl (lv_at hl 1 rfl) ?_
      obtain ⟨r_5, e_6, hrun⟩ := o_bh hrun
      refine cf_v (As := [.int p1]) (rest := []) S hK hA hZ Y hl.1 (mX5_isHidden l D cI h σ p1 r_5 e_6) kX2_58 (T := TX5) (N := 16) rfl (q0 := 0) rfl ⟨Nat.le_of_ble_eq_true rfl, Nat.le_of_ble_eq_true rfl⟩ rfl rfl (Nat.le_of_ble_eq_true rfl) ⟨Nat.le_of_ble_eq_true rfl, Nat.le_of_ble_eq_true rfl⟩ dX2_dashHome_22 (fun H locs Y => ?_)
      refine lv_if_ne (tgt := 32) hx hb dX2_dashHome_25 (by decide) (fun c_7 => ?_) (fun c_7 => ?_)
      · have hrun := o_f hrun c_7
        refine lv_aload_n hx hb dX2_dashHome_32 rfl (lv_at hl 0 rfl) ?_
        refine lv_iload_n hx hb dX2_dashHome_33 rfl (lv_at hl 1 rfl) ?_
        obtain ⟨r_8, e_9, hrun⟩ := o_bh hrun
        refine cf_v (As := [.int p1]) (rest := []) S hK hA hZ Y hl.1 (mX5_wouldEscape l D cI h σ p1 r_8 e_9) kX2_103 (T := TX5) (N := 16) rfl (q0 := 0) rfl ⟨Nat.le_of_ble_eq_true rfl, Nat.le_of_ble_eq_true rfl⟩ rfl rfl (Nat.le_of_ble_eq_true rfl) ⟨Nat.le_of_ble_eq_true rfl, Nat.le_of_ble_eq_true rfl⟩ dX2_dashHome_34 (fun H locs Y => ?_)
        refine lv_if_ne (tgt := 48) hx hb dX2_dashHome_37 (by decide) (fun c_10 => ?_) (fun c_10 => ?_)
        · have hrun := o_f hrun c_10
          refine lv_aload_n hx hb dX2_dashHome_48 rfl (lv_at hl 0 rfl) ?_
          refine lv_iload_n hx hb dX2_dashHome_49 rfl (lv_at hl 1 rfl) ?_
          refine lv_iconst (v := (3 : Int32)) hx hb dX2_dashHome_50 (by decide) ?_
          obtain ⟨σ11, e_12, hrun⟩ := o_bh hrun
          refine cf_sv (As := [.ref (h 0), .int p1, .int (3 : Int32)]) (rest := []) S hK hA hZ Y hl.1 (mX2_escape l D cI h σ p1 (3 : Int32) σ11 e_12) kX2_106 ⟨Nat.le_of_ble_eq_true rfl, Nat.le_of_ble_eq_true rfl⟩ rfl rfl (Nat.le_of_ble_eq_true rfl) ⟨Nat.le_of_ble_eq_true rfl, Nat.le_of_ble_eq_true rfl⟩ dX2_dashHome_51 (fun H locs Y => ?_)
          refine lv_aload_n hx hb dX2_dashHome_54 rfl (lv_at hl 0 rfl) ?_
          obtain ⟨σ13, e_14, hrun⟩ := o_bh hrun
          refine cf_sv (As := [.ref (h 0)]) (rest := []) S hK hA hZ Y hl.1 (mX2_endRoundIfNobodyIsHidden l D cI h σ11 σ13 e_14) kX2_81 ⟨Nat.le_of_ble_eq_true rfl, Nat.le_of_ble_eq_true rfl⟩ rfl rfl (Nat.le_of_ble_eq_true rfl) ⟨Nat.le_of_ble_eq_true rfl, Nat.le_of_ble_eq_true rfl⟩ dX2_dashHome_55 (fun H locs Y => ?_)
          refine lv_iconst (v := (1 : Int32)) hx hb dX2_dashHome_58 (by decide) ?_
          cases hrun
          exact me_ri S hK Y hr hlk rfl dX2_dashHome_59
        · have hrun := o_t hrun c_10
          refine lv_aload_n hx hb dX2_dashHome_40 rfl (lv_at hl 0 rfl) ?_
          refine lv_iload_n hx hb dX2_dashHome_41 rfl (lv_at hl 1 rfl) ?_
          refine lv_iconst (v := (1 : Int32)) hx hb dX2_dashHome_42 (by decide) ?_
          obtain ⟨σ15, e_16, hrun⟩ := o_bh hrun
          refine cf_sv (As := [.ref (h 0), .int p1, .int (1 : Int32)]) (rest := []) S hK hA hZ Y hl.1 (mX2_findPlayer l D cI h σ p1 (1 : Int32) σ15 e_16) kX2_99 ⟨Nat.le_of_ble_eq_true rfl, Nat.le_of_ble_eq_true rfl⟩ rfl rfl (Nat.le_of_ble_eq_true rfl) ⟨Nat.le_of_ble_eq_true rfl, Nat.le_of_ble_eq_true rfl⟩ dX2_dashHome_43 (fun H locs Y => ?_)
          refine lv_iconst (v := (0 : Int32)) hx hb dX2_dashHome_46 (by decide) ?_
          cases hrun
          exact me_ri S hK Y hr hlk rfl dX2_dashHome_47
      · have hrun := o_t hrun c_7
        refine lv_sipush (v := (-10003 : Int32)) hx hb dX2_dashHome_28 (by decide) ?_
        cases hrun
        exact me_ri S hK Y hr hlk rfl dX2_dashHome_31
  · have hrun := o_t hrun c_3
    refine lv_sipush (v := (-10001 : Int32)) hx hb dX2_dashHome_8 (by decide) ?_
    cases hrun
    exact me_ri S hK Y hr hlk rfl dX2_dashHome_11
