def fX2_addPlayer (σ : sg_T) : Option (Int32 × sg_T) := (if (σ 0 2) = 0 then (if (σ 0 0) < (8 : Int32) then (some ((σ 0 0), (sg_a σ 0 (sg_u (σ 0) 0 ((σ 0 0) + (1 : Int32)))))) else (some ((-10004 : Int32), σ))) else (some ((-10003 : Int32), σ)))
set_option maxRecDepth 100000 in
set_option maxHeartbeats 4000000 in
theorem mX2_addPlayer (l : Launch) (D : va_G) (cI : ClassId) (h : Nat → Nat) (σ : sg_T) (r : Int32) (σ' : sg_T) (hrun : fX2_addPlayer σ = some (r, σ')) : me_I l D (tS cI) yX2_addPlayer cX2_addPlayer 2 .int 0 0 (wS cI h σ) [.ref (h 0)] r (wS cI h σ') := by
  refine me_ofI (plainFor_of_name (by decide)) (Nat.le_of_ble_eq_true rfl) ?_
  intro p e s m args below meth c A ls S hK Y hA hl hr hlk hZ
  have hx := S.1
  have hb := S.2.1
  have hl : lv_has ls 2 [(0, .ref (h 0))] := hl
  unfold fX2_addPlayer at hrun
  refine lv_aload_n hx hb dX2_addPlayer_0 rfl (lv_at hl 0 rfl) ?_
  refine ig S hK Y fX2_25 0 rfl (v := .int (σ 0 2)) rfl dX2_addPlayer_1 ?_
  refine lv_if_eq (tgt := 11) hx hb dX2_addPlayer_4 (by decide) (fun c_1 => ?_) (fun c_1 => ?_)
  · have hrun := o_t hrun c_1
    refine lv_aload_n hx hb dX2_addPlayer_11 rfl (lv_at hl 0 rfl) ?_
    refine ig S hK Y fX2_29 0 rfl (v := .int (σ 0 0)) rfl dX2_addPlayer_12 ?_
    refine lv_bipush (v := (8 : Int32)) hx hb dX2_addPlayer_15 (by decide) ?_
    refine lv_icmp_lt (tgt := 24) hx hb dX2_addPlayer_17 (by decide) (fun c_2 => ?_) (fun c_2 => ?_)
    · have hrun := o_t hrun c_2
      refine lv_aload_n hx hb dX2_addPlayer_24 rfl (lv_at hl 0 rfl) ?_
      refine ig S hK Y fX2_29 0 rfl (v := .int (σ 0 0)) rfl dX2_addPlayer_25 ?_
      refine lv_istore_n (lv' := [(1, .int (σ 0 0)), (0, .ref (h 0))]) hx hb dX2_addPlayer_28 rfl hl (Nat.le_of_ble_eq_true rfl) rfl (fun ls hl => ?_)
      refine lv_aload_n hx hb dX2_addPlayer_29 rfl (lv_at hl 1 rfl) ?_
      refine lv_iload_n hx hb dX2_addPlayer_30 rfl (lv_at hl 0 rfl) ?_
      refine lv_iconst (v := (1 : Int32)) hx hb dX2_addPlayer_31 (by decide) ?_
      refine lv_iadd hx hb dX2_addPlayer_32 ?_
      refine ip S hK Y fX2_29 fpX5 rfl 0 (fs := vS h (σ 0)) rfl rfl rfl (Nat.le_of_ble_eq_true rfl) (ws' := (wS cI h (sg_a σ 0 (sg_u (σ 0) 0 ((σ 0 0) + (1 : Int32)))))) (wS_f0 _ _ _ _) dX2_addPlayer_33 (fun H locs Y => ?_)
      refine lv_iload_n hx hb dX2_addPlayer_36 rfl (lv_at hl 0 rfl) ?_
      cases hrun
      exact me_ri S hK Y hr hlk rfl dX2_addPlayer_37
    · have hrun := o_f hrun c_2
      refine lv_sipush (v := (-10004 : Int32)) hx hb dX2_addPlayer_20 (by decide) ?_
      cases hrun
      exact me_ri S hK Y hr hlk rfl dX2_addPlayer_23
  · have hrun := o_f hrun c_1
    refine lv_sipush (v := (-10003 : Int32)) hx hb dX2_addPlayer_7 (by decide) ?_
    cases hrun
    exact me_ri S hK Y hr hlk rfl dX2_addPlayer_10
def fX2_escape (p1 p2 : Int32) (σ : sg_T) : Option (sg_T) := (o_x p1 8 (some ((sg_a (sg_a (sg_a σ 7 (upd (σ 7) (p1).toNatClampNeg (-10006 : Int32))) 2 (upd (σ 2) (p1).toNatClampNeg (((σ 2) (p1).toNatClampNeg) + p2))) 6 (upd (σ 6) (p1).toNatClampNeg (((σ 6) (p1).toNatClampNeg) + (1 : Int32)))))))
set_option maxRecDepth 100000 in
set_option maxHeartbeats 4000000 in
theorem mX2_escape (l : Launch) (D : va_G) (cI : ClassId) (h : Nat → Nat) (σ : sg_T) (p1 p2 : Int32) (σ' : sg_T) (hrun : fX2_escape p1 p2 σ = some σ') : me_V l D (tS cI) yX2_escape cX2_escape 3 0 0 (wS cI h σ) [.ref (h 0), .int p1, .int p2] (wS cI h σ') := by
  refine me_ofV (plainFor_of_name (by decide)) (Nat.le_of_ble_eq_true rfl) ?_
  intro p e s m args below meth c A ls S hK Y hA hl hr hlk hZ
  have hx := S.1
  have hb := S.2.1
  have hl : lv_has ls 3 [(0, .ref (h 0)), (1, .int p1), (2, .int p2)] := hl
  unfold fX2_escape at hrun
  refine lv_aload_n hx hb dX2_escape_0 rfl (lv_at hl 0 rfl) ?_
  refine ig S hK Y fX2_67 0 rfl (v := .ref (h 7)) rfl dX2_escape_1 ?_
  refine lv_iload_n hx hb dX2_escape_4 rfl (lv_at hl 1 rfl) ?_
  refine lv_sipush (v := (-10006 : Int32)) hx hb dX2_escape_5 (by decide) ?_
  obtain ⟨b_1, hrun⟩ := o_xh hrun
  refine iw S hK Y 7 0 (f := (σ 7)) rfl rfl b_1 (ws' := (wS cI h (sg_a σ 7 (upd (σ 7) (p1).toNatClampNeg (-10006 : Int32))))) (wS_a7 _ _ _) dX2_escape_8 (fun H locs Y => ?_)
  refine lv_aload_n hx hb dX2_escape_9 rfl (lv_at hl 0 rfl) ?_
  refine ig S hK Y fX2_109 0 rfl (v := .ref (h 2)) rfl dX2_escape_10 ?_
  refine lv_iload_n hx hb dX2_escape_13 rfl (lv_at hl 1 rfl) ?_
  refine lv_dup2_11 hx hb dX2_escape_14 rfl rfl ?_
  refine ia S hK Y 2 0 (f := (σ 2)) rfl rfl b_1 dX2_escape_15 ?_
  refine lv_iload_n hx hb dX2_escape_16 rfl (lv_at hl 2 rfl) ?_
  refine lv_iadd hx hb dX2_escape_17 ?_
  refine iw S hK Y 2 0 (f := (σ 2)) rfl rfl b_1 (ws' := (wS cI h (sg_a (sg_a σ 7 (upd (σ 7) (p1).toNatClampNeg (-10006 : Int32))) 2 (upd (σ 2) (p1).toNatClampNeg (((σ 2) (p1).toNatClampNeg) + p2))))) (wS_a2 _ _ _) dX2_escape_18 (fun H locs Y => ?_)
  refine lv_aload_n hx hb dX2_escape_19 rfl (lv_at hl 0 rfl) ?_
  refine ig S hK Y fX2_136 0 rfl (v := .ref (h 6)) rfl dX2_escape_20 ?_
  refine lv_iload_n hx hb dX2_escape_23 rfl (lv_at hl 1 rfl) ?_
  refine lv_dup2_11 hx hb dX2_escape_24 rfl rfl ?_
  refine ia S hK Y 6 0 (f := (σ 6)) rfl rfl b_1 dX2_escape_25 ?_
  refine lv_iconst (v := (1 : Int32)) hx hb dX2_escape_26 (by decide) ?_
  refine lv_iadd hx hb dX2_escape_27 ?_
  refine iw S hK Y 6 0 (f := (σ 6)) rfl rfl b_1 (ws' := (wS cI h (sg_a (sg_a (sg_a σ 7 (upd (σ 7) (p1).toNatClampNeg (-10006 : Int32))) 2 (upd (σ 2) (p1).toNatClampNeg (((σ 2) (p1).toNatClampNeg) + p2))) 6 (upd (σ 6) (p1).toNatClampNeg (((σ 6) (p1).toNatClampNeg) + (1 : Int32)))))) (wS_a6 _ _ _) dX2_escape_28 (fun H locs Y => ?_)
  cases hrun
  exact me_rv S hK Y hr hlk dX2_escape_29
def fX2_restSpot (p1 : Int32) (σ : sg_T) : Option (sg_T) := (o_x p1 16 (if ((σ 1) ((2 : Int32)).toNatClampNeg) = 0 then (some ((sg_a σ 9 (upd (σ 9) (p1).toNatClampNeg (((σ 9) (p1).toNatClampNeg) + (1 : Int32)))))) else (if ((upd (σ 9) (p1).toNatClampNeg (((σ 9) (p1).toNatClampNeg) + (1 : Int32))) (p1).toNatClampNeg) < ((σ 1) ((2 : Int32)).toNatClampNeg) then (some ((sg_a σ 9 (upd (σ 9) (p1).toNatClampNeg (((σ 9) (p1).toNatClampNeg) + (1 : Int32)))))) else (some ((sg_a (sg_a (sg_a σ 9 (upd (σ 9) (p1).toNatClampNeg (((σ 9) (p1).toNatClampNeg) + (1 : Int32)))) 9 (upd (upd (σ 9) (p1).toNatClampNeg (((σ 9) (p1).toNatClampNeg) + (1 : Int32))) (p1).toNatClampNeg (-1 : Int32))) 8 (upd (σ 8) (p1).toNatClampNeg (0 : Int32))))))))
set_option maxRecDepth 100000 in
set_option maxHeartbeats 4000000 in
theorem mX2_restSpot (l : Launch) (D : va_G) (cI : ClassId) (h : Nat → Nat) (σ : sg_T) (p1 : Int32) (σ' : sg_T) (hrun : fX2_restSpot p1 σ = some σ') : me_V l D (tS cI) yX2_restSpot cX2_restSpot 3 0 0 (wS cI h σ) [.ref (h 0), .int p1] (wS cI h σ') := by
  refine me_ofV (plainFor_of_name (by decide)) (Nat.le_of_ble_eq_true rfl) ?_
  intro p e s m args below meth c A ls S hK Y hA hl hr hlk hZ
  have hx := S.1
  have hb := S.2.1
  have hl : lv_has ls 3 [(0, .ref (h 0)), (1, .int p1)] := hl
  unfold fX2_restSpot at hrun
  refine lv_aload_n hx hb dX2_restSpot_0 rfl (lv_at hl 0 rfl) ?_
  refine ig S hK Y fX2_121 0 rfl (v := .ref (h 9)) rfl dX2_restSpot_1 ?_
  refine lv_iload_n hx hb dX2_restSpot_4 rfl (lv_at hl 1 rfl) ?_
  refine lv_dup2_11 hx hb dX2_restSpot_5 rfl rfl ?_
  obtain ⟨b_1, hrun⟩ := o_xh hrun
  refine ia S hK Y 9 0 (f := (σ 9)) rfl rfl b_1 dX2_restSpot_6 ?_
  refine lv_iconst (v := (1 : Int32)) hx hb dX2_restSpot_7 (by decide) ?_
  refine lv_iadd hx hb dX2_restSpot_8 ?_
  refine iw S hK Y 9 0 (f := (σ 9)) rfl rfl b_1 (ws' := (wS cI h (sg_a σ 9 (upd (σ 9) (p1).toNatClampNeg (((σ 9) (p1).toNatClampNeg) + (1 : Int32)))))) (wS_a9 _ _ _) dX2_restSpot_9 (fun H locs Y => ?_)
  refine lv_aload_n hx hb dX2_restSpot_10 rfl (lv_at hl 0 rfl) ?_
  refine ig S hK Y fX2_22 0 rfl (v := .ref (h 1)) rfl dX2_restSpot_11 ?_
  refine lv_iconst (v := (2 : Int32)) hx hb dX2_restSpot_14 (by decide) ?_
  refine ia S hK Y 1 0 (f := (σ 1)) rfl rfl (show ¬ ((2 : Int32) < 0 ∨ 4 ≤ ((2 : Int32)).toNatClampNeg) by decide) dX2_restSpot_15 ?_
  refine lv_istore_n (lv' := [(2, .int ((σ 1) ((2 : Int32)).toNatClampNeg)), (0, .ref (h 0)), (1, .int p1)]) hx hb dX2_restSpot_16 rfl hl (Nat.le_of_ble_eq_true rfl) rfl (fun ls hl => ?_)
  refine lv_iload_n hx hb dX2_restSpot_17 rfl (lv_at hl 0 rfl) ?_
  refine lv_if_eq (tgt := 45) hx hb dX2_restSpot_18 (by decide) (fun c_2 => ?_) (fun c_2 => ?_)
  · have hrun := o_t hrun c_2
    cases hrun
    exact me_rv S hK Y hr hlk dX2_restSpot_45
  · have hrun := o_f hrun c_2
    refine lv_aload_n hx hb dX2_restSpot_21 rfl (lv_at hl 1 rfl) ?_
    refine ig S hK Y fX2_121 0 rfl (v := .ref (h 9)) rfl dX2_restSpot_22 ?_
    refine lv_iload_n hx hb dX2_restSpot_25 rfl (lv_at hl 2 rfl) ?_
    refine ia S hK Y 9 0 (f := (upd (σ 9) (p1).toNatClampNeg (((σ 9) (p1).toNatClampNeg) + (1 : Int32)))) rfl rfl b_1 dX2_restSpot_26 ?_
    refine lv_iload_n hx hb dX2_restSpot_27 rfl (lv_at hl 0 rfl) ?_
    refine lv_icmp_lt (tgt := 45) hx hb dX2_restSpot_28 (by decide) (fun c_3 => ?_) (fun c_3 => ?_)
    · have hrun := o_t hrun c_3
      cases hrun
      exact me_rv S hK Y hr hlk dX2_restSpot_45
    · have hrun := o_f hrun c_3
      refine lv_aload_n hx hb dX2_restSpot_31 rfl (lv_at hl 1 rfl) ?_
      refine ig S hK Y fX2_121 0 rfl (v := .ref (h 9)) rfl dX2_restSpot_32 ?_
      refine lv_iload_n hx hb dX2_restSpot_35 rfl (lv_at hl 2 rfl) ?_
      refine lv_iconst (v := (-1 : Int32)) hx hb dX2_restSpot_36 (by decide) ?_
      refine iw S hK Y 9 0 (f := (upd (σ 9) (p1).toNatClampNeg (((σ 9) (p1).toNatClampNeg) + (1 : Int32)))) rfl rfl b_1 (ws' := (wS cI h (sg_a (sg_a σ 9 (upd (σ 9) (p1).toNatClampNeg (((σ 9) (p1).toNatClampNeg) + (1 : Int32)))) 9 (upd (upd (σ 9) (p1).toNatClampNeg (((σ 9) (p1).toNatClampNeg) + (1 : Int32))) (p1).toNatClampNeg (-1 : Int32))))) (wS_a9 _ _ _) dX2_restSpot_37 (fun H locs Y => ?_)
      refine lv_aload_n hx hb dX2_restSpot_38 rfl (lv_at hl 1 rfl) ?_
      refine ig S hK Y fX2_115 0 rfl (v := .ref (h 8)) rfl dX2_restSpot_39 ?_
      refine lv_iload_n hx hb dX2_restSpot_42 rfl (lv_at hl 2 rfl) ?_
      refine lv_iconst (v := (0 : Int32)) hx hb dX2_restSpot_43 (by decide) ?_
      refine iw S hK Y 8 0 (f := (σ 8)) rfl rfl b_1 (ws' := (wS cI h (sg_a (sg_a (sg_a σ 9 (upd (σ 9) (p1).toNatClampNeg (((σ 9) (p1).toNatClampNeg) + (1 : Int32)))) 9 (upd (upd (σ 9) (p1).toNatClampNeg (((σ 9) (p1).toNatClampNeg) + (1 : Int32))) (p1).toNatClampNeg (-1 : Int32))) 8 (upd (σ 8) (p1).toNatClampNeg (0 : Int32))))) (wS_a8 _ _ _) dX2_restSpot_44 (fun H locs Y => ?_)
      cases hrun
      exact me_rv S hK Y hr hlk dX2_restSpot_45
def fX4_isAhead (p1 p2 : Int32) (σ : sg_T) : Option (Int32) := (o_x p1 8 (o_x p2 8 (if ((σ 2) (p1).toNatClampNeg) = ((σ 2) (p2).toNatClampNeg) then (if ((σ 5) (p1).toNatClampNeg) = ((σ 5) (p2).toNatClampNeg) then (if p2 ≤ p1 then (some (0 : Int32)) else (some (1 : Int32))) else (if ((σ 5) (p2).toNatClampNeg) ≤ ((σ 5) (p1).toNatClampNeg) then (some (0 : Int32)) else (some (1 : Int32)))) else (if ((σ 2) (p1).toNatClampNeg) ≤ ((σ 2) (p2).toNatClampNeg) then (some (0 : Int32)) else (some (1 : Int32))))))
set_option maxRecDepth 100000 in
set_option maxHeartbeats 4000000 in
theorem mX4_isAhead (l : Launch) (D : va_G) (cI : ClassId) (h : Nat → Nat) (σ : sg_T) (p1 p2 : Int32) (r : Int32) (hrun : fX4_isAhead p1 p2 σ = some r) : me_I l D (tS cI) yX4_isAhead cX4_isAhead 3 .boolean 0 0 (wS cI h σ) [.ref (h 0), .int p1, .int p2] r (wS cI h σ) := by
  refine me_ofI (plainFor_of_name (by decide)) (Nat.le_of_ble_eq_true rfl) ?_
  intro p e s m args below meth c A ls S hK Y hA hl hr hlk hZ
  have hx := S.1
  have hb := S.2.1
  have hl : lv_has ls 3 [(0, .ref (h 0)), (1, .int p1), (2, .int p2)] := hl
  unfold fX4_isAhead at hrun
  refine lv_aload_n hx hb dX4_isAhead_0 rfl (lv_at hl 0 rfl) ?_
  refine ig S hK Y fX4_9 0 rfl (v := .ref (h 2)) rfl dX4_isAhead_1 ?_
  refine lv_iload_n hx hb dX4_isAhead_4 rfl (lv_at hl 1 rfl) ?_
  obtain ⟨b_1, hrun⟩ := o_xh hrun
  refine ia S hK Y 2 0 (f := (σ 2)) rfl rfl b_1 dX4_isAhead_5 ?_
  refine lv_aload_n hx hb dX4_isAhead_6 rfl (lv_at hl 0 rfl) ?_
  refine ig S hK Y fX4_9 0 rfl (v := .ref (h 2)) rfl dX4_isAhead_7 ?_
  refine lv_iload_n hx hb dX4_isAhead_10 rfl (lv_at hl 2 rfl) ?_
  obtain ⟨b_2, hrun⟩ := o_xh hrun
  refine ia S hK Y 2 0 (f := (σ 2)) rfl rfl b_2 dX4_isAhead_11 ?_
  refine lv_icmp_eq (tgt := 36) hx hb dX4_isAhead_12 (by decide) (fun c_3 => ?_) (fun c_3 => ?_)
  · have hrun := o_t hrun c_3
    refine lv_aload_n hx hb dX4_isAhead_36 rfl (lv_at hl 0 rfl) ?_
    refine ig S hK Y fX4_15 0 rfl (v := .ref (h 5)) rfl dX4_isAhead_37 ?_
    refine lv_iload_n hx hb dX4_isAhead_40 rfl (lv_at hl 1 rfl) ?_
    refine ia S hK Y 5 0 (f := (σ 5)) rfl rfl b_1 dX4_isAhead_41 ?_
    refine lv_aload_n hx hb dX4_isAhead_42 rfl (lv_at hl 0 rfl) ?_
    refine ig S hK Y fX4_15 0 rfl (v := .ref (h 5)) rfl dX4_isAhead_43 ?_
    refine lv_iload_n hx hb dX4_isAhead_46 rfl (lv_at hl 2 rfl) ?_
    refine ia S hK Y 5 0 (f := (σ 5)) rfl rfl b_2 dX4_isAhead_47 ?_
    refine lv_icmp_eq (tgt := 72) hx hb dX4_isAhead_48 (by decide) (fun c_4 => ?_) (fun c_4 => ?_)
    · have hrun := o_t hrun c_4
      refine lv_iload_n hx hb dX4_isAhead_72 rfl (lv_at hl 1 rfl) ?_
      refine lv_iload_n hx hb dX4_isAhead_73 rfl (lv_at hl 2 rfl) ?_
      refine lv_icmp_ge (tgt := 81) hx hb dX4_isAhead_74 (by decide) (fun c_5 => ?_) (fun c_5 => ?_)
      · have hrun := o_t hrun c_5
        refine lv_iconst (v := (0 : Int32)) hx hb dX4_isAhead_81 (by decide) ?_
        cases hrun
        exact me_ri S hK Y hr hlk rfl dX4_isAhead_82
      · have hrun := o_f hrun c_5
        refine lv_iconst (v := (1 : Int32)) hx hb dX4_isAhead_77 (by decide) ?_
        refine lv_goto (tgt := 82) hx hb dX4_isAhead_78 (by decide) ?_
        cases hrun
        exact me_ri S hK Y hr hlk rfl dX4_isAhead_82
    · have hrun := o_f hrun c_4
      refine lv_aload_n hx hb dX4_isAhead_51 rfl (lv_at hl 0 rfl) ?_
      refine ig S hK Y fX4_15 0 rfl (v := .ref (h 5)) rfl dX4_isAhead_52 ?_
      refine lv_iload_n hx hb dX4_isAhead_55 rfl (lv_at hl 1 rfl) ?_
      refine ia S hK Y 5 0 (f := (σ 5)) rfl rfl b_1 dX4_isAhead_56 ?_
      refine lv_aload_n hx hb dX4_isAhead_57 rfl (lv_at hl 0 rfl) ?_
      refine ig S hK Y fX4_15 0 rfl (v := .ref (h 5)) rfl dX4_isAhead_58 ?_
      refine lv_iload_n hx hb dX4_isAhead_61 rfl (lv_at hl 2 rfl) ?_
      refine ia S hK Y 5 0 (f := (σ 5)) rfl rfl b_2 dX4_isAhead_62 ?_
      refine lv_icmp_ge (tgt := 70) hx hb dX4_isAhead_63 (by decide) (fun c_6 => ?_) (fun c_6 => ?_)
      · have hrun := o_t hrun c_6
        refine lv_iconst (v := (0 : Int32)) hx hb dX4_isAhead_70 (by decide) ?_
        cases hrun
        exact me_ri S hK Y hr hlk rfl dX4_isAhead_71
      · have hrun := o_f hrun c_6
        refine lv_iconst (v := (1 : Int32)) hx hb dX4_isAhead_66 (by decide) ?_
        refine lv_goto (tgt := 71) hx hb dX4_isAhead_67 (by decide) ?_
        cases hrun
        exact me_ri S hK Y hr hlk rfl dX4_isAhead_71
  · have hrun := o_f hrun c_3
    refine lv_aload_n hx hb dX4_isAhead_15 rfl (lv_at hl 0 rfl) ?_
    refine ig S hK Y fX4_9 0 rfl (v := .ref (h 2)) rfl dX4_isAhead_16 ?_
    refine lv_iload_n hx hb dX4_isAhead_19 rfl (lv_at hl 1 rfl) ?_
    refine ia S hK Y 2 0 (f := (σ 2)) rfl rfl b_1 dX4_isAhead_20 ?_
    refine lv_aload_n hx hb dX4_isAhead_21 rfl (lv_at hl 0 rfl) ?_
    refine ig S hK Y fX4_9 0 rfl (v := .ref (h 2)) rfl dX4_isAhead_22 ?_
    refine lv_iload_n hx hb dX4_isAhead_25 rfl (lv_at hl 2 rfl) ?_
    refine ia S hK Y 2 0 (f := (σ 2)) rfl rfl b_2 dX4_isAhead_26 ?_
    refine lv_icmp_le (tgt := 34) hx hb dX4_isAhead_27 (by decide) (fun c_7 => ?_) (fun c_7 => ?_)
    · have hrun := o_t hrun c_7
      refine lv_iconst (v := (0 : Int32)) hx hb dX4_isAhead_34 (by decide) ?_
      cases hrun
      exact me_ri S hK Y hr hlk rfl dX4_isAhead_35
    · have hrun := o_f hrun c_7
      refine lv_iconst (v := (1 : Int32)) hx hb dX4_isAhead_30 (by decide) ?_
      refine lv_goto (tgt := 35) hx hb dX4_isAhead_31 (by decide) ?_
      cases hrun
      exact me_ri S hK Y hr hlk rfl dX4_isAhead_35
def lX4_placeOf_4 : Nat → Int32 → Int32 → Int32 → (sg_T) → Option (Int32)
  | 0, _, _, _, _ => none
  | n + 1, a1, a2, a3, σ => (if (σ 0 0) ≤ a3 then (some a2) else ((fX4_isAhead a3 a1 σ).bind fun r_2 => (if r_2 = 0 then (lX4_placeOf_4 n a1 a2 (a3 + (1 : Int32)) σ) else (lX4_placeOf_4 n a1 (a2 + (1 : Int32)) (a3 + (1 : Int32)) σ))))
def fX4_placeOf (p1 : Int32) (σ : sg_T) : Option (Int32) := (lX4_placeOf_4 70 p1 (0 : Int32) (0 : Int32) σ)
set_option maxRecDepth 100000 in
set_option maxHeartbeats 4000000 in
theorem mX4_placeOf (l : Launch) (D : va_G) (cI : ClassId) (h : Nat → Nat) (σ : sg_T) (p1 : Int32) (r : Int32) (hrun : fX4_placeOf p1 σ = some r) : me_I l D (tS cI) yX4_placeOf cX4_placeOf 4 .int 1 22 (wS cI h σ) [.ref (h 0), .int p1] r (wS cI h σ) := by
  refine me_ofI (plainFor_of_name (by decide)) (Nat.le_of_ble_eq_true rfl) ?_
  intro p e s m args below meth c A ls S hK Y hA hl hr hlk hZ
  have hx := S.1
  have hb := S.2.1
  have hl : lv_has ls 4 [(0, .ref (h 0)), (1, .int p1)] := hl
  have lp4 : ∀ (n : Nat) (a1 : Int32) (a2 : Int32) (a3 : Int32), lX4_placeOf_4 n a1 a2 a3 σ = some r → ∀ (H : Heap) (locs : List Loc) (ls : Array Slot), dy_ D A s (wS cI h σ) H locs → lv_has ls 4 [(0, .ref (h 0)), (1, .int a1), (2, .int a2), (3, .int a3)] → W p l e (rm_ 1 22) s m args below meth c H locs 0 0 (MQ below (me_Qi D (tS cI) A r (wS cI h σ)) args s 0 0 A) (F0 m 4 ls []) := by
    intro n
    induction n with
    | zero => intro a1 a2 a3 hrun; cases hrun
    | succ n ih =>
      intro a1 a2 a3 hrun H locs ls Y hl
      unfold lX4_placeOf_4 at hrun
      refine lv_iload_n hx hb dX4_placeOf_4 rfl (lv_at hl 3 rfl) ?_
      refine lv_aload_n hx hb dX4_placeOf_5 rfl (lv_at hl 0 rfl) ?_
      refine ig S hK Y fX4_18 0 rfl (v := .int (σ 0 0)) rfl dX4_placeOf_6 ?_
      refine lv_icmp_ge (tgt := 30) hx hb dX4_placeOf_9 (by decide) (fun c_1 => ?_) (fun c_1 => ?_)
      · have hrun := o_t hrun c_1
        refine lv_iload_n hx hb dX4_placeOf_30 rfl (lv_at hl 2 rfl) ?_
        cases hrun
        exact me_ri S hK Y hr hlk rfl dX4_placeOf_31
      · have hrun := o_f hrun c_1
        refine lv_aload_n hx hb dX4_placeOf_12 rfl (lv_at hl 0 rfl) ?_
        refine lv_iload_n hx hb dX4_placeOf_13 rfl (lv_at hl 3 rfl) ?_
        refine lv_iload_n hx hb dX4_placeOf_14 rfl (lv_at hl 1 rfl) ?_
        obtain ⟨r_2, e_3, hrun⟩ := o_bh hrun
        refine cf_s (As := [.ref (h 0), .int a3, .int a1]) (rest := []) S hK hA hZ Y hl.1 (mX4_isAhead l D cI h σ a3 a1 r_2 e_3) kX4_22 ⟨Nat.le_of_ble_eq_true rfl, Nat.le_of_ble_eq_true rfl⟩ rfl rfl (Nat.le_of_ble_eq_true rfl) ⟨Nat.le_of_ble_eq_true rfl, Nat.le_of_ble_eq_true rfl⟩ dX4_placeOf_15 (fun H locs Y => ?_)
        refine lv_if_eq (tgt := 24) hx hb dX4_placeOf_18 (by decide) (fun c_4 => ?_) (fun c_4 => ?_)
        · have hrun := o_t hrun c_4
          refine lv_iinc (v := (a3 + (1 : Int32))) (lv' := [(3, .int (a3 + (1 : Int32))), (0, .ref (h 0)), (1, .int a1), (2, .int a2)]) hx hb dX4_placeOf_24 hl (k := 3) rfl (by rfl) (Nat.le_of_ble_eq_true rfl) rfl (fun ls hl => ?_)
          refine lv_goto (tgt := 4) hx hb dX4_placeOf_27 (by decide) ?_
          exact ih a1 a2 (a3 + (1 : Int32)) hrun _ _ _ Y (lv_sub hl [1, 2, 3, 0] rfl)
        · have hrun := o_f hrun c_4
          refine lv_iinc (v := (a2 + (1 : Int32))) (lv' := [(2, .int (a2 + (1 : Int32))), (0, .ref (h 0)), (1, .int a1), (3, .int a3)]) hx hb dX4_placeOf_21 hl (k := 2) rfl (by rfl) (Nat.le_of_ble_eq_true rfl) rfl (fun ls hl => ?_)
          refine lv_iinc (v := (a3 + (1 : Int32))) (lv' := [(3, .int (a3 + (1 : Int32))), (2, .int (a2 + (1 : Int32))), (0, .ref (h 0)), (1, .int a1)]) hx hb dX4_placeOf_24 hl (k := 3) rfl (by rfl) (Nat.le_of_ble_eq_true rfl) rfl (fun ls hl => ?_)
          refine lv_goto (tgt := 4) hx hb dX4_placeOf_27 (by decide) ?_
          exact ih a1 (a2 + (1 : Int32)) (a3 + (1 : Int32)) hrun _ _ _ Y (lv_sub hl [2, 3, 1, 0] rfl)
  unfold fX4_placeOf at hrun
  refine lv_iconst (v := (0 : Int32)) hx hb dX4_placeOf_0 (by decide) ?_
  refine lv_istore_n (lv' := [(2, .int (0 : Int32)), (0, .ref (h 0)), (1, .int p1)]) hx hb dX4_placeOf_1 rfl hl (Nat.le_of_ble_eq_true rfl) rfl (fun ls hl => ?_)
  refine lv_iconst (v := (0 : Int32)) hx hb dX4_placeOf_2 (by decide) ?_
  refine lv_istore_n (lv' := [(3, .int (0 : Int32)), (2, .int (0 : Int32)), (0, .ref (h 0)), (1, .int p1)]) hx hb dX4_placeOf_3 rfl hl (Nat.le_of_ble_eq_true rfl) rfl (fun ls hl => ?_)
  exact lp4 70 p1 (0 : Int32) (0 : Int32) hrun _ _ _ Y (lv_sub hl [2, 3, 1, 0] rfl)
def lX4_playerAt_2 : Nat → Int32 → Int32 → (sg_T) → Option (Int32)
  | 0, _, _, _ => none
  | n + 1, a1, a2, σ => (if (σ 0 0) ≤ a2 then (some (-10001 : Int32)) else ((fX4_placeOf a2 σ).bind fun r_2 => (if r_2 = a1 then (some a2) else (lX4_playerAt_2 n a1 (a2 + (1 : Int32)) σ))))
def fX4_playerAt (p1 : Int32) (σ : sg_T) : Option (Int32) := (lX4_playerAt_2 70 p1 (0 : Int32) σ)
set_option maxRecDepth 100000 in
set_option maxHeartbeats 4000000 in
theorem mX4_playerAt (l : Launch) (D : va_G) (cI : ClassId) (h : Nat → Nat) (σ : sg_T) (p1 : Int32) (r : Int32) (hrun : fX4_playerAt p1 σ = some r) : me_I l D (tS cI) yX4_playerAt cX4_playerAt 3 .int 2 45 (wS cI h σ) [.ref (h 0), .int p1] r (wS cI h σ) := by
  refine me_ofI (plainFor_of_name (by decide)) (Nat.le_of_ble_eq_true rfl) ?_
  intro p e s m args below meth c A ls S hK Y hA hl hr hlk hZ
  have hx := S.1
  have hb := S.2.1
  have hl : lv_has ls 3 [(0, .ref (h 0)), (1, .int p1)] := hl
  have lp2 : ∀ (n : Nat) (a1 : Int32) (a2 : Int32), lX4_playerAt_2 n a1 a2 σ = some r → ∀ (H : Heap) (locs : List Loc) (ls : Array Slot), dy_ D A s (wS cI h σ) H locs → lv_has ls 3 [(0, .ref (h 0)), (1, .int a1), (2, .int a2)] → W p l e (rm_ 2 45) s m args below meth c H locs 0 0 (MQ below (me_Qi D (tS cI) A r (wS cI h σ)) args s 0 0 A) (F0 m 2 ls []) := by
    intro n
    induction n with
    | zero => intro a1 a2 hrun; cases hrun
    | succ n ih =>
      intro a1 a2 hrun H locs ls Y hl
      unfold lX4_playerAt_2 at hrun
      refine lv_iload_n hx hb dX4_playerAt_2 rfl (lv_at hl 2 rfl) ?_
      refine lv_aload_n hx hb dX4_playerAt_3 rfl (lv_at hl 0 rfl) ?_
      refine ig S hK Y fX4_18 0 rfl (v := .int (σ 0 0)) rfl dX4_playerAt_4 ?_
      refine lv_icmp_ge (tgt := 27) hx hb dX4_playerAt_7 (by decide) (fun c_1 => ?_) (fun c_1 => ?_)
      · have hrun := o_t hrun c_1
        refine lv_sipush (v := (-10001 : Int32)) hx hb dX4_playerAt_27 (by decide) ?_
        cases hrun
        exact me_ri S hK Y hr hlk rfl dX4_playerAt_30
      · have hrun := o_f hrun c_1
        refine lv_aload_n hx hb dX4_playerAt_10 rfl (lv_at hl 0 rfl) ?_
        refine lv_iload_n hx hb dX4_playerAt_11 rfl (lv_at hl 2 rfl) ?_
        obtain ⟨r_2, e_3, hrun⟩ := o_bh hrun
        refine cf_s (As := [.ref (h 0), .int a2]) (rest := []) S hK hA hZ Y hl.1 (mX4_placeOf l D cI h σ a2 r_2 e_3) kX4_28 ⟨Nat.le_of_ble_eq_true rfl, Nat.le_of_ble_eq_true rfl⟩ rfl rfl (Nat.le_of_ble_eq_true rfl) ⟨Nat.le_of_ble_eq_true rfl, Nat.le_of_ble_eq_true rfl⟩ dX4_playerAt_12 (fun H locs Y => ?_)
        refine lv_iload_n hx hb dX4_playerAt_15 rfl (lv_at hl 1 rfl) ?_
        refine lv_icmp_ne (tgt := 21) hx hb dX4_playerAt_16 (by decide) (fun c_4 => ?_) (fun c_4 => ?_)
        · have hrun := o_f hrun c_4
          refine lv_iinc (v := (a2 + (1 : Int32))) (lv' := [(2, .int (a2 + (1 : Int32))), (0, .ref (h 0)), (1, .int a1)]) hx hb dX4_playerAt_21 hl (k := 2) rfl (by rfl) (Nat.le_of_ble_eq_true rfl) rfl (fun ls hl => ?_)
          refine lv_goto (tgt := 2) hx hb dX4_playerAt_24 (by decide) ?_
          exact ih a1 (a2 + (1 : Int32)) hrun _ _ _ Y (lv_sub hl [1, 2, 0] rfl)
        · have hrun := o_t hrun c_4
          refine lv_iload_n hx hb dX4_playerAt_19 rfl (lv_at hl 2 rfl) ?_
          cases hrun
          exact me_ri S hK Y hr hlk rfl dX4_playerAt_20
  unfold fX4_playerAt at hrun
  refine lv_iconst (v := (0 : Int32)) hx hb dX4_playerAt_0 (by decide) ?_
  refine lv_istore_n (lv' := [(2, .int (0 : Int32)), (0, .ref (h 0)), (1, .int p1)]) hx hb dX4_playerAt_1 rfl hl (Nat.le_of_ble_eq_true rfl) rfl (fun ls hl => ?_)
  exact lp2 70 p1 (0 : Int32) hrun _ _ _ Y (lv_sub hl [1, 2, 0] rfl)
def fX4_seeksSooner (p1 p2 : Int32) (σ : sg_T) : Option (Int32) := (o_x p1 8 (o_x p2 8 (if ((σ 3) (p1).toNatClampNeg) = ((σ 3) (p2).toNatClampNeg) then ((fX4_isAhead p2 p1 σ).bind fun r_4 => (o_k (r_4 = 0 ∨ r_4 = 1) (some r_4))) else (if ((σ 3) (p2).toNatClampNeg) ≤ ((σ 3) (p1).toNatClampNeg) then (some (0 : Int32)) else (some (1 : Int32))))))
set_option maxRecDepth 100000 in
set_option maxHeartbeats 4000000 in
theorem mX4_seeksSooner (l : Launch) (D : va_G) (cI : ClassId) (h : Nat → Nat) (σ : sg_T) (p1 p2 : Int32) (r : Int32) (hrun : fX4_seeksSooner p1 p2 σ = some r) : me_I l D (tS cI) yX4_seeksSooner cX4_seeksSooner 3 .boolean 1 22 (wS cI h σ) [.ref (h 0), .int p1, .int p2] r (wS cI h σ) := by
  refine me_ofI (plainFor_of_name (by decide)) (Nat.le_of_ble_eq_true rfl) ?_
  intro p e s m args below meth c A ls S hK Y hA hl hr hlk hZ
  have hx := S.1
  have hb := S.2.1
  have hl : lv_has ls 3 [(0, .ref (h 0)), (1, .int p1), (2, .int p2)] := hl
  unfold fX4_seeksSooner at hrun
  refine lv_aload_n hx hb dX4_seeksSooner_0 rfl (lv_at hl 0 rfl) ?_
  refine ig S hK Y fX4_39 0 rfl (v := .ref (h 3)) rfl dX4_seeksSooner_1 ?_
  refine lv_iload_n hx hb dX4_seeksSooner_4 rfl (lv_at hl 1 rfl) ?_
  obtain ⟨b_1, hrun⟩ := o_xh hrun
  refine ia S hK Y 3 0 (f := (σ 3)) rfl rfl b_1 dX4_seeksSooner_5 ?_
  refine lv_aload_n hx hb dX4_seeksSooner_6 rfl (lv_at hl 0 rfl) ?_
  refine ig S hK Y fX4_39 0 rfl (v := .ref (h 3)) rfl dX4_seeksSooner_7 ?_
  refine lv_iload_n hx hb dX4_seeksSooner_10 rfl (lv_at hl 2 rfl) ?_
  obtain ⟨b_2, hrun⟩ := o_xh hrun
  refine ia S hK Y 3 0 (f := (σ 3)) rfl rfl b_2 dX4_seeksSooner_11 ?_
  refine lv_icmp_eq (tgt := 36) hx hb dX4_seeksSooner_12 (by decide) (fun c_3 => ?_) (fun c_3 => ?_)
  · have hrun := o_t hrun c_3
    refine lv_aload_n hx hb dX4_seeksSooner_36 rfl (lv_at hl 0 rfl) ?_
    refine lv_iload_n hx hb dX4_seeksSooner_37 rfl (lv_at hl 2 rfl) ?_
    refine lv_iload_n hx hb dX4_seeksSooner_38 rfl (lv_at hl 1 rfl) ?_
    obtain ⟨r_4, e_5, hrun⟩ := o_bh hrun
    refine cf_s (As := [.ref (h 0), .int p2, .int p1]) (rest := []) S hK hA hZ Y hl.1 (mX4_isAhead l D cI h σ p2 p1 r_4 e_5) kX4_22 ⟨Nat.le_of_ble_eq_true rfl, Nat.le_of_ble_eq_true rfl⟩ rfl rfl (Nat.le_of_ble_eq_true rfl) ⟨Nat.le_of_ble_eq_true rfl, Nat.le_of_ble_eq_true rfl⟩ dX4_seeksSooner_39 (fun H locs Y => ?_)
    obtain ⟨c_6, hrun⟩ := o_kh hrun
    cases hrun
    exact me_ri S hK Y hr hlk (nb_ c_6) dX4_seeksSooner_42
  · have hrun := o_f hrun c_3
    refine lv_aload_n hx hb dX4_seeksSooner_15 rfl (lv_at hl 0 rfl) ?_
    refine ig S hK Y fX4_39 0 rfl (v := .ref (h 3)) rfl dX4_seeksSooner_16 ?_
    refine lv_iload_n hx hb dX4_seeksSooner_19 rfl (lv_at hl 1 rfl) ?_
    refine ia S hK Y 3 0 (f := (σ 3)) rfl rfl b_1 dX4_seeksSooner_20 ?_
    refine lv_aload_n hx hb dX4_seeksSooner_21 rfl (lv_at hl 0 rfl) ?_
    refine ig S hK Y fX4_39 0 rfl (v := .ref (h 3)) rfl dX4_seeksSooner_22 ?_
    refine lv_iload_n hx hb dX4_seeksSooner_25 rfl (lv_at hl 2 rfl) ?_
    refine ia S hK Y 3 0 (f := (σ 3)) rfl rfl b_2 dX4_seeksSooner_26 ?_
    refine lv_icmp_ge (tgt := 34) hx hb dX4_seeksSooner_27 (by decide) (fun c_7 => ?_) (fun c_7 => ?_)
    · have hrun := o_t hrun c_7
      refine lv_iconst (v := (0 : Int32)) hx hb dX4_seeksSooner_34 (by decide) ?_
      cases hrun
      exact me_ri S hK Y hr hlk rfl dX4_seeksSooner_35
    · have hrun := o_f hrun c_7
      refine lv_iconst (v := (1 : Int32)) hx hb dX4_seeksSooner_30 (by decide) ?_
      refine lv_goto (tgt := 35) hx hb dX4_seeksSooner_31 (by decide) ?_
      cases hrun
      exact me_ri S hK Y hr hlk rfl dX4_seeksSooner_35
def fX5_isSetting (p0 : Int32) : Option Int32 := (if p0 < 0 then (some (0 : Int32)) else (if (3 : Int32) < p0 then (some (0 : Int32)) else (some (1 : Int32))))
set_option maxRecDepth 100000 in
set_option maxHeartbeats 4000000 in
theorem mX5_isSetting (l : Launch) (D : va_G) (p0 : Int32) (r : Int32) (hrun : fX5_isSetting p0 = some r) : me_I l D [] yX5_isSetting cX5_isSetting 1 .boolean 0 0 [] [.int p0] r [] := by
  refine me_ofI (plainFor_of_name (by decide)) (Nat.le_of_ble_eq_true rfl) ?_
  intro p e s m args below meth c A ls S hK Y hA hl hr hlk hZ
  have hx := S.1
  have hb := S.2.1
  have hl : lv_has ls 1 [(0, .int p0)] := hl
  unfold fX5_isSetting at hrun
  refine lv_iload_n hx hb dX5_isSetting_0 rfl (lv_at hl 0 rfl) ?_
  refine lv_if_lt (tgt := 13) hx hb dX5_isSetting_1 (by decide) (fun c_1 => ?_) (fun c_1 => ?_)
  · have hrun := o_t hrun c_1
    refine lv_iconst (v := (0 : Int32)) hx hb dX5_isSetting_13 (by decide) ?_
    cases hrun
    exact me_ri S hK Y hr hlk rfl dX5_isSetting_14
  · have hrun := o_f hrun c_1
    refine lv_iload_n hx hb dX5_isSetting_4 rfl (lv_at hl 0 rfl) ?_
    refine lv_iconst (v := (3 : Int32)) hx hb dX5_isSetting_5 (by decide) ?_
    refine lv_icmp_gt (tgt := 13) hx hb dX5_isSetting_6 (by decide) (fun c_2 => ?_) (fun c_2 => ?_)
    · have hrun := o_t hrun c_2
      refine lv_iconst (v := (0 : Int32)) hx hb dX5_isSetting_13 (by decide) ?_
      cases hrun
      exact me_ri S hK Y hr hlk rfl dX5_isSetting_14
    · have hrun := o_f hrun c_2
      refine lv_iconst (v := (1 : Int32)) hx hb dX5_isSetting_9 (by decide) ?_
      refine lv_goto (tgt := 14) hx hb dX5_isSetting_10 (by decide) ?_
      cases hrun
      exact me_ri S hK Y hr hlk rfl dX5_isSetting_14
def fX5_isPlayer (p1 : Int32) (σ : sg_T) : Option (Int32) := (if p1 < 0 then (some (0 : Int32)) else (if (σ 0 0) ≤ p1 then (some (0 : Int32)) else (some (1 : Int32))))
set_option maxRecDepth 100000 in
set_option maxHeartbeats 4000000 in
theorem mX5_isPlayer (l : Launch) (D : va_G) (cI : ClassId) (h : Nat → Nat) (σ : sg_T) (p1 : Int32) (r : Int32) (hrun : fX5_isPlayer p1 σ = some r) : me_I l D (tS cI) yX5_isPlayer cX5_isPlayer 2 .boolean 0 0 (wS cI h σ) [.ref (h 0), .int p1] r (wS cI h σ) := by
  refine me_ofI (plainFor_of_name (by decide)) (Nat.le_of_ble_eq_true rfl) ?_
  intro p e s m args below meth c A ls S hK Y hA hl hr hlk hZ
  have hx := S.1
  have hb := S.2.1
  have hl : lv_has ls 2 [(0, .ref (h 0)), (1, .int p1)] := hl
  unfold fX5_isPlayer at hrun
  refine lv_iload_n hx hb dX5_isPlayer_0 rfl (lv_at hl 1 rfl) ?_
  refine lv_if_lt (tgt := 16) hx hb dX5_isPlayer_1 (by decide) (fun c_1 => ?_) (fun c_1 => ?_)
  · have hrun := o_t hrun c_1
    refine lv_iconst (v := (0 : Int32)) hx hb dX5_isPlayer_16 (by decide) ?_
    cases hrun
    exact me_ri S hK Y hr hlk rfl dX5_isPlayer_17
  · have hrun := o_f hrun c_1
    refine lv_iload_n hx hb dX5_isPlayer_4 rfl (lv_at hl 1 rfl) ?_
    refine lv_aload_n hx hb dX5_isPlayer_5 rfl (lv_at hl 0 rfl) ?_
    refine ig S hK Y fX5_41 0 rfl (v := .int (σ 0 0)) rfl dX5_isPlayer_6 ?_
    refine lv_icmp_ge (tgt := 16) hx hb dX5_isPlayer_9 (by decide) (fun c_2 => ?_) (fun c_2 => ?_)
    · have hrun := o_t hrun c_2
      refine lv_iconst (v := (0 : Int32)) hx hb dX5_isPlayer_16 (by decide) ?_
      cases hrun
      exact me_ri S hK Y hr hlk rfl dX5_isPlayer_17
    · have hrun := o_f hrun c_2
      refine lv_iconst (v := (1 : Int32)) hx hb dX5_isPlayer_12 (by decide) ?_
      refine lv_goto (tgt := 17) hx hb dX5_isPlayer_13 (by decide) ?_
      cases hrun
      exact me_ri S hK Y hr hlk rfl dX5_isPlayer_17
def fX5_isHidden (p1 : Int32) (σ : sg_T) : Option (Int32) := ((fX5_isPlayer p1 σ).bind fun r_1 => (if r_1 = 0 then (some (0 : Int32)) else (o_x p1 8 (if ((σ 7) (p1).toNatClampNeg) = (-10006 : Int32) then (some (0 : Int32)) else (some (1 : Int32))))))
set_option maxRecDepth 100000 in
set_option maxHeartbeats 4000000 in
theorem mX5_isHidden (l : Launch) (D : va_G) (cI : ClassId) (h : Nat → Nat) (σ : sg_T) (p1 : Int32) (r : Int32) (hrun : fX5_isHidden p1 σ = some r) : me_I l D (tS cI) yX5_isHidden cX5_isHidden 2 .boolean 1 21 (wS cI h σ) [.ref (h 0), .int p1] r (wS cI h σ) := by
  refine me_ofI (plainFor_of_name (by decide)) (Nat.le_of_ble_eq_true rfl) ?_
  intro p e s m args below meth c A ls S hK Y hA hl hr hlk hZ
  have hx := S.1
  have hb := S.2.1
  have hl : lv_has ls 2 [(0, .ref (h 0)), (1, .int p1)] := hl
  unfold fX5_isHidden at hrun
  refine lv_aload_n hx hb dX5_isHidden_0 rfl (lv_at hl 0 rfl) ?_
  refine lv_iload_n hx hb dX5_isHidden_1 rfl (lv_at hl 1 rfl) ?_
  obtain ⟨r_1, e_2, hrun⟩ := o_bh hrun
  refine cf_v (As := [.int p1]) (rest := []) S hK hA hZ Y hl.1 (mX5_isPlayer l D cI h σ p1 r_1 e_2) kX5_75 (T := TX5) (N := 16) rfl (q0 := 0) rfl ⟨Nat.le_of_ble_eq_true rfl, Nat.le_of_ble_eq_true rfl⟩ rfl rfl (Nat.le_of_ble_eq_true rfl) ⟨Nat.le_of_ble_eq_true rfl, Nat.le_of_ble_eq_true rfl⟩ dX5_isHidden_2 (fun H locs Y => ?_)
  refine lv_if_eq (tgt := 24) hx hb dX5_isHidden_5 (by decide) (fun c_3 => ?_) (fun c_3 => ?_)
  · have hrun := o_t hrun c_3
    refine lv_iconst (v := (0 : Int32)) hx hb dX5_isHidden_24 (by decide) ?_
    cases hrun
    exact me_ri S hK Y hr hlk rfl dX5_isHidden_25
  · have hrun := o_f hrun c_3
    refine lv_aload_n hx hb dX5_isHidden_8 rfl (lv_at hl 0 rfl) ?_
    refine ig S hK Y fX5_30 0 rfl (v := .ref (h 7)) rfl dX5_isHidden_9 ?_
    refine lv_iload_n hx hb dX5_isHidden_12 rfl (lv_at hl 1 rfl) ?_
    obtain ⟨b_4, hrun⟩ := o_xh hrun
    refine ia S hK Y 7 0 (f := (σ 7)) rfl rfl b_4 dX5_isHidden_13 ?_
    refine lv_sipush (v := (-10006 : Int32)) hx hb dX5_isHidden_14 (by decide) ?_
    refine lv_icmp_eq (tgt := 24) hx hb dX5_isHidden_17 (by decide) (fun c_5 => ?_) (fun c_5 => ?_)
    · have hrun := o_t hrun c_5
      refine lv_iconst (v := (0 : Int32)) hx hb dX5_isHidden_24 (by decide) ?_
      cases hrun
      exact me_ri S hK Y hr hlk rfl dX5_isHidden_25
    · have hrun := o_f hrun c_5
      refine lv_iconst (v := (1 : Int32)) hx hb dX5_isHidden_20 (by decide) ?_
      refine lv_goto (tgt := 25) hx hb dX5_isHidden_21 (by decide) ?_
      cases hrun
      exact me_ri S hK Y hr hlk rfl dX5_isHidden_25
def lX5_hiddenCount_4 : Nat → Int32 → Int32 → (sg_T) → Option (Int32)
  | 0, _, _, _ => none
  | n + 1, a1, a2, σ => (if (σ 0 0) ≤ a2 then (some a1) else ((fX5_isHidden a2 σ).bind fun r_2 => (if r_2 = 0 then (lX5_hiddenCount_4 n a1 (a2 + (1 : Int32)) σ) else (lX5_hiddenCount_4 n (a1 + (1 : Int32)) (a2 + (1 : Int32)) σ))))
def fX5_hiddenCount (σ : sg_T) : Option (Int32) := (lX5_hiddenCount_4 70 (0 : Int32) (0 : Int32) σ)
set_option maxRecDepth 100000 in
set_option maxHeartbeats 4000000 in
theorem mX5_hiddenCount (l : Launch) (D : va_G) (cI : ClassId) (h : Nat → Nat) (σ : sg_T) (r : Int32) (hrun : fX5_hiddenCount σ = some r) : me_I l D (tS cI) yX5_hiddenCount cX5_hiddenCount 3 .int 2 42 (wS cI h σ) [.ref (h 0)] r (wS cI h σ) := by
  refine me_ofI (plainFor_of_name (by decide)) (Nat.le_of_ble_eq_true rfl) ?_
  intro p e s m args below meth c A ls S hK Y hA hl hr hlk hZ
  have hx := S.1
  have hb := S.2.1
  have hl : lv_has ls 3 [(0, .ref (h 0))] := hl
  have lp4 : ∀ (n : Nat) (a1 : Int32) (a2 : Int32), lX5_hiddenCount_4 n a1 a2 σ = some r → ∀ (H : Heap) (locs : List Loc) (ls : Array Slot), dy_ D A s (wS cI h σ) H locs → lv_has ls 3 [(0, .ref (h 0)), (1, .int a1), (2, .int a2)] → W p l e (rm_ 2 42) s m args below meth c H locs 0 0 (MQ below (me_Qi D (tS cI) A r (wS cI h σ)) args s 0 0 A) (F0 m 4 ls []) := by
    intro n
    induction n with
    | zero => intro a1 a2 hrun; cases hrun
    | succ n ih =>
      intro a1 a2 hrun H locs ls Y hl
      unfold lX5_hiddenCount_4 at hrun
      refine lv_iload_n hx hb dX5_hiddenCount_4 rfl (lv_at hl 2 rfl) ?_
      refine lv_aload_n hx hb dX5_hiddenCount_5 rfl (lv_at hl 0 rfl) ?_
      refine ig S hK Y fX5_41 0 rfl (v := .int (σ 0 0)) rfl dX5_hiddenCount_6 ?_
      refine lv_icmp_ge (tgt := 29) hx hb dX5_hiddenCount_9 (by decide) (fun c_1 => ?_) (fun c_1 => ?_)
      · have hrun := o_t hrun c_1
        refine lv_iload_n hx hb dX5_hiddenCount_29 rfl (lv_at hl 1 rfl) ?_
        cases hrun
        exact me_ri S hK Y hr hlk rfl dX5_hiddenCount_30
      · have hrun := o_f hrun c_1
        refine lv_aload_n hx hb dX5_hiddenCount_12 rfl (lv_at hl 0 rfl) ?_
        refine lv_iload_n hx hb dX5_hiddenCount_13 rfl (lv_at hl 2 rfl) ?_
        obtain ⟨r_2, e_3, hrun⟩ := o_bh hrun
        refine cf_v (As := [.int a2]) (rest := []) S hK hA hZ Y hl.1 (mX5_isHidden l D cI h σ a2 r_2 e_3) kX5_79 (T := TX5) (N := 16) rfl (q0 := 0) rfl ⟨Nat.le_of_ble_eq_true rfl, Nat.le_of_ble_eq_true rfl⟩ rfl rfl (Nat.le_of_ble_eq_true rfl) ⟨Nat.le_of_ble_eq_true rfl, Nat.le_of_ble_eq_true rfl⟩ dX5_hiddenCount_14 (fun H locs Y => ?_)
        refine lv_if_eq (tgt := 23) hx hb dX5_hiddenCount_17 (by decide) (fun c_4 => ?_) (fun c_4 => ?_)
        · have hrun := o_t hrun c_4
          refine lv_iinc (v := (a2 + (1 : Int32))) (lv' := [(2, .int (a2 + (1 : Int32))), (0, .ref (h 0)), (1, .int a1)]) hx hb dX5_hiddenCount_23 hl (k := 2) rfl (by rfl) (Nat.le_of_ble_eq_true rfl) rfl (fun ls hl => ?_)
          refine lv_goto (tgt := 4) hx hb dX5_hiddenCount_26 (by decide) ?_
          exact ih a1 (a2 + (1 : Int32)) hrun _ _ _ Y (lv_sub hl [1, 2, 0] rfl)
        · have hrun := o_f hrun c_4
          refine lv_iinc (v := (a1 + (1 : Int32))) (lv' := [(1, .int (a1 + (1 : Int32))), (0, .ref (h 0)), (2, .int a2)]) hx hb dX5_hiddenCount_20 hl (k := 1) rfl (by rfl) (Nat.le_of_ble_eq_true rfl) rfl (fun ls hl => ?_)
          refine lv_iinc (v := (a2 + (1 : Int32))) (lv' := [(2, .int (a2 + (1 : Int32))), (1, .int (a1 + (1 : Int32))), (0, .ref (h 0))]) hx hb dX5_hiddenCount_23 hl (k := 2) rfl (by rfl) (Nat.le_of_ble_eq_true rfl) rfl (fun ls hl => ?_)
          refine lv_goto (tgt := 4) hx hb dX5_hiddenCount_26 (by decide) ?_
          exact ih (a1 + (1 : Int32)) (a2 + (1 : Int32)) hrun _ _ _ Y (lv_sub hl [2, 1, 0] rfl)
  unfold fX5_hiddenCount at hrun
  refine lv_iconst (v := (0 : Int32)) hx hb dX5_hiddenCount_0 (by decide) ?_
  refine lv_istore_n (lv' := [(1, .int (0 : Int32)), (0, .ref (h 0))]) hx hb dX5_hiddenCount_1 rfl hl (Nat.le_of_ble_eq_true rfl) rfl (fun ls hl => ?_)
  refine lv_iconst (v := (0 : Int32)) hx hb dX5_hiddenCount_2 (by decide) ?_
  refine lv_istore_n (lv' := [(2, .int (0 : Int32)), (1, .int (0 : Int32)), (0, .ref (h 0))]) hx hb dX5_hiddenCount_3 rfl hl (Nat.le_of_ble_eq_true rfl) rfl (fun ls hl => ?_)
  exact lp4 70 (0 : Int32) (0 : Int32) hrun _ _ _ Y (lv_sub hl [2, 1, 0] rfl)
def lX5_hidersAt_4 : Nat → Int32 → Int32 → Int32 → (sg_T) → Option (Int32)
  | 0, _, _, _, _ => none
  | n + 1, a1, a2, a3, σ => (if (σ 0 0) ≤ a3 then (some a2) else (o_x a3 8 (if ((σ 7) (a3).toNatClampNeg) = a1 then (lX5_hidersAt_4 n a1 (a2 ||| ((1 : Int32) <<< (a3 &&& 31))) (a3 + (1 : Int32)) σ) else (lX5_hidersAt_4 n a1 a2 (a3 + (1 : Int32)) σ))))
def fX5_hidersAt (p1 : Int32) (σ : sg_T) : Option (Int32) := (lX5_hidersAt_4 70 p1 (0 : Int32) (0 : Int32) σ)
set_option maxRecDepth 100000 in
set_option maxHeartbeats 4000000 in
theorem mX5_hidersAt (l : Launch) (D : va_G) (cI : ClassId) (h : Nat → Nat) (σ : sg_T) (p1 : Int32) (r : Int32) (hrun : fX5_hidersAt p1 σ = some r) : me_I l D (tS cI) yX5_hidersAt cX5_hidersAt 4 .int 0 0 (wS cI h σ) [.ref (h 0), .int p1] r (wS cI h σ) := by
  refine me_ofI (plainFor_of_name (by decide)) (Nat.le_of_ble_eq_true rfl) ?_
  intro p e s m args below meth c A ls S hK Y hA hl hr hlk hZ
  have hx := S.1
  have hb := S.2.1
  have hl : lv_has ls 4 [(0, .ref (h 0)), (1, .int p1)] := hl
  have lp4 : ∀ (n : Nat) (a1 : Int32) (a2 : Int32) (a3 : Int32), lX5_hidersAt_4 n a1 a2 a3 σ = some r → ∀ (H : Heap) (locs : List Loc) (ls : Array Slot), dy_ D A s (wS cI h σ) H locs → lv_has ls 4 [(0, .ref (h 0)), (1, .int a1), (2, .int a2), (3, .int a3)] → W p l e (rm_ 0 0) s m args below meth c H locs 0 0 (MQ below (me_Qi D (tS cI) A r (wS cI h σ)) args s 0 0 A) (F0 m 4 ls []) := by
    intro n
    induction n with
    | zero => intro a1 a2 a3 hrun; cases hrun
    | succ n ih =>
      intro a1 a2 a3 hrun H locs ls Y hl
      unfold lX5_hidersAt_4 at hrun
      refine lv_iload_n hx hb dX5_hidersAt_4 rfl (lv_at hl 3 rfl) ?_
      refine lv_aload_n hx hb dX5_hidersAt_5 rfl (lv_at hl 0 rfl) ?_
      refine ig S hK Y fX5_41 0 rfl (v := .int (σ 0 0)) rfl dX5_hidersAt_6 ?_
      refine lv_icmp_ge (tgt := 34) hx hb dX5_hidersAt_9 (by decide) (fun c_1 => ?_) (fun c_1 => ?_)
      · have hrun := o_t hrun c_1
        refine lv_iload_n hx hb dX5_hidersAt_34 rfl (lv_at hl 2 rfl) ?_
        cases hrun
        exact me_ri S hK Y hr hlk rfl dX5_hidersAt_35
      · have hrun := o_f hrun c_1
        refine lv_aload_n hx hb dX5_hidersAt_12 rfl (lv_at hl 0 rfl) ?_
        refine ig S hK Y fX5_30 0 rfl (v := .ref (h 7)) rfl dX5_hidersAt_13 ?_
        refine lv_iload_n hx hb dX5_hidersAt_16 rfl (lv_at hl 3 rfl) ?_
        obtain ⟨b_2, hrun⟩ := o_xh hrun
        refine ia S hK Y 7 0 (f := (σ 7)) rfl rfl b_2 dX5_hidersAt_17 ?_
        refine lv_iload_n hx hb dX5_hidersAt_18 rfl (lv_at hl 1 rfl) ?_
        refine lv_icmp_ne (tgt := 28) hx hb dX5_hidersAt_19 (by decide) (fun c_3 => ?_) (fun c_3 => ?_)
        · have hrun := o_f hrun c_3
          refine lv_iinc (v := (a3 + (1 : Int32))) (lv' := [(3, .int (a3 + (1 : Int32))), (0, .ref (h 0)), (1, .int a1), (2, .int a2)]) hx hb dX5_hidersAt_28 hl (k := 3) rfl (by rfl) (Nat.le_of_ble_eq_true rfl) rfl (fun ls hl => ?_)
          refine lv_goto (tgt := 4) hx hb dX5_hidersAt_31 (by decide) ?_
          exact ih a1 a2 (a3 + (1 : Int32)) hrun _ _ _ Y (lv_sub hl [1, 2, 3, 0] rfl)
        · have hrun := o_t hrun c_3
          refine lv_iload_n hx hb dX5_hidersAt_22 rfl (lv_at hl 2 rfl) ?_
          refine lv_iconst (v := (1 : Int32)) hx hb dX5_hidersAt_23 (by decide) ?_
          refine lv_iload_n hx hb dX5_hidersAt_24 rfl (lv_at hl 3 rfl) ?_
          refine lv_ishl hx hb dX5_hidersAt_25 ?_
          refine lv_ior hx hb dX5_hidersAt_26 ?_
          refine lv_istore_n (lv' := [(2, .int (a2 ||| ((1 : Int32) <<< (a3 &&& 31)))), (0, .ref (h 0)), (1, .int a1), (3, .int a3)]) hx hb dX5_hidersAt_27 rfl hl (Nat.le_of_ble_eq_true rfl) rfl (fun ls hl => ?_)
          refine lv_iinc (v := (a3 + (1 : Int32))) (lv' := [(3, .int (a3 + (1 : Int32))), (2, .int (a2 ||| ((1 : Int32) <<< (a3 &&& 31)))), (0, .ref (h 0)), (1, .int a1)]) hx hb dX5_hidersAt_28 hl (k := 3) rfl (by rfl) (Nat.le_of_ble_eq_true rfl) rfl (fun ls hl => ?_)
          refine lv_goto (tgt := 4) hx hb dX5_hidersAt_31 (by decide) ?_
          exact ih a1 (a2 ||| ((1 : Int32) <<< (a3 &&& 31))) (a3 + (1 : Int32)) hrun _ _ _ Y (lv_sub hl [2, 3, 1, 0] rfl)
  unfold fX5_hidersAt at hrun
  refine lv_iconst (v := (0 : Int32)) hx hb dX5_hidersAt_0 (by decide) ?_
  refine lv_istore_n (lv' := [(2, .int (0 : Int32)), (0, .ref (h 0)), (1, .int p1)]) hx hb dX5_hidersAt_1 rfl hl (Nat.le_of_ble_eq_true rfl) rfl (fun ls hl => ?_)
  refine lv_iconst (v := (0 : Int32)) hx hb dX5_hidersAt_2 (by decide) ?_
  refine lv_istore_n (lv' := [(3, .int (0 : Int32)), (2, .int (0 : Int32)), (0, .ref (h 0)), (1, .int p1)]) hx hb dX5_hidersAt_3 rfl hl (Nat.le_of_ble_eq_true rfl) rfl (fun ls hl => ?_)
  exact lp4 70 p1 (0 : Int32) (0 : Int32) hrun _ _ _ Y (lv_sub hl [2, 3, 1, 0] rfl)
def lX5_sumOfPoints_4 : Nat → Int32 → Int32 → (sg_T) → Option (Int32)
  | 0, _, _, _ => none
  | n + 1, a1, a2, σ => (if (σ 0 0) ≤ a2 then (some a1) else (o_x a2 8 (lX5_sumOfPoints_4 n (a1 + ((σ 2) (a2).toNatClampNeg)) (a2 + (1 : Int32)) σ)))
def fX5_sumOfPoints (σ : sg_T) : Option (Int32) := (lX5_sumOfPoints_4 70 (0 : Int32) (0 : Int32) σ)
set_option maxRecDepth 100000 in
set_option maxHeartbeats 4000000 in
theorem mX5_sumOfPoints (l : Launch) (D : va_G) (cI : ClassId) (h : Nat → Nat) (σ : sg_T) (r : Int32) (hrun : fX5_sumOfPoints σ = some r) : me_I l D (tS cI) yX5_sumOfPoints cX5_sumOfPoints 3 .int 0 0 (wS cI h σ) [.ref (h 0)] r (wS cI h σ) := by
  refine me_ofI (plainFor_of_name (by decide)) (Nat.le_of_ble_eq_true rfl) ?_
  intro p e s m args below meth c A ls S hK Y hA hl hr hlk hZ
  have hx := S.1
  have hb := S.2.1
  have hl : lv_has ls 3 [(0, .ref (h 0))] := hl
  have lp4 : ∀ (n : Nat) (a1 : Int32) (a2 : Int32), lX5_sumOfPoints_4 n a1 a2 σ = some r → ∀ (H : Heap) (locs : List Loc) (ls : Array Slot), dy_ D A s (wS cI h σ) H locs → lv_has ls 3 [(0, .ref (h 0)), (1, .int a1), (2, .int a2)] → W p l e (rm_ 0 0) s m args below meth c H locs 0 0 (MQ below (me_Qi D (tS cI) A r (wS cI h σ)) args s 0 0 A) (F0 m 4 ls []) := by
    intro n
    induction n with
    | zero => intro a1 a2 hrun; cases hrun
    | succ n ih =>
      intro a1 a2 hrun H locs ls Y hl
      unfold lX5_sumOfPoints_4 at hrun
      refine lv_iload_n hx hb dX5_sumOfPoints_4 rfl (lv_at hl 2 rfl) ?_
      refine lv_aload_n hx hb dX5_sumOfPoints_5 rfl (lv_at hl 0 rfl) ?_
      refine ig S hK Y fX5_41 0 rfl (v := .int (σ 0 0)) rfl dX5_sumOfPoints_6 ?_
      refine lv_icmp_ge (tgt := 27) hx hb dX5_sumOfPoints_9 (by decide) (fun c_1 => ?_) (fun c_1 => ?_)
      · have hrun := o_t hrun c_1
        refine lv_iload_n hx hb dX5_sumOfPoints_27 rfl (lv_at hl 1 rfl) ?_
        cases hrun
        exact me_ri S hK Y hr hlk rfl dX5_sumOfPoints_28
      · have hrun := o_f hrun c_1
        refine lv_iload_n hx hb dX5_sumOfPoints_12 rfl (lv_at hl 1 rfl) ?_
        refine lv_aload_n hx hb dX5_sumOfPoints_13 rfl (lv_at hl 0 rfl) ?_
        refine ig S hK Y fX5_15 0 rfl (v := .ref (h 2)) rfl dX5_sumOfPoints_14 ?_
        refine lv_iload_n hx hb dX5_sumOfPoints_17 rfl (lv_at hl 2 rfl) ?_
        obtain ⟨b_2, hrun⟩ := o_xh hrun
        refine ia S hK Y 2 0 (f := (σ 2)) rfl rfl b_2 dX5_sumOfPoints_18 ?_
        refine lv_iadd hx hb dX5_sumOfPoints_19 ?_
        refine lv_istore_n (lv' := [(1, .int (a1 + ((σ 2) (a2).toNatClampNeg))), (0, .ref (h 0)), (2, .int a2)]) hx hb dX5_sumOfPoints_20 rfl hl (Nat.le_of_ble_eq_true rfl) rfl (fun ls hl => ?_)
        refine lv_iinc (v := (a2 + (1 : Int32))) (lv' := [(2, .int (a2 + (1 : Int32))), (1, .int (a1 + ((σ 2) (a2).toNatClampNeg))), (0, .ref (h 0))]) hx hb dX5_sumOfPoints_21 hl (k := 2) rfl (by rfl) (Nat.le_of_ble_eq_true rfl) rfl (fun ls hl => ?_)
        refine lv_goto (tgt := 4) hx hb dX5_sumOfPoints_24 (by decide) ?_
        exact ih (a1 + ((σ 2) (a2).toNatClampNeg)) (a2 + (1 : Int32)) hrun _ _ _ Y (lv_sub hl [2, 1, 0] rfl)
  unfold fX5_sumOfPoints at hrun
  refine lv_iconst (v := (0 : Int32)) hx hb dX5_sumOfPoints_0 (by decide) ?_
  refine lv_istore_n (lv' := [(1, .int (0 : Int32)), (0, .ref (h 0))]) hx hb dX5_sumOfPoints_1 rfl hl (Nat.le_of_ble_eq_true rfl) rfl (fun ls hl => ?_)
  refine lv_iconst (v := (0 : Int32)) hx hb dX5_sumOfPoints_2 (by decide) ?_
  refine lv_istore_n (lv' := [(2, .int (0 : Int32)), (1, .int (0 : Int32)), (0, .ref (h 0))]) hx hb dX5_sumOfPoints_3 rfl hl (Nat.le_of_ble_eq_true rfl) rfl (fun ls hl => ?_)
  exact lp4 70 (0 : Int32) (0 : Int32) hrun _ _ _ Y (lv_sub hl [2, 1, 0] rfl)
def fX6_isSpot (p0 : Int32) : Option Int32 := (if p0 < 0 then (some (0 : Int32)) else (if (16 : Int32) ≤ p0 then (some (0 : Int32)) else (some (1 : Int32))))
set_option maxRecDepth 100000 in
set_option maxHeartbeats 4000000 in
theorem mX6_isSpot (l : Launch) (D : va_G) (p0 : Int32) (r : Int32) (hrun : fX6_isSpot p0 = some r) : me_I l D [] yX6_isSpot cX6_isSpot 1 .boolean 0 0 [] [.int p0] r [] := by
  refine me_ofI (plainFor_of_name (by decide)) (Nat.le_of_ble_eq_true rfl) ?_
  intro p e s m args below meth c A ls S hK Y hA hl hr hlk hZ
  have hx := S.1
  have hb := S.2.1
  have hl : lv_has ls 1 [(0, .int p0)] := hl
  unfold fX6_isSpot at hrun
  refine lv_iload_n hx hb dX6_isSpot_0 rfl (lv_at hl 0 rfl) ?_
  refine lv_if_lt (tgt := 14) hx hb dX6_isSpot_1 (by decide) (fun c_1 => ?_) (fun c_1 => ?_)
  · have hrun := o_t hrun c_1
    refine lv_iconst (v := (0 : Int32)) hx hb dX6_isSpot_14 (by decide) ?_
    cases hrun
    exact me_ri S hK Y hr hlk rfl dX6_isSpot_15
  · have hrun := o_f hrun c_1
    refine lv_iload_n hx hb dX6_isSpot_4 rfl (lv_at hl 0 rfl) ?_
    refine lv_bipush (v := (16 : Int32)) hx hb dX6_isSpot_5 (by decide) ?_
    refine lv_icmp_ge (tgt := 14) hx hb dX6_isSpot_7 (by decide) (fun c_2 => ?_) (fun c_2 => ?_)
    · have hrun := o_t hrun c_2
      refine lv_iconst (v := (0 : Int32)) hx hb dX6_isSpot_14 (by decide) ?_
      cases hrun
      exact me_ri S hK Y hr hlk rfl dX6_isSpot_15
    · have hrun := o_f hrun c_2
      refine lv_iconst (v := (1 : Int32)) hx hb dX6_isSpot_10 (by decide) ?_
      refine lv_goto (tgt := 15) hx hb dX6_isSpot_11 (by decide) ?_
      cases hrun
      exact me_ri S hK Y hr hlk rfl dX6_isSpot_15
def fJ6_bitCount_0f7a4 (p0 : Int32) : Option Int32 := (some ((((((((p0 - ((p0.toUInt32 >>> ((1 : Int32).toUInt32 &&& Int32.toUInt32 31)).toInt32 &&& (1431655765 : Int32))) &&& (858993459 : Int32)) + (((p0 - ((p0.toUInt32 >>> ((1 : Int32).toUInt32 &&& Int32.toUInt32 31)).toInt32 &&& (1431655765 : Int32))).toUInt32 >>> ((2 : Int32).toUInt32 &&& Int32.toUInt32 31)).toInt32 &&& (858993459 : Int32))) + ((((p0 - ((p0.toUInt32 >>> ((1 : Int32).toUInt32 &&& Int32.toUInt32 31)).toInt32 &&& (1431655765 : Int32))) &&& (858993459 : Int32)) + (((p0 - ((p0.toUInt32 >>> ((1 : Int32).toUInt32 &&& Int32.toUInt32 31)).toInt32 &&& (1431655765 : Int32))).toUInt32 >>> ((2 : Int32).toUInt32 &&& Int32.toUInt32 31)).toInt32 &&& (858993459 : Int32))).toUInt32 >>> ((4 : Int32).toUInt32 &&& Int32.toUInt32 31)).toInt32) &&& (252645135 : Int32)) + ((((((p0 - ((p0.toUInt32 >>> ((1 : Int32).toUInt32 &&& Int32.toUInt32 31)).toInt32 &&& (1431655765 : Int32))) &&& (858993459 : Int32)) + (((p0 - ((p0.toUInt32 >>> ((1 : Int32).toUInt32 &&& Int32.toUInt32 31)).toInt32 &&& (1431655765 : Int32))).toUInt32 >>> ((2 : Int32).toUInt32 &&& Int32.toUInt32 31)).toInt32 &&& (858993459 : Int32))) + ((((p0 - ((p0.toUInt32 >>> ((1 : Int32).toUInt32 &&& Int32.toUInt32 31)).toInt32 &&& (1431655765 : Int32))) &&& (858993459 : Int32)) + (((p0 - ((p0.toUInt32 >>> ((1 : Int32).toUInt32 &&& Int32.toUInt32 31)).toInt32 &&& (1431655765 : Int32))).toUInt32 >>> ((2 : Int32).toUInt32 &&& Int32.toUInt32 31)).toInt32 &&& (858993459 : Int32))).toUInt32 >>> ((4 : Int32).toUInt32 &&& Int32.toUInt32 31)).toInt32) &&& (252645135 : Int32)).toUInt32 >>> ((8 : Int32).toUInt32 &&& Int32.toUInt32 31)).toInt32) + (((((((p0 - ((p0.toUInt32 >>> ((1 : Int32).toUInt32 &&& Int32.toUInt32 31)).toInt32 &&& (1431655765 : Int32))) &&& (858993459 : Int32)) + (((p0 - ((p0.toUInt32 >>> ((1 : Int32).toUInt32 &&& Int32.toUInt32 31)).toInt32 &&& (1431655765 : Int32))).toUInt32 >>> ((2 : Int32).toUInt32 &&& Int32.toUInt32 31)).toInt32 &&& (858993459 : Int32))) + ((((p0 - ((p0.toUInt32 >>> ((1 : Int32).toUInt32 &&& Int32.toUInt32 31)).toInt32 &&& (1431655765 : Int32))) &&& (858993459 : Int32)) + (((p0 - ((p0.toUInt32 >>> ((1 : Int32).toUInt32 &&& Int32.toUInt32 31)).toInt32 &&& (1431655765 : Int32))).toUInt32 >>> ((2 : Int32).toUInt32 &&& Int32.toUInt32 31)).toInt32 &&& (858993459 : Int32))).toUInt32 >>> ((4 : Int32).toUInt32 &&& Int32.toUInt32 31)).toInt32) &&& (252645135 : Int32)) + ((((((p0 - ((p0.toUInt32 >>> ((1 : Int32).toUInt32 &&& Int32.toUInt32 31)).toInt32 &&& (1431655765 : Int32))) &&& (858993459 : Int32)) + (((p0 - ((p0.toUInt32 >>> ((1 : Int32).toUInt32 &&& Int32.toUInt32 31)).toInt32 &&& (1431655765 : Int32))).toUInt32 >>> ((2 : Int32).toUInt32 &&& Int32.toUInt32 31)).toInt32 &&& (858993459 : Int32))) + ((((p0 - ((p0.toUInt32 >>> ((1 : Int32).toUInt32 &&& Int32.toUInt32 31)).toInt32 &&& (1431655765 : Int32))) &&& (858993459 : Int32)) + (((p0 - ((p0.toUInt32 >>> ((1 : Int32).toUInt32 &&& Int32.toUInt32 31)).toInt32 &&& (1431655765 : Int32))).toUInt32 >>> ((2 : Int32).toUInt32 &&& Int32.toUInt32 31)).toInt32 &&& (858993459 : Int32))).toUInt32 >>> ((4 : Int32).toUInt32 &&& Int32.toUInt32 31)).toInt32) &&& (252645135 : Int32)).toUInt32 >>> ((8 : Int32).toUInt32 &&& Int32.toUInt32 31)).toInt32).toUInt32 >>> ((16 : Int32).toUInt32 &&& Int32.toUInt32 31)).toInt32) &&& (63 : Int32)))
set_option maxRecDepth 100000 in
set_option maxHeartbeats 4000000 in
theorem mJ6_bitCount_0f7a4 (l : Launch) (D : va_G) (p0 : Int32) (r : Int32) (hrun : fJ6_bitCount_0f7a4 p0 = some r) : me_I l D [] yJ6_bitCount_0f7a4 cJ6_bitCount_0f7a4 1 .int 0 0 [] [.int p0] r [] := by
  refine me_ofI (plainFor_of_name (by decide)) (Nat.le_of_ble_eq_true rfl) ?_
  intro p e s m args below meth c A ls S hK Y hA hl hr hlk hZ
  have hx := S.1
  have hb := S.2.1
  have hl : lv_has ls 1 [(0, .int p0)] := hl
  unfold fJ6_bitCount_0f7a4 at hrun
  refine lv_iload_n hx hb dJ6_bitCount_0f7a4_0 rfl (lv_at hl 0 rfl) ?_
  refine lv_iload_n hx hb dJ6_bitCount_0f7a4_1 rfl (lv_at hl 0 rfl) ?_
  refine lv_iconst (v := (1 : Int32)) hx hb dJ6_bitCount_0f7a4_2 (by decide) ?_
  refine lv_iushr (v := (p0.toUInt32 >>> ((1 : Int32).toUInt32 &&& Int32.toUInt32 31)).toInt32) hx hb dJ6_bitCount_0f7a4_3 rfl ?_
  refine lv_ldcw (v := (1431655765 : Int32)) hx hb S.2.2.2.1 (S.2.2.2.2 _ (List.mem_cons_of_mem _ (uw_in 268 rfl rfl))) dJ6_bitCount_0f7a4_4 ?_
  refine lv_iand hx hb dJ6_bitCount_0f7a4_7 ?_
  refine lv_isub hx hb dJ6_bitCount_0f7a4_8 ?_
  refine lv_istore_n (lv' := [(0, .int (p0 - ((p0.toUInt32 >>> ((1 : Int32).toUInt32 &&& Int32.toUInt32 31)).toInt32 &&& (1431655765 : Int32))))]) hx hb dJ6_bitCount_0f7a4_9 rfl hl (Nat.le_of_ble_eq_true rfl) rfl (fun ls hl => ?_)
  refine lv_iload_n hx hb dJ6_bitCount_0f7a4_10 rfl (lv_at hl 0 rfl) ?_
  refine lv_ldcw (v := (858993459 : Int32)) hx hb S.2.2.2.1 (S.2.2.2.2 _ (List.mem_cons_of_mem _ (uw_in 269 rfl rfl))) dJ6_bitCount_0f7a4_11 ?_
  refine lv_iand hx hb dJ6_bitCount_0f7a4_14 ?_
  refine lv_iload_n hx hb dJ6_bitCount_0f7a4_15 rfl (lv_at hl 0 rfl) ?_
  refine lv_iconst (v := (2 : Int32)) hx hb dJ6_bitCount_0f7a4_16 (by decide) ?_
  refine lv_iushr (v := ((p0 - ((p0.toUInt32 >>> ((1 : Int32).toUInt32 &&& Int32.toUInt32 31)).toInt32 &&& (1431655765 : Int32))).toUInt32 >>> ((2 : Int32).toUInt32 &&& Int32.toUInt32 31)).toInt32) hx hb dJ6_bitCount_0f7a4_17 rfl ?_
  refine lv_ldcw (v := (858993459 : Int32)) hx hb S.2.2.2.1 (S.2.2.2.2 _ (List.mem_cons_of_mem _ (uw_in 269 rfl rfl))) dJ6_bitCount_0f7a4_18 ?_
  refine lv_iand hx hb dJ6_bitCount_0f7a4_21 ?_
  refine lv_iadd hx hb dJ6_bitCount_0f7a4_22 ?_
  refine lv_istore_n (lv' := [(0, .int (((p0 - ((p0.toUInt32 >>> ((1 : Int32).toUInt32 &&& Int32.toUInt32 31)).toInt32 &&& (1431655765 : Int32))) &&& (858993459 : Int32)) + (((p0 - ((p0.toUInt32 >>> ((1 : Int32).toUInt32 &&& Int32.toUInt32 31)).toInt32 &&& (1431655765 : Int32))).toUInt32 >>> ((2 : Int32).toUInt32 &&& Int32.toUInt32 31)).toInt32 &&& (858993459 : Int32))))]) hx hb dJ6_bitCount_0f7a4_23 rfl hl (Nat.le_of_ble_eq_true rfl) rfl (fun ls hl => ?_)
  refine lv_iload_n hx hb dJ6_bitCount_0f7a4_24 rfl (lv_at hl 0 rfl) ?_
  refine lv_iload_n hx hb dJ6_bitCount_0f7a4_25 rfl (lv_at hl 0 rfl) ?_
  refine lv_iconst (v := (4 : Int32)) hx hb dJ6_bitCount_0f7a4_26 (by decide) ?_
  refine lv_iushr (v := ((((p0 - ((p0.toUInt32 >>> ((1 : Int32).toUInt32 &&& Int32.toUInt32 31)).toInt32 &&& (1431655765 : Int32))) &&& (858993459 : Int32)) + (((p0 - ((p0.toUInt32 >>> ((1 : Int32).toUInt32 &&& Int32.toUInt32 31)).toInt32 &&& (1431655765 : Int32))).toUInt32 >>> ((2 : Int32).toUInt32 &&& Int32.toUInt32 31)).toInt32 &&& (858993459 : Int32))).toUInt32 >>> ((4 : Int32).toUInt32 &&& Int32.toUInt32 31)).toInt32) hx hb dJ6_bitCount_0f7a4_27 rfl ?_
  refine lv_iadd hx hb dJ6_bitCount_0f7a4_28 ?_
  refine lv_ldcw (v := (252645135 : Int32)) hx hb S.2.2.2.1 (S.2.2.2.2 _ (List.mem_cons_of_mem _ (uw_in 270 rfl rfl))) dJ6_bitCount_0f7a4_29 ?_
  refine lv_iand hx hb dJ6_bitCount_0f7a4_32 ?_
  refine lv_istore_n (lv' := [(0, .int (((((p0 - ((p0.toUInt32 >>> ((1 : Int32).toUInt32 &&& Int32.toUInt32 31)).toInt32 &&& (1431655765 : Int32))) &&& (858993459 : Int32)) + (((p0 - ((p0.toUInt32 >>> ((1 : Int32).toUInt32 &&& Int32.toUInt32 31)).toInt32 &&& (1431655765 : Int32))).toUInt32 >>> ((2 : Int32).toUInt32 &&& Int32.toUInt32 31)).toInt32 &&& (858993459 : Int32))) + ((((p0 - ((p0.toUInt32 >>> ((1 : Int32).toUInt32 &&& Int32.toUInt32 31)).toInt32 &&& (1431655765 : Int32))) &&& (858993459 : Int32)) + (((p0 - ((p0.toUInt32 >>> ((1 : Int32).toUInt32 &&& Int32.toUInt32 31)).toInt32 &&& (1431655765 : Int32))).toUInt32 >>> ((2 : Int32).toUInt32 &&& Int32.toUInt32 31)).toInt32 &&& (858993459 : Int32))).toUInt32 >>> ((4 : Int32).toUInt32 &&& Int32.toUInt32 31)).toInt32) &&& (252645135 : Int32)))]) hx hb dJ6_bitCount_0f7a4_33 rfl hl (Nat.le_of_ble_eq_true rfl) rfl (fun ls hl => ?_)
  refine lv_iload_n hx hb dJ6_bitCount_0f7a4_34 rfl (lv_at hl 0 rfl) ?_
  refine lv_iload_n hx hb dJ6_bitCount_0f7a4_35 rfl (lv_at hl 0 rfl) ?_
  refine lv_bipush (v := (8 : Int32)) hx hb dJ6_bitCount_0f7a4_36 (by decide) ?_
  refine lv_iushr (v := ((((((p0 - ((p0.toUInt32 >>> ((1 : Int32).toUInt32 &&& Int32.toUInt32 31)).toInt32 &&& (1431655765 : Int32))) &&& (858993459 : Int32)) + (((p0 - ((p0.toUInt32 >>> ((1 : Int32).toUInt32 &&& Int32.toUInt32 31)).toInt32 &&& (1431655765 : Int32))).toUInt32 >>> ((2 : Int32).toUInt32 &&& Int32.toUInt32 31)).toInt32 &&& (858993459 : Int32))) + ((((p0 - ((p0.toUInt32 >>> ((1 : Int32).toUInt32 &&& Int32.toUInt32 31)).toInt32 &&& (1431655765 : Int32))) &&& (858993459 : Int32)) + (((p0 - ((p0.toUInt32 >>> ((1 : Int32).toUInt32 &&& Int32.toUInt32 31)).toInt32 &&& (1431655765 : Int32))).toUInt32 >>> ((2 : Int32).toUInt32 &&& Int32.toUInt32 31)).toInt32 &&& (858993459 : Int32))).toUInt32 >>> ((4 : Int32).toUInt32 &&& Int32.toUInt32 31)).toInt32) &&& (252645135 : Int32)).toUInt32 >>> ((8 : Int32).toUInt32 &&& Int32.toUInt32 31)).toInt32) hx hb dJ6_bitCount_0f7a4_38 rfl ?_
  refine lv_iadd hx hb dJ6_bitCount_0f7a4_39 ?_
  refine lv_istore_n (lv' := [(0, .int ((((((p0 - ((p0.toUInt32 >>> ((1 : Int32).toUInt32 &&& Int32.toUInt32 31)).toInt32 &&& (1431655765 : Int32))) &&& (858993459 : Int32)) + (((p0 - ((p0.toUInt32 >>> ((1 : Int32).toUInt32 &&& Int32.toUInt32 31)).toInt32 &&& (1431655765 : Int32))).toUInt32 >>> ((2 : Int32).toUInt32 &&& Int32.toUInt32 31)).toInt32 &&& (858993459 : Int32))) + ((((p0 - ((p0.toUInt32 >>> ((1 : Int32).toUInt32 &&& Int32.toUInt32 31)).toInt32 &&& (1431655765 : Int32))) &&& (858993459 : Int32)) + (((p0 - ((p0.toUInt32 >>> ((1 : Int32).toUInt32 &&& Int32.toUInt32 31)).toInt32 &&& (1431655765 : Int32))).toUInt32 >>> ((2 : Int32).toUInt32 &&& Int32.toUInt32 31)).toInt32 &&& (858993459 : Int32))).toUInt32 >>> ((4 : Int32).toUInt32 &&& Int32.toUInt32 31)).toInt32) &&& (252645135 : Int32)) + ((((((p0 - ((p0.toUInt32 >>> ((1 : Int32).toUInt32 &&& Int32.toUInt32 31)).toInt32 &&& (1431655765 : Int32))) &&& (858993459 : Int32)) + (((p0 - ((p0.toUInt32 >>> ((1 : Int32).toUInt32 &&& Int32.toUInt32 31)).toInt32 &&& (1431655765 : Int32))).toUInt32 >>> ((2 : Int32).toUInt32 &&& Int32.toUInt32 31)).toInt32 &&& (858993459 : Int32))) + ((((p0 - ((p0.toUInt32 >>> ((1 : Int32).toUInt32 &&& Int32.toUInt32 31)).toInt32 &&& (1431655765 : Int32))) &&& (858993459 : Int32)) + (((p0 - ((p0.toUInt32 >>> ((1 : Int32).toUInt32 &&& Int32.toUInt32 31)).toInt32 &&& (1431655765 : Int32))).toUInt32 >>> ((2 : Int32).toUInt32 &&& Int32.toUInt32 31)).toInt32 &&& (858993459 : Int32))).toUInt32 >>> ((4 : Int32).toUInt32 &&& Int32.toUInt32 31)).toInt32) &&& (252645135 : Int32)).toUInt32 >>> ((8 : Int32).toUInt32 &&& Int32.toUInt32 31)).toInt32))]) hx hb dJ6_bitCount_0f7a4_40 rfl hl (Nat.le_of_ble_eq_true rfl) rfl (fun ls hl => ?_)
  refine lv_iload_n hx hb dJ6_bitCount_0f7a4_41 rfl (lv_at hl 0 rfl) ?_
  refine lv_iload_n hx hb dJ6_bitCount_0f7a4_42 rfl (lv_at hl 0 rfl) ?_
  refine lv_bipush (v := (16 : Int32)) hx hb dJ6_bitCount_0f7a4_43 (by decide) ?_
  refine lv_iushr (v := (((((((p0 - ((p0.toUInt32 >>> ((1 : Int32).toUInt32 &&& Int32.toUInt32 31)).toInt32 &&& (1431655765 : Int32))) &&& (858993459 : Int32)) + (((p0 - ((p0.toUInt32 >>> ((1 : Int32).toUInt32 &&& Int32.toUInt32 31)).toInt32 &&& (1431655765 : Int32))).toUInt32 >>> ((2 : Int32).toUInt32 &&& Int32.toUInt32 31)).toInt32 &&& (858993459 : Int32))) + ((((p0 - ((p0.toUInt32 >>> ((1 : Int32).toUInt32 &&& Int32.toUInt32 31)).toInt32 &&& (1431655765 : Int32))) &&& (858993459 : Int32)) + (((p0 - ((p0.toUInt32 >>> ((1 : Int32).toUInt32 &&& Int32.toUInt32 31)).toInt32 &&& (1431655765 : Int32))).toUInt32 >>> ((2 : Int32).toUInt32 &&& Int32.toUInt32 31)).toInt32 &&& (858993459 : Int32))).toUInt32 >>> ((4 : Int32).toUInt32 &&& Int32.toUInt32 31)).toInt32) &&& (252645135 : Int32)) + ((((((p0 - ((p0.toUInt32 >>> ((1 : Int32).toUInt32 &&& Int32.toUInt32 31)).toInt32 &&& (1431655765 : Int32))) &&& (858993459 : Int32)) + (((p0 - ((p0.toUInt32 >>> ((1 : Int32).toUInt32 &&& Int32.toUInt32 31)).toInt32 &&& (1431655765 : Int32))).toUInt32 >>> ((2 : Int32).toUInt32 &&& Int32.toUInt32 31)).toInt32 &&& (858993459 : Int32))) + ((((p0 - ((p0.toUInt32 >>> ((1 : Int32).toUInt32 &&& Int32.toUInt32 31)).toInt32 &&& (1431655765 : Int32))) &&& (858993459 : Int32)) + (((p0 - ((p0.toUInt32 >>> ((1 : Int32).toUInt32 &&& Int32.toUInt32 31)).toInt32 &&& (1431655765 : Int32))).toUInt32 >>> ((2 : Int32).toUInt32 &&& Int32.toUInt32 31)).toInt32 &&& (858993459 : Int32))).toUInt32 >>> ((4 : Int32).toUInt32 &&& Int32.toUInt32 31)).toInt32) &&& (252645135 : Int32)).toUInt32 >>> ((8 : Int32).toUInt32 &&& Int32.toUInt32 31)).toInt32).toUInt32 >>> ((16 : Int32).toUInt32 &&& Int32.toUInt32 31)).toInt32) hx hb dJ6_bitCount_0f7a4_45 rfl ?_
  refine lv_iadd hx hb dJ6_bitCount_0f7a4_46 ?_
  refine lv_istore_n (lv' := [(0, .int (((((((p0 - ((p0.toUInt32 >>> ((1 : Int32).toUInt32 &&& Int32.toUInt32 31)).toInt32 &&& (1431655765 : Int32))) &&& (858993459 : Int32)) + (((p0 - ((p0.toUInt32 >>> ((1 : Int32).toUInt32 &&& Int32.toUInt32 31)).toInt32 &&& (1431655765 : Int32))).toUInt32 >>> ((2 : Int32).toUInt32 &&& Int32.toUInt32 31)).toInt32 &&& (858993459 : Int32))) + ((((p0 - ((p0.toUInt32 >>> ((1 : Int32).toUInt32 &&& Int32.toUInt32 31)).toInt32 &&& (1431655765 : Int32))) &&& (858993459 : Int32)) + (((p0 - ((p0.toUInt32 >>> ((1 : Int32).toUInt32 &&& Int32.toUInt32 31)).toInt32 &&& (1431655765 : Int32))).toUInt32 >>> ((2 : Int32).toUInt32 &&& Int32.toUInt32 31)).toInt32 &&& (858993459 : Int32))).toUInt32 >>> ((4 : Int32).toUInt32 &&& Int32.toUInt32 31)).toInt32) &&& (252645135 : Int32)) + ((((((p0 - ((p0.toUInt32 >>> ((1 : Int32).toUInt32 &&& Int32.toUInt32 31)).toInt32 &&& (1431655765 : Int32))) &&& (858993459 : Int32)) + (((p0 - ((p0.toUInt32 >>> ((1 : Int32).toUInt32 &&& Int32.toUInt32 31)).toInt32 &&& (1431655765 : Int32))).toUInt32 >>> ((2 : Int32).toUInt32 &&& Int32.toUInt32 31)).toInt32 &&& (858993459 : Int32))) + ((((p0 - ((p0.toUInt32 >>> ((1 : Int32).toUInt32 &&& Int32.toUInt32 31)).toInt32 &&& (1431655765 : Int32))) &&& (858993459 : Int32)) + (((p0 - ((p0.toUInt32 >>> ((1 : Int32).toUInt32 &&& Int32.toUInt32 31)).toInt32 &&& (1431655765 : Int32))).toUInt32 >>> ((2 : Int32).toUInt32 &&& Int32.toUInt32 31)).toInt32 &&& (858993459 : Int32))).toUInt32 >>> ((4 : Int32).toUInt32 &&& Int32.toUInt32 31)).toInt32) &&& (252645135 : Int32)).toUInt32 >>> ((8 : Int32).toUInt32 &&& Int32.toUInt32 31)).toInt32) + (((((((p0 - ((p0.toUInt32 >>> ((1 : Int32).toUInt32 &&& Int32.toUInt32 31)).toInt32 &&& (1431655765 : Int32))) &&& (858993459 : Int32)) + (((p0 - ((p0.toUInt32 >>> ((1 : Int32).toUInt32 &&& Int32.toUInt32 31)).toInt32 &&& (1431655765 : Int32))).toUInt32 >>> ((2 : Int32).toUInt32 &&& Int32.toUInt32 31)).toInt32 &&& (858993459 : Int32))) + ((((p0 - ((p0.toUInt32 >>> ((1 : Int32).toUInt32 &&& Int32.toUInt32 31)).toInt32 &&& (1431655765 : Int32))) &&& (858993459 : Int32)) + (((p0 - ((p0.toUInt32 >>> ((1 : Int32).toUInt32 &&& Int32.toUInt32 31)).toInt32 &&& (1431655765 : Int32))).toUInt32 >>> ((2 : Int32).toUInt32 &&& Int32.toUInt32 31)).toInt32 &&& (858993459 : Int32))).toUInt32 >>> ((4 : Int32).toUInt32 &&& Int32.toUInt32 31)).toInt32) &&& (252645135 : Int32)) + ((((((p0 - ((p0.toUInt32 >>> ((1 : Int32).toUInt32 &&& Int32.toUInt32 31)).toInt32 &&& (1431655765 : Int32))) &&& (858993459 : Int32)) + (((p0 - ((p0.toUInt32 >>> ((1 : Int32).toUInt32 &&& Int32.toUInt32 31)).toInt32 &&& (1431655765 : Int32))).toUInt32 >>> ((2 : Int32).toUInt32 &&& Int32.toUInt32 31)).toInt32 &&& (858993459 : Int32))) + ((((p0 - ((p0.toUInt32 >>> ((1 : Int32).toUInt32 &&& Int32.toUInt32 31)).toInt32 &&& (1431655765 : Int32))) &&& (858993459 : Int32)) + (((p0 - ((p0.toUInt32 >>> ((1 : Int32).toUInt32 &&& Int32.toUInt32 31)).toInt32 &&& (1431655765 : Int32))).toUInt32 >>> ((2 : Int32).toUInt32 &&& Int32.toUInt32 31)).toInt32 &&& (858993459 : Int32))).toUInt32 >>> ((4 : Int32).toUInt32 &&& Int32.toUInt32 31)).toInt32) &&& (252645135 : Int32)).toUInt32 >>> ((8 : Int32).toUInt32 &&& Int32.toUInt32 31)).toInt32).toUInt32 >>> ((16 : Int32).toUInt32 &&& Int32.toUInt32 31)).toInt32))]) hx hb dJ6_bitCount_0f7a4_47 rfl hl (Nat.le_of_ble_eq_true rfl) rfl (fun ls hl => ?_)
  refine lv_iload_n hx hb dJ6_bitCount_0f7a4_48 rfl (lv_at hl 0 rfl) ?_
  refine lv_bipush (v := (63 : Int32)) hx hb dJ6_bitCount_0f7a4_49 (by decide) ?_
  refine lv_iand hx hb dJ6_bitCount_0f7a4_51 ?_
  cases hrun
  exact me_ri S hK Y hr hlk rfl dJ6_bitCount_0f7a4_52
def fJ9_floorMod_7cf53 (p0 p1 : Int32) : Option Int32 := (o_k (¬ p1 = 0) (if 0 ≤ (p0 ^^^ p1) then (some (p0 - p0 / p1 * p1)) else (if (p0 - p0 / p1 * p1) = 0 then (some (p0 - p0 / p1 * p1)) else (some ((p0 - p0 / p1 * p1) + p1)))))
set_option maxRecDepth 100000 in
set_option maxHeartbeats 4000000 in
theorem mJ9_floorMod_7cf53 (l : Launch) (D : va_G) (p0 p1 : Int32) (r : Int32) (hrun : fJ9_floorMod_7cf53 p0 p1 = some r) : me_I l D [] yJ9_floorMod_7cf53 cJ9_floorMod_7cf53 3 .int 0 0 [] [.int p0, .int p1] r [] := by
  refine me_ofI (by decide +kernel) (Nat.le_of_ble_eq_true rfl) ?_
  intro p e s m args below meth c A ls S hK Y hA hl hr hlk hZ
  have hx := S.1
  have hb := S.2.1
  have hl : lv_has ls 3 [(0, .int p0), (1, .int p1)] := hl
  unfold fJ9_floorMod_7cf53 at hrun
  refine lv_iload_n hx hb dJ9_floorMod_7cf53_0 rfl (lv_at hl 0 rfl) ?_
  refine lv_iload_n hx hb dJ9_floorMod_7cf53_1 rfl (lv_at hl 1 rfl) ?_
  obtain ⟨c_1, hrun⟩ := o_kh hrun
  refine lv_irem hx hb dJ9_floorMod_7cf53_2 c_1 ?_
  refine lv_istore_n (lv' := [(2, .int (p0 - p0 / p1 * p1)), (0, .int p0), (1, .int p1)]) hx hb dJ9_floorMod_7cf53_3 rfl hl (Nat.le_of_ble_eq_true rfl) rfl (fun ls hl => ?_)
  refine lv_iload_n hx hb dJ9_floorMod_7cf53_4 rfl (lv_at hl 1 rfl) ?_
  refine lv_iload_n hx hb dJ9_floorMod_7cf53_5 rfl (lv_at hl 2 rfl) ?_
  refine lv_ixor hx hb dJ9_floorMod_7cf53_6 ?_
  refine lv_if_ge (tgt := 18) hx hb dJ9_floorMod_7cf53_7 (by decide) (fun c_2 => ?_) (fun c_2 => ?_)
  · have hrun := o_t hrun c_2
    refine lv_iload_n hx hb dJ9_floorMod_7cf53_18 rfl (lv_at hl 0 rfl) ?_
    cases hrun
    exact me_ri S hK Y hr hlk rfl dJ9_floorMod_7cf53_19
  · have hrun := o_f hrun c_2
    refine lv_iload_n hx hb dJ9_floorMod_7cf53_10 rfl (lv_at hl 0 rfl) ?_
    refine lv_if_eq (tgt := 18) hx hb dJ9_floorMod_7cf53_11 (by decide) (fun c_3 => ?_) (fun c_3 => ?_)
    · have hrun := o_t hrun c_3
      refine lv_iload_n hx hb dJ9_floorMod_7cf53_18 rfl (lv_at hl 0 rfl) ?_
      cases hrun
      exact me_ri S hK Y hr hlk rfl dJ9_floorMod_7cf53_19
    · have hrun := o_f hrun c_3
      refine lv_iload_n hx hb dJ9_floorMod_7cf53_14 rfl (lv_at hl 0 rfl) ?_
      refine lv_iload_n hx hb dJ9_floorMod_7cf53_15 rfl (lv_at hl 2 rfl) ?_
      refine lv_iadd hx hb dJ9_floorMod_7cf53_16 ?_
      cases hrun
      exact me_ri S hK Y hr hlk rfl dJ9_floorMod_7cf53_17
def fJ9_max_7cf53 (p0 p1 : Int32) : Option Int32 := (if p0 < p1 then (some p1) else (some p0))
set_option maxRecDepth 100000 in
set_option maxHeartbeats 4000000 in
theorem mJ9_max_7cf53 (l : Launch) (D : va_G) (p0 p1 : Int32) (r : Int32) (hrun : fJ9_max_7cf53 p0 p1 = some r) : me_I l D [] yJ9_max_7cf53 cJ9_max_7cf53 2 .int 0 0 [] [.int p0, .int p1] r [] := by
  refine me_ofI (by decide +kernel) (Nat.le_of_ble_eq_true rfl) ?_
  intro p e s m args below meth c A ls S hK Y hA hl hr hlk hZ
  have hx := S.1
  have hb := S.2.1
  have hl : lv_has ls 2 [(0, .int p0), (1, .int p1)] := hl
  unfold fJ9_max_7cf53 at hrun
  refine lv_iload_n hx hb dJ9_max_7cf53_0 rfl (lv_at hl 0 rfl) ?_
  refine lv_iload_n hx hb dJ9_max_7cf53_1 rfl (lv_at hl 1 rfl) ?_
  refine lv_icmp_lt (tgt := 9) hx hb dJ9_max_7cf53_2 (by decide) (fun c_1 => ?_) (fun c_1 => ?_)
  · have hrun := o_t hrun c_1
    refine lv_iload_n hx hb dJ9_max_7cf53_9 rfl (lv_at hl 1 rfl) ?_
    cases hrun
    exact me_ri S hK Y hr hlk rfl dJ9_max_7cf53_10
  · have hrun := o_f hrun c_1
    refine lv_iload_n hx hb dJ9_max_7cf53_5 rfl (lv_at hl 0 rfl) ?_
    refine lv_goto (tgt := 10) hx hb dJ9_max_7cf53_6 (by decide) ?_
    cases hrun
    exact me_ri S hK Y hr hlk rfl dJ9_max_7cf53_10
def fJ9_min_7cf53 (p0 p1 : Int32) : Option Int32 := (if p1 < p0 then (some p1) else (some p0))
set_option maxRecDepth 100000 in
set_option maxHeartbeats 4000000 in
theorem mJ9_min_7cf53 (l : Launch) (D : va_G) (p0 p1 : Int32) (r : Int32) (hrun : fJ9_min_7cf53 p0 p1 = some r) : me_I l D [] yJ9_min_7cf53 cJ9_min_7cf53 2 .int 0 0 [] [.int p0, .int p1] r [] := by
  refine me_ofI (by decide +kernel) (Nat.le_of_ble_eq_true rfl) ?_
  intro p e s m args below meth c A ls S hK Y hA hl hr hlk hZ
  have hx := S.1
  have hb := S.2.1
  have hl : lv_has ls 2 [(0, .int p0), (1, .int p1)] := hl
  unfold fJ9_min_7cf53 at hrun
  refine lv_iload_n hx hb dJ9_min_7cf53_0 rfl (lv_at hl 0 rfl) ?_
  refine lv_iload_n hx hb dJ9_min_7cf53_1 rfl (lv_at hl 1 rfl) ?_
  refine lv_icmp_gt (tgt := 9) hx hb dJ9_min_7cf53_2 (by decide) (fun c_1 => ?_) (fun c_1 => ?_)
  · have hrun := o_t hrun c_1
    refine lv_iload_n hx hb dJ9_min_7cf53_9 rfl (lv_at hl 1 rfl) ?_
    cases hrun
    exact me_ri S hK Y hr hlk rfl dJ9_min_7cf53_10
  · have hrun := o_f hrun c_1
    refine lv_iload_n hx hb dJ9_min_7cf53_5 rfl (lv_at hl 0 rfl) ?_
    refine lv_goto (tgt := 10) hx hb dJ9_min_7cf53_6 (by decide) ?_
    cases hrun
    exact me_ri S hK Y hr hlk rfl dJ9_min_7cf53_10
def fX2_changeSetting (p1 p2 : Int32) (σ : sg_T) : Option (Int32 × sg_T) := ((fX5_isSetting p1).bind fun r_1 => (if r_1 = 0 then (some ((-10002 : Int32), σ)) else (o_x p1 4 (if p2 < (zs_f 0 (p1).toNatClampNeg) then (some ((-10002 : Int32), σ)) else (if p2 ≤ (zs_f 1 (p1).toNatClampNeg) then (some (((σ 1) (p1).toNatClampNeg), (sg_a σ 1 (upd (σ 1) (p1).toNatClampNeg p2)))) else (some ((-10002 : Int32), σ)))))))
set_option maxRecDepth 100000 in
set_option maxHeartbeats 4000000 in
theorem mX2_changeSetting (l : Launch) (D : va_G) (cI : ClassId) (h : Nat → Nat) (σ : sg_T) (p1 p2 : Int32) (r : Int32) (σ' : sg_T) (hrun : fX2_changeSetting p1 p2 σ = some (r, σ')) : me_I l D (tS cI) yX2_changeSetting cX2_changeSetting 4 .int 1 20 (wS cI h σ) [.ref (h 0), .int p1, .int p2] r (wS cI h σ') := by
  refine me_ofI (plainFor_of_name (by decide)) (Nat.le_of_ble_eq_true rfl) ?_
  intro p e s m args below meth c A ls S hK Y hA hl hr hlk hZ
  have hx := S.1
  have hb := S.2.1
  obtain ⟨-, hN0, hN1, t0, t1, hZ0, hT0, hZ1, hT1⟩ := id hZ
  have hl : lv_has ls 4 [(0, .ref (h 0)), (1, .int p1), (2, .int p2)] := hl
  unfold fX2_changeSetting at hrun
  refine lv_iload_n hx hb dX2_changeSetting_0 rfl (lv_at hl 1 rfl) ?_
  obtain ⟨r_1, e_2, hrun⟩ := o_bh hrun
  refine cp_s (As := [.int p1]) (rest := []) S hK hA hZ Y hl.1 (mX5_isSetting l D p1 r_1 e_2) kX2_9 ⟨Nat.le_of_ble_eq_true rfl, Nat.le_of_ble_eq_true rfl⟩ rfl rfl (Nat.le_of_ble_eq_true rfl) ⟨Nat.le_of_ble_eq_true rfl, Nat.le_of_ble_eq_true rfl⟩ dX2_changeSetting_1 (fun H locs Y => ?_)
  refine lv_if_ne (tgt := 11) hx hb dX2_changeSetting_4 (by decide) (fun c_3 => ?_) (fun c_3 => ?_)
  · have hrun := o_f hrun c_3
    refine lv_iload_n hx hb dX2_changeSetting_11 rfl (lv_at hl 2 rfl) ?_
    refine va_getsN hx hb hZ0 Y.2.2 S.2.2.2.1 (va_Nw.use rfl hN0) (fun _ h9 => h9) dX2_changeSetting_12 ?_
    refine lv_iload_n hx hb dX2_changeSetting_15 rfl (lv_at hl 1 rfl) ?_
    obtain ⟨b_4, hrun⟩ := o_xh hrun
    refine va_ti (v := .int (zs_f 0 (p1).toNatClampNeg)) hx hb hT0 Y.2.2 b_4 rfl dX2_changeSetting_16 ?_
    refine lv_icmp_lt (tgt := 29) hx hb dX2_changeSetting_17 (by decide) (fun c_5 => ?_) (fun c_5 => ?_)
    · have hrun := o_t hrun c_5
      refine lv_sipush (v := (-10002 : Int32)) hx hb dX2_changeSetting_29 (by decide) ?_
      cases hrun
      exact me_ri S hK Y hr hlk rfl dX2_changeSetting_32
    · have hrun := o_f hrun c_5
      refine lv_iload_n hx hb dX2_changeSetting_20 rfl (lv_at hl 2 rfl) ?_
      refine va_getsN hx hb hZ1 Y.2.2 S.2.2.2.1 (va_Nw.use rfl hN1) (fun _ h9 => h9) dX2_changeSetting_21 ?_
      refine lv_iload_n hx hb dX2_changeSetting_24 rfl (lv_at hl 1 rfl) ?_
      refine va_ti (v := .int (zs_f 1 (p1).toNatClampNeg)) hx hb hT1 Y.2.2 b_4 rfl dX2_changeSetting_25 ?_
      refine lv_icmp_le (tgt := 33) hx hb dX2_changeSetting_26 (by decide) (fun c_6 => ?_) (fun c_6 => ?_)
      · have hrun := o_t hrun c_6
        refine lv_aload_n hx hb dX2_changeSetting_33 rfl (lv_at hl 0 rfl) ?_
        refine ig S hK Y fX2_22 0 rfl (v := .ref (h 1)) rfl dX2_changeSetting_34 ?_
        refine lv_iload_n hx hb dX2_changeSetting_37 rfl (lv_at hl 1 rfl) ?_
        refine ia S hK Y 1 0 (f := (σ 1)) rfl rfl b_4 dX2_changeSetting_38 ?_
        refine lv_istore_n (lv' := [(3, .int ((σ 1) (p1).toNatClampNeg)), (0, .ref (h 0)), (1, .int p1), (2, .int p2)]) hx hb dX2_changeSetting_39 rfl hl (Nat.le_of_ble_eq_true rfl) rfl (fun ls hl => ?_)
        refine lv_aload_n hx hb dX2_changeSetting_40 rfl (lv_at hl 1 rfl) ?_
        refine ig S hK Y fX2_22 0 rfl (v := .ref (h 1)) rfl dX2_changeSetting_41 ?_
        refine lv_iload_n hx hb dX2_changeSetting_44 rfl (lv_at hl 2 rfl) ?_
        refine lv_iload_n hx hb dX2_changeSetting_45 rfl (lv_at hl 3 rfl) ?_
        refine iw S hK Y 1 0 (f := (σ 1)) rfl rfl b_4 (ws' := (wS cI h (sg_a σ 1 (upd (σ 1) (p1).toNatClampNeg p2)))) (wS_a1 _ _ _) dX2_changeSetting_46 (fun H locs Y => ?_)
        refine lv_iload_n hx hb dX2_changeSetting_47 rfl (lv_at hl 0 rfl) ?_
        cases hrun
        exact me_ri S hK Y hr hlk rfl dX2_changeSetting_48
      · have hrun := o_f hrun c_6
        refine lv_sipush (v := (-10002 : Int32)) hx hb dX2_changeSetting_29 (by decide) ?_
        cases hrun
        exact me_ri S hK Y hr hlk rfl dX2_changeSetting_32
  · have hrun := o_t hrun c_3
    refine lv_sipush (v := (-10002 : Int32)) hx hb dX2_changeSetting_7 (by decide) ?_
    cases hrun
    exact me_ri S hK Y hr hlk rfl dX2_changeSetting_10
def lX2_letAllEscape_2 : Nat → Int32 → (sg_T) → Option (sg_T)
  | 0, _, _ => none
  | n + 1, a1, σ => (if (σ 0 0) ≤ a1 then (some (σ)) else ((fX5_isHidden a1 σ).bind fun r_2 => (if r_2 = 0 then (lX2_letAllEscape_2 n (a1 + (1 : Int32)) σ) else ((fX2_escape a1 (1 : Int32) σ).bind fun σ5 => (lX2_letAllEscape_2 n (a1 + (1 : Int32)) σ5)))))
def fX2_letAllEscape (σ : sg_T) : Option (sg_T) := (lX2_letAllEscape_2 70 (0 : Int32) σ)
set_option maxRecDepth 100000 in
set_option maxHeartbeats 4000000 in
theorem mX2_letAllEscape (l : Launch) (D : va_G) (cI : ClassId) (h : Nat → Nat) (σ : sg_T) (σ' : sg_T) (hrun : fX2_letAllEscape σ = some σ') : me_V l D (tS cI) yX2_letAllEscape cX2_letAllEscape 2 2 42 (wS cI h σ) [.ref (h 0)] (wS cI h σ') := by
  refine me_ofV (plainFor_of_name (by decide)) (Nat.le_of_ble_eq_true rfl) ?_
  intro p e s m args below meth c A ls S hK Y hA hl hr hlk hZ
  have hx := S.1
  have hb := S.2.1
  have hl : lv_has ls 2 [(0, .ref (h 0))] := hl
  have lp2 : ∀ (n : Nat) (a1 : Int32) (σ : sg_T), lX2_letAllEscape_2 n a1 σ = some σ' → ∀ (H : Heap) (locs : List Loc) (ls : Array Slot), dy_ D A s (wS cI h σ) H locs → lv_has ls 2 [(0, .ref (h 0)), (1, .int a1)] → W p l e (rm_ 2 42) s m args below meth c H locs 0 0 (MQ below (me_Qv D (tS cI) A (wS cI h σ')) args s 0 0 A) (F0 m 2 ls []) := by
    intro n
    induction n with
    | zero => intro a1 σ hrun; cases hrun
    | succ n ih =>
      intro a1 σ hrun H locs ls Y hl
      unfold lX2_letAllEscape_2 at hrun
      refine lv_iload_n hx hb dX2_letAllEscape_2 rfl (lv_at hl 1 rfl) ?_
      refine lv_aload_n hx hb dX2_letAllEscape_3 rfl (lv_at hl 0 rfl) ?_
      refine ig S hK Y fX2_29 0 rfl (v := .int (σ 0 0)) rfl dX2_letAllEscape_4 ?_
      refine lv_icmp_ge (tgt := 30) hx hb dX2_letAllEscape_7 (by decide) (fun c_1 => ?_) (fun c_1 => ?_)
      · have hrun := o_t hrun c_1
        cases hrun
        exact me_rv S hK Y hr hlk dX2_letAllEscape_30
      · have hrun := o_f hrun c_1
        refine lv_aload_n hx hb dX2_letAllEscape_10 rfl (lv_at hl 0 rfl) ?_
        refine lv_iload_n hx hb dX2_letAllEscape_11 rfl (lv_at hl 1 rfl) ?_
        obtain ⟨r_2, e_3, hrun⟩ := o_bh hrun
        refine cf_v (As := [.int a1]) (rest := []) S hK hA hZ Y hl.1 (mX5_isHidden l D cI h σ a1 r_2 e_3) kX2_58 (T := TX5) (N := 16) rfl (q0 := 0) rfl ⟨Nat.le_of_ble_eq_true rfl, Nat.le_of_ble_eq_true rfl⟩ rfl rfl (Nat.le_of_ble_eq_true rfl) ⟨Nat.le_of_ble_eq_true rfl, Nat.le_of_ble_eq_true rfl⟩ dX2_letAllEscape_12 (fun H locs Y => ?_)
        refine lv_if_eq (tgt := 24) hx hb dX2_letAllEscape_15 (by decide) (fun c_4 => ?_) (fun c_4 => ?_)
        · have hrun := o_t hrun c_4
          refine lv_iinc (v := (a1 + (1 : Int32))) (lv' := [(1, .int (a1 + (1 : Int32))), (0, .ref (h 0))]) hx hb dX2_letAllEscape_24 hl (k := 1) rfl (by rfl) (Nat.le_of_ble_eq_true rfl) rfl (fun ls hl => ?_)
          refine lv_goto (tgt := 2) hx hb dX2_letAllEscape_27 (by decide) ?_
          exact ih (a1 + (1 : Int32)) σ hrun _ _ _ Y (lv_sub hl [1, 0] rfl)
        · have hrun := o_f hrun c_4
          refine lv_aload_n hx hb dX2_letAllEscape_18 rfl (lv_at hl 0 rfl) ?_
          refine lv_iload_n hx hb dX2_letAllEscape_19 rfl (lv_at hl 1 rfl) ?_
          refine lv_iconst (v := (1 : Int32)) hx hb dX2_letAllEscape_20 (by decide) ?_
          obtain ⟨σ5, e_6, hrun⟩ := o_bh hrun
          refine cf_sv (As := [.ref (h 0), .int a1, .int (1 : Int32)]) (rest := []) S hK hA hZ Y hl.1 (mX2_escape l D cI h σ a1 (1 : Int32) σ5 e_6) kX2_106 ⟨Nat.le_of_ble_eq_true rfl, Nat.le_of_ble_eq_true rfl⟩ rfl rfl (Nat.le_of_ble_eq_true rfl) ⟨Nat.le_of_ble_eq_true rfl, Nat.le_of_ble_eq_true rfl⟩ dX2_letAllEscape_21 (fun H locs Y => ?_)
          refine lv_iinc (v := (a1 + (1 : Int32))) (lv' := [(1, .int (a1 + (1 : Int32))), (0, .ref (h 0))]) hx hb dX2_letAllEscape_24 hl (k := 1) rfl (by rfl) (Nat.le_of_ble_eq_true rfl) rfl (fun ls hl => ?_)
          refine lv_goto (tgt := 2) hx hb dX2_letAllEscape_27 (by decide) ?_
          exact ih (a1 + (1 : Int32)) σ5 hrun _ _ _ Y (lv_sub hl [1, 0] rfl)
  unfold fX2_letAllEscape at hrun
  refine lv_iconst (v := (0 : Int32)) hx hb dX2_letAllEscape_0 (by decide) ?_
  refine lv_istore_n (lv' := [(1, .int (0 : Int32)), (0, .ref (h 0))]) hx hb dX2_letAllEscape_1 rfl hl (Nat.le_of_ble_eq_true rfl) rfl (fun ls hl => ?_)
  exact lp2 70 (0 : Int32) σ hrun _ _ _ Y (lv_sub hl [1, 0] rfl)
def lX4_seekerOfNextRound_6 : Nat → Int32 → Int32 → (sg_T) → Option (Int32)
  | 0, _, _, _ => none
  | n + 1, a1, a2, σ => (if (σ 0 0) ≤ a2 then (some a1) else ((fX5_isPlayer a1 σ).bind fun r_2 => (if r_2 = 0 then (lX4_seekerOfNextRound_6 n a2 (a2 + (1 : Int32)) σ) else ((fX4_seeksSooner a2 a1 σ).bind fun r_5 => (if r_5 = 0 then (lX4_seekerOfNextRound_6 n a1 (a2 + (1 : Int32)) σ) else (lX4_seekerOfNextRound_6 n a2 (a2 + (1 : Int32)) σ))))))
def fX4_seekerOfNextRound (σ : sg_T) : Option (Int32) := (lX4_seekerOfNextRound_6 70 (-10006 : Int32) (0 : Int32) σ)
set_option maxRecDepth 100000 in
set_option maxHeartbeats 4000000 in
theorem mX4_seekerOfNextRound (l : Launch) (D : va_G) (cI : ClassId) (h : Nat → Nat) (σ : sg_T) (r : Int32) (hrun : fX4_seekerOfNextRound σ = some r) : me_I l D (tS cI) yX4_seekerOfNextRound cX4_seekerOfNextRound 3 .int 2 44 (wS cI h σ) [.ref (h 0)] r (wS cI h σ) := by
  refine me_ofI (plainFor_of_name (by decide)) (Nat.le_of_ble_eq_true rfl) ?_
  intro p e s m args below meth c A ls S hK Y hA hl hr hlk hZ
  have hx := S.1
  have hb := S.2.1
  have hl : lv_has ls 3 [(0, .ref (h 0))] := hl
  have lp6 : ∀ (n : Nat) (a1 : Int32) (a2 : Int32), lX4_seekerOfNextRound_6 n a1 a2 σ = some r → ∀ (H : Heap) (locs : List Loc) (ls : Array Slot), dy_ D A s (wS cI h σ) H locs → lv_has ls 3 [(0, .ref (h 0)), (1, .int a1), (2, .int a2)] → W p l e (rm_ 2 44) s m args below meth c H locs 0 0 (MQ below (me_Qi D (tS cI) A r (wS cI h σ)) args s 0 0 A) (F0 m 6 ls []) := by
    intro n
    induction n with
    | zero => intro a1 a2 hrun; cases hrun
    | succ n ih =>
      intro a1 a2 hrun H locs ls Y hl
      unfold lX4_seekerOfNextRound_6 at hrun
      refine lv_iload_n hx hb dX4_seekerOfNextRound_6 rfl (lv_at hl 2 rfl) ?_
      refine lv_aload_n hx hb dX4_seekerOfNextRound_7 rfl (lv_at hl 0 rfl) ?_
      refine ig S hK Y fX4_18 0 rfl (v := .int (σ 0 0)) rfl dX4_seekerOfNextRound_8 ?_
      refine lv_icmp_ge (tgt := 39) hx hb dX4_seekerOfNextRound_11 (by decide) (fun c_1 => ?_) (fun c_1 => ?_)
      · have hrun := o_t hrun c_1
        refine lv_iload_n hx hb dX4_seekerOfNextRound_39 rfl (lv_at hl 1 rfl) ?_
        cases hrun
        exact me_ri S hK Y hr hlk rfl dX4_seekerOfNextRound_40
      · have hrun := o_f hrun c_1
        refine lv_aload_n hx hb dX4_seekerOfNextRound_14 rfl (lv_at hl 0 rfl) ?_
        refine lv_iload_n hx hb dX4_seekerOfNextRound_15 rfl (lv_at hl 1 rfl) ?_
        obtain ⟨r_2, e_3, hrun⟩ := o_bh hrun
        refine cf_v (As := [.int a1]) (rest := []) S hK hA hZ Y hl.1 (mX5_isPlayer l D cI h σ a1 r_2 e_3) kX4_32 (T := TX5) (N := 16) rfl (q0 := 0) rfl ⟨Nat.le_of_ble_eq_true rfl, Nat.le_of_ble_eq_true rfl⟩ rfl rfl (Nat.le_of_ble_eq_true rfl) ⟨Nat.le_of_ble_eq_true rfl, Nat.le_of_ble_eq_true rfl⟩ dX4_seekerOfNextRound_16 (fun H locs Y => ?_)
        refine lv_if_eq (tgt := 31) hx hb dX4_seekerOfNextRound_19 (by decide) (fun c_4 => ?_) (fun c_4 => ?_)
        · have hrun := o_t hrun c_4
          refine lv_iload_n hx hb dX4_seekerOfNextRound_31 rfl (lv_at hl 2 rfl) ?_
          refine lv_istore_n (lv' := [(1, .int a2), (0, .ref (h 0)), (2, .int a2)]) hx hb dX4_seekerOfNextRound_32 rfl hl (Nat.le_of_ble_eq_true rfl) rfl (fun ls hl => ?_)
          refine lv_iinc (v := (a2 + (1 : Int32))) (lv' := [(2, .int (a2 + (1 : Int32))), (1, .int a2), (0, .ref (h 0))]) hx hb dX4_seekerOfNextRound_33 hl (k := 2) rfl (by rfl) (Nat.le_of_ble_eq_true rfl) rfl (fun ls hl => ?_)
          refine lv_goto (tgt := 6) hx hb dX4_seekerOfNextRound_36 (by decide) ?_
          exact ih a2 (a2 + (1 : Int32)) hrun _ _ _ Y (lv_sub hl [2, 1, 0] rfl)
        · have hrun := o_f hrun c_4
          refine lv_aload_n hx hb dX4_seekerOfNextRound_22 rfl (lv_at hl 0 rfl) ?_
          refine lv_iload_n hx hb dX4_seekerOfNextRound_23 rfl (lv_at hl 2 rfl) ?_
          refine lv_iload_n hx hb dX4_seekerOfNextRound_24 rfl (lv_at hl 1 rfl) ?_
          obtain ⟨r_5, e_6, hrun⟩ := o_bh hrun
          refine cf_s (As := [.ref (h 0), .int a2, .int a1]) (rest := []) S hK hA hZ Y hl.1 (mX4_seeksSooner l D cI h σ a2 a1 r_5 e_6) kX4_36 ⟨Nat.le_of_ble_eq_true rfl, Nat.le_of_ble_eq_true rfl⟩ rfl rfl (Nat.le_of_ble_eq_true rfl) ⟨Nat.le_of_ble_eq_true rfl, Nat.le_of_ble_eq_true rfl⟩ dX4_seekerOfNextRound_25 (fun H locs Y => ?_)
          refine lv_if_eq (tgt := 33) hx hb dX4_seekerOfNextRound_28 (by decide) (fun c_7 => ?_) (fun c_7 => ?_)
          · have hrun := o_t hrun c_7
            refine lv_iinc (v := (a2 + (1 : Int32))) (lv' := [(2, .int (a2 + (1 : Int32))), (0, .ref (h 0)), (1, .int a1)]) hx hb dX4_seekerOfNextRound_33 hl (k := 2) rfl (by rfl) (Nat.le_of_ble_eq_true rfl) rfl (fun ls hl => ?_)
            refine lv_goto (tgt := 6) hx hb dX4_seekerOfNextRound_36 (by decide) ?_
            exact ih a1 (a2 + (1 : Int32)) hrun _ _ _ Y (lv_sub hl [1, 2, 0] rfl)
          · have hrun := o_f hrun c_7
            refine lv_iload_n hx hb dX4_seekerOfNextRound_31 rfl (lv_at hl 2 rfl) ?_
            refine lv_istore_n (lv' := [(1, .int a2), (0, .ref (h 0)), (2, .int a2)]) hx hb dX4_seekerOfNextRound_32 rfl hl (Nat.le_of_ble_eq_true rfl) rfl (fun ls hl => ?_)
            refine lv_iinc (v := (a2 + (1 : Int32))) (lv' := [(2, .int (a2 + (1 : Int32))), (1, .int a2), (0, .ref (h 0))]) hx hb dX4_seekerOfNextRound_33 hl (k := 2) rfl (by rfl) (Nat.le_of_ble_eq_true rfl) rfl (fun ls hl => ?_)
            refine lv_goto (tgt := 6) hx hb dX4_seekerOfNextRound_36 (by decide) ?_
            exact ih a2 (a2 + (1 : Int32)) hrun _ _ _ Y (lv_sub hl [2, 1, 0] rfl)
  unfold fX4_seekerOfNextRound at hrun
  refine lv_sipush (v := (-10006 : Int32)) hx hb dX4_seekerOfNextRound_0 (by decide) ?_
  refine lv_istore_n (lv' := [(1, .int (-10006 : Int32)), (0, .ref (h 0))]) hx hb dX4_seekerOfNextRound_3 rfl hl (Nat.le_of_ble_eq_true rfl) rfl (fun ls hl => ?_)
  refine lv_iconst (v := (0 : Int32)) hx hb dX4_seekerOfNextRound_4 (by decide) ?_
  refine lv_istore_n (lv' := [(2, .int (0 : Int32)), (1, .int (-10006 : Int32)), (0, .ref (h 0))]) hx hb dX4_seekerOfNextRound_5 rfl hl (Nat.le_of_ble_eq_true rfl) rfl (fun ls hl => ?_)
  exact lp6 70 (-10006 : Int32) (0 : Int32) hrun _ _ _ Y (lv_sub hl [2, 1, 0] rfl)
def fX5_hiderCount (p1 : Int32) (σ : sg_T) : Option (Int32) := ((fX5_hidersAt p1 σ).bind fun r_1 => ((fJ6_bitCount_0f7a4 r_1).bind fun r_3 => (some r_3)))
set_option maxRecDepth 100000 in
set_option maxHeartbeats 4000000 in
theorem mX5_hiderCount (l : Launch) (D : va_G) (cI : ClassId) (h : Nat → Nat) (σ : sg_T) (p1 : Int32) (r : Int32) (hrun : fX5_hiderCount p1 σ = some r) : me_I l D (tS cI) yX5_hiderCount cX5_hiderCount 2 .int 1 23 (wS cI h σ) [.ref (h 0), .int p1] r (wS cI h σ) := by
  refine me_ofI (plainFor_of_name (by decide)) (Nat.le_of_ble_eq_true rfl) ?_
  intro p e s m args below meth c A ls S hK Y hA hl hr hlk hZ
  have hx := S.1
  have hb := S.2.1
  have hl : lv_has ls 2 [(0, .ref (h 0)), (1, .int p1)] := hl
  unfold fX5_hiderCount at hrun
  refine lv_aload_n hx hb dX5_hiderCount_0 rfl (lv_at hl 0 rfl) ?_
  refine lv_iload_n hx hb dX5_hiderCount_1 rfl (lv_at hl 1 rfl) ?_
  obtain ⟨r_1, e_2, hrun⟩ := o_bh hrun
  refine cf_v (As := [.int p1]) (rest := []) S hK hA hZ Y hl.1 (mX5_hidersAt l D cI h σ p1 r_1 e_2) kX5_82 (T := TX5) (N := 16) rfl (q0 := 0) rfl ⟨Nat.le_of_ble_eq_true rfl, Nat.le_of_ble_eq_true rfl⟩ rfl rfl (Nat.le_of_ble_eq_true rfl) ⟨Nat.le_of_ble_eq_true rfl, Nat.le_of_ble_eq_true rfl⟩ dX5_hiderCount_2 (fun H locs Y => ?_)
  obtain ⟨r_3, e_4, hrun⟩ := o_bh hrun
  refine cp_s (As := [.int r_1]) (rest := []) S hK hA hZ Y hl.1 (mJ6_bitCount_0f7a4 l D r_1 r_3 e_4) kX5_86 ⟨Nat.le_of_ble_eq_true rfl, Nat.le_of_ble_eq_true rfl⟩ rfl rfl (Nat.le_of_ble_eq_true rfl) ⟨Nat.le_of_ble_eq_true rfl, Nat.le_of_ble_eq_true rfl⟩ dX5_hiderCount_5 (fun H locs Y => ?_)
  cases hrun
  exact me_ri S hK Y hr hlk rfl dX5_hiderCount_8
def fX5_isRetired (p1 : Int32) (σ : sg_T) : Option (Int32) := ((fX6_isSpot p1).bind fun r_1 => (if r_1 = 0 then (some (0 : Int32)) else (o_x p1 16 (if ((σ 9) (p1).toNatClampNeg) = (-1 : Int32) then (some (0 : Int32)) else (some (1 : Int32))))))
set_option maxRecDepth 100000 in
set_option maxHeartbeats 4000000 in
theorem mX5_isRetired (l : Launch) (D : va_G) (cI : ClassId) (h : Nat → Nat) (σ : sg_T) (p1 : Int32) (r : Int32) (hrun : fX5_isRetired p1 σ = some r) : me_I l D (tS cI) yX5_isRetired cX5_isRetired 2 .boolean 1 20 (wS cI h σ) [.ref (h 0), .int p1] r (wS cI h σ) := by
  refine me_ofI (plainFor_of_name (by decide)) (Nat.le_of_ble_eq_true rfl) ?_
  intro p e s m args below meth c A ls S hK Y hA hl hr hlk hZ
  have hx := S.1
  have hb := S.2.1
  have hl : lv_has ls 2 [(0, .ref (h 0)), (1, .int p1)] := hl
  unfold fX5_isRetired at hrun
  refine lv_iload_n hx hb dX5_isRetired_0 rfl (lv_at hl 1 rfl) ?_
  obtain ⟨r_1, e_2, hrun⟩ := o_bh hrun
  refine cp_s (As := [.int p1]) (rest := []) S hK hA hZ Y hl.1 (mX6_isSpot l D p1 r_1 e_2) kX5_91 ⟨Nat.le_of_ble_eq_true rfl, Nat.le_of_ble_eq_true rfl⟩ rfl rfl (Nat.le_of_ble_eq_true rfl) ⟨Nat.le_of_ble_eq_true rfl, Nat.le_of_ble_eq_true rfl⟩ dX5_isRetired_1 (fun H locs Y => ?_)
  refine lv_if_eq (tgt := 21) hx hb dX5_isRetired_4 (by decide) (fun c_3 => ?_) (fun c_3 => ?_)
  · have hrun := o_t hrun c_3
    refine lv_iconst (v := (0 : Int32)) hx hb dX5_isRetired_21 (by decide) ?_
    cases hrun
    exact me_ri S hK Y hr hlk rfl dX5_isRetired_22
  · have hrun := o_f hrun c_3
    refine lv_aload_n hx hb dX5_isRetired_7 rfl (lv_at hl 0 rfl) ?_
    refine ig S hK Y fX5_38 0 rfl (v := .ref (h 9)) rfl dX5_isRetired_8 ?_
    refine lv_iload_n hx hb dX5_isRetired_11 rfl (lv_at hl 1 rfl) ?_
    obtain ⟨b_4, hrun⟩ := o_xh hrun
    refine ia S hK Y 9 0 (f := (σ 9)) rfl rfl b_4 dX5_isRetired_12 ?_
    refine lv_iconst (v := (-1 : Int32)) hx hb dX5_isRetired_13 (by decide) ?_
    refine lv_icmp_eq (tgt := 21) hx hb dX5_isRetired_14 (by decide) (fun c_5 => ?_) (fun c_5 => ?_)
    · have hrun := o_t hrun c_5
      refine lv_iconst (v := (0 : Int32)) hx hb dX5_isRetired_21 (by decide) ?_
      cases hrun
      exact me_ri S hK Y hr hlk rfl dX5_isRetired_22
    · have hrun := o_f hrun c_5
      refine lv_iconst (v := (1 : Int32)) hx hb dX5_isRetired_17 (by decide) ?_
      refine lv_goto (tgt := 22) hx hb dX5_isRetired_18 (by decide) ?_
      cases hrun
      exact me_ri S hK Y hr hlk rfl dX5_isRetired_22
def lX5_retiredCount_4 : Nat → Int32 → Int32 → (sg_T) → Option (Int32)
  | 0, _, _, _ => none
  | n + 1, a1, a2, σ => (if (16 : Int32) ≤ a2 then (some a1) else ((fX5_isRetired a2 σ).bind fun r_2 => (if r_2 = 0 then (lX5_retiredCount_4 n a1 (a2 + (1 : Int32)) σ) else (lX5_retiredCount_4 n (a1 + (1 : Int32)) (a2 + (1 : Int32)) σ))))
def fX5_retiredCount (σ : sg_T) : Option (Int32) := (lX5_retiredCount_4 70 (0 : Int32) (0 : Int32) σ)
set_option maxRecDepth 100000 in
set_option maxHeartbeats 4000000 in
theorem mX5_retiredCount (l : Launch) (D : va_G) (cI : ClassId) (h : Nat → Nat) (σ : sg_T) (r : Int32) (hrun : fX5_retiredCount σ = some r) : me_I l D (tS cI) yX5_retiredCount cX5_retiredCount 3 .int 2 41 (wS cI h σ) [.ref (h 0)] r (wS cI h σ) := by
  refine me_ofI (plainFor_of_name (by decide)) (Nat.le_of_ble_eq_true rfl) ?_
  intro p e s m args below meth c A ls S hK Y hA hl hr hlk hZ
  have hx := S.1
  have hb := S.2.1
  have hl : lv_has ls 3 [(0, .ref (h 0))] := hl
  have lp4 : ∀ (n : Nat) (a1 : Int32) (a2 : Int32), lX5_retiredCount_4 n a1 a2 σ = some r → ∀ (H : Heap) (locs : List Loc) (ls : Array Slot), dy_ D A s (wS cI h σ) H locs → lv_has ls 3 [(0, .ref (h 0)), (1, .int a1), (2, .int a2)] → W p l e (rm_ 2 41) s m args below meth c H locs 0 0 (MQ below (me_Qi D (tS cI) A r (wS cI h σ)) args s 0 0 A) (F0 m 4 ls []) := by
    intro n
    induction n with
    | zero => intro a1 a2 hrun; cases hrun
    | succ n ih =>
      intro a1 a2 hrun H locs ls Y hl
      unfold lX5_retiredCount_4 at hrun
      refine lv_iload_n hx hb dX5_retiredCount_4 rfl (lv_at hl 2 rfl) ?_
      refine lv_bipush (v := (16 : Int32)) hx hb dX5_retiredCount_5 (by decide) ?_
      refine lv_icmp_ge (tgt := 27) hx hb dX5_retiredCount_7 (by decide) (fun c_1 => ?_) (fun c_1 => ?_)
      · have hrun := o_t hrun c_1
        refine lv_iload_n hx hb dX5_retiredCount_27 rfl (lv_at hl 1 rfl) ?_
        cases hrun
        exact me_ri S hK Y hr hlk rfl dX5_retiredCount_28
      · have hrun := o_f hrun c_1
        refine lv_aload_n hx hb dX5_retiredCount_10 rfl (lv_at hl 0 rfl) ?_
        refine lv_iload_n hx hb dX5_retiredCount_11 rfl (lv_at hl 2 rfl) ?_
        obtain ⟨r_2, e_3, hrun⟩ := o_bh hrun
        refine cf_v (As := [.int a2]) (rest := []) S hK hA hZ Y hl.1 (mX5_isRetired l D cI h σ a2 r_2 e_3) kX5_94 (T := TX5) (N := 16) rfl (q0 := 0) rfl ⟨Nat.le_of_ble_eq_true rfl, Nat.le_of_ble_eq_true rfl⟩ rfl rfl (Nat.le_of_ble_eq_true rfl) ⟨Nat.le_of_ble_eq_true rfl, Nat.le_of_ble_eq_true rfl⟩ dX5_retiredCount_12 (fun H locs Y => ?_)
        refine lv_if_eq (tgt := 21) hx hb dX5_retiredCount_15 (by decide) (fun c_4 => ?_) (fun c_4 => ?_)
        · have hrun := o_t hrun c_4
          refine lv_iinc (v := (a2 + (1 : Int32))) (lv' := [(2, .int (a2 + (1 : Int32))), (0, .ref (h 0)), (1, .int a1)]) hx hb dX5_retiredCount_21 hl (k := 2) rfl (by rfl) (Nat.le_of_ble_eq_true rfl) rfl (fun ls hl => ?_)
          refine lv_goto (tgt := 4) hx hb dX5_retiredCount_24 (by decide) ?_
          exact ih a1 (a2 + (1 : Int32)) hrun _ _ _ Y (lv_sub hl [1, 2, 0] rfl)
        · have hrun := o_f hrun c_4
          refine lv_iinc (v := (a1 + (1 : Int32))) (lv' := [(1, .int (a1 + (1 : Int32))), (0, .ref (h 0)), (2, .int a2)]) hx hb dX5_retiredCount_18 hl (k := 1) rfl (by rfl) (Nat.le_of_ble_eq_true rfl) rfl (fun ls hl => ?_)
          refine lv_iinc (v := (a2 + (1 : Int32))) (lv' := [(2, .int (a2 + (1 : Int32))), (1, .int (a1 + (1 : Int32))), (0, .ref (h 0))]) hx hb dX5_retiredCount_21 hl (k := 2) rfl (by rfl) (Nat.le_of_ble_eq_true rfl) rfl (fun ls hl => ?_)
          refine lv_goto (tgt := 4) hx hb dX5_retiredCount_24 (by decide) ?_
          exact ih (a1 + (1 : Int32)) (a2 + (1 : Int32)) hrun _ _ _ Y (lv_sub hl [2, 1, 0] rfl)
  unfold fX5_retiredCount at hrun
  refine lv_iconst (v := (0 : Int32)) hx hb dX5_retiredCount_0 (by decide) ?_
  refine lv_istore_n (lv' := [(1, .int (0 : Int32)), (0, .ref (h 0))]) hx hb dX5_retiredCount_1 rfl hl (Nat.le_of_ble_eq_true rfl) rfl (fun ls hl => ?_)
  refine lv_iconst (v := (0 : Int32)) hx hb dX5_retiredCount_2 (by decide) ?_
  refine lv_istore_n (lv' := [(2, .int (0 : Int32)), (1, .int (0 : Int32)), (0, .ref (h 0))]) hx hb dX5_retiredCount_3 rfl hl (Nat.le_of_ble_eq_true rfl) rfl (fun ls hl => ?_)
  exact lp4 70 (0 : Int32) (0 : Int32) hrun _ _ _ Y (lv_sub hl [2, 1, 0] rfl)
def fX5_isFull (p1 : Int32) (σ : sg_T) : Option (Int32) := ((fX5_hiderCount p1 σ).bind fun r_1 => (if r_1 < (2 : Int32) then (some (0 : Int32)) else (some (1 : Int32))))
set_option maxRecDepth 100000 in
set_option maxHeartbeats 4000000 in
theorem mX5_isFull (l : Launch) (D : va_G) (cI : ClassId) (h : Nat → Nat) (σ : sg_T) (p1 : Int32) (r : Int32) (hrun : fX5_isFull p1 σ = some r) : me_I l D (tS cI) yX5_isFull cX5_isFull 2 .boolean 2 44 (wS cI h σ) [.ref (h 0), .int p1] r (wS cI h σ) := by
  refine me_ofI (plainFor_of_name (by decide)) (Nat.le_of_ble_eq_true rfl) ?_
  intro p e s m args below meth c A ls S hK Y hA hl hr hlk hZ
  have hx := S.1
  have hb := S.2.1
  have hl : lv_has ls 2 [(0, .ref (h 0)), (1, .int p1)] := hl
  unfold fX5_isFull at hrun
  refine lv_aload_n hx hb dX5_isFull_0 rfl (lv_at hl 0 rfl) ?_
  refine lv_iload_n hx hb dX5_isFull_1 rfl (lv_at hl 1 rfl) ?_
  obtain ⟨r_1, e_2, hrun⟩ := o_bh hrun
  refine cf_v (As := [.int p1]) (rest := []) S hK hA hZ Y hl.1 (mX5_hiderCount l D cI h σ p1 r_1 e_2) kX5_100 (T := TX5) (N := 16) rfl (q0 := 0) rfl ⟨Nat.le_of_ble_eq_true rfl, Nat.le_of_ble_eq_true rfl⟩ rfl rfl (Nat.le_of_ble_eq_true rfl) ⟨Nat.le_of_ble_eq_true rfl, Nat.le_of_ble_eq_true rfl⟩ dX5_isFull_2 (fun H locs Y => ?_)
  refine lv_iconst (v := (2 : Int32)) hx hb dX5_isFull_5 (by decide) ?_
  refine lv_icmp_lt (tgt := 13) hx hb dX5_isFull_6 (by decide) (fun c_3 => ?_) (fun c_3 => ?_)
  · have hrun := o_t hrun c_3
    refine lv_iconst (v := (0 : Int32)) hx hb dX5_isFull_13 (by decide) ?_
    cases hrun
    exact me_ri S hK Y hr hlk rfl dX5_isFull_14
  · have hrun := o_f hrun c_3
    refine lv_iconst (v := (1 : Int32)) hx hb dX5_isFull_9 (by decide) ?_
    refine lv_goto (tgt := 14) hx hb dX5_isFull_10 (by decide) ?_
    cases hrun
    exact me_ri S hK Y hr hlk rfl dX5_isFull_14
def fX6_stepsUp (p0 p1 : Int32) : Option Int32 := ((fJ9_floorMod_7cf53 (p1 - p0) (16 : Int32)).bind fun r_1 => (some r_1))
set_option maxRecDepth 100000 in
set_option maxHeartbeats 4000000 in
theorem mX6_stepsUp (l : Launch) (D : va_G) (p0 p1 : Int32) (r : Int32) (hrun : fX6_stepsUp p0 p1 = some r) : me_I l D [] yX6_stepsUp cX6_stepsUp 2 .int 1 22 [] [.int p0, .int p1] r [] := by
  refine me_ofI (plainFor_of_name (by decide)) (Nat.le_of_ble_eq_true rfl) ?_
  intro p e s m args below meth c A ls S hK Y hA hl hr hlk hZ
  have hx := S.1
  have hb := S.2.1
  have hl : lv_has ls 2 [(0, .int p0), (1, .int p1)] := hl
  unfold fX6_stepsUp at hrun
  refine lv_iload_n hx hb dX6_stepsUp_0 rfl (lv_at hl 1 rfl) ?_
  refine lv_iload_n hx hb dX6_stepsUp_1 rfl (lv_at hl 0 rfl) ?_
  refine lv_isub hx hb dX6_stepsUp_2 ?_
  refine lv_bipush (v := (16 : Int32)) hx hb dX6_stepsUp_3 (by decide) ?_
  obtain ⟨r_1, e_2, hrun⟩ := o_bh hrun
  refine cp_s (As := [.int (p1 - p0), .int (16 : Int32)]) (rest := []) S hK hA hZ Y hl.1 (mJ9_floorMod_7cf53 l D (p1 - p0) (16 : Int32) r_1 e_2) kX6_18 ⟨Nat.le_of_ble_eq_true rfl, Nat.le_of_ble_eq_true rfl⟩ rfl rfl (Nat.le_of_ble_eq_true rfl) ⟨Nat.le_of_ble_eq_true rfl, Nat.le_of_ble_eq_true rfl⟩ dX6_stepsUp_5 (fun H locs Y => ?_)
  cases hrun
  exact me_ri S hK Y hr hlk rfl dX6_stepsUp_8
def fX6_beside (p0 p1 : Int32) : Option Int32 := ((fJ9_floorMod_7cf53 (p0 + p1) (16 : Int32)).bind fun r_1 => (some r_1))
set_option maxRecDepth 100000 in
set_option maxHeartbeats 4000000 in
theorem mX6_beside (l : Launch) (D : va_G) (p0 p1 : Int32) (r : Int32) (hrun : fX6_beside p0 p1 = some r) : me_I l D [] yX6_beside cX6_beside 2 .int 1 22 [] [.int p0, .int p1] r [] := by
  refine me_ofI (plainFor_of_name (by decide)) (Nat.le_of_ble_eq_true rfl) ?_
  intro p e s m args below meth c A ls S hK Y hA hl hr hlk hZ
  have hx := S.1
  have hb := S.2.1
  have hl : lv_has ls 2 [(0, .int p0), (1, .int p1)] := hl
  unfold fX6_beside at hrun
  refine lv_iload_n hx hb dX6_beside_0 rfl (lv_at hl 0 rfl) ?_
  refine lv_iload_n hx hb dX6_beside_1 rfl (lv_at hl 1 rfl) ?_
  refine lv_iadd hx hb dX6_beside_2 ?_
  refine lv_bipush (v := (16 : Int32)) hx hb dX6_beside_3 (by decide) ?_
  obtain ⟨r_1, e_2, hrun⟩ := o_bh hrun
  refine cp_s (As := [.int (p0 + p1), .int (16 : Int32)]) (rest := []) S hK hA hZ Y hl.1 (mJ9_floorMod_7cf53 l D (p0 + p1) (16 : Int32) r_1 e_2) kX6_18 ⟨Nat.le_of_ble_eq_true rfl, Nat.le_of_ble_eq_true rfl⟩ rfl rfl (Nat.le_of_ble_eq_true rfl) ⟨Nat.le_of_ble_eq_true rfl, Nat.le_of_ble_eq_true rfl⟩ dX6_beside_5 (fun H locs Y => ?_)
  cases hrun
  exact me_ri S hK Y hr hlk rfl dX6_beside_8
def fX2_moveSeeker (p1 : Int32) (σ : sg_T) : Option (Int32 × sg_T) := (if p1 < (-1 : Int32) then (some ((-10002 : Int32), σ)) else (if p1 ≤ (1 : Int32) then (if (σ 0 2) = (2 : Int32) then ((fX6_beside (σ 0 5) p1).bind fun r_4 => (some (r_4, (sg_a σ 0 (sg_u (σ 0) 5 r_4))))) else (some ((-10003 : Int32), σ))) else (some ((-10002 : Int32), σ))))
set_option maxRecDepth 100000 in
set_option maxHeartbeats 4000000 in
theorem mX2_moveSeeker (l : Launch) (D : va_G) (cI : ClassId) (h : Nat → Nat) (σ : sg_T) (p1 : Int32) (r : Int32) (σ' : sg_T) (hrun : fX2_moveSeeker p1 σ = some (r, σ')) : me_I l D (tS cI) yX2_moveSeeker cX2_moveSeeker 2 .int 2 43 (wS cI h σ) [.ref (h 0), .int p1] r (wS cI h σ') := by
  refine me_ofI (plainFor_of_name (by decide)) (Nat.le_of_ble_eq_true rfl) ?_
  intro p e s m args below meth c A ls S hK Y hA hl hr hlk hZ
  have hx := S.1
  have hb := S.2.1
  have hl : lv_has ls 2 [(0, .ref (h 0)), (1, .int p1)] := hl
  unfold fX2_moveSeeker at hrun
  refine lv_iload_n hx hb dX2_moveSeeker_0 rfl (lv_at hl 1 rfl) ?_
  refine lv_iconst (v := (-1 : Int32)) hx hb dX2_moveSeeker_1 (by decide) ?_
  refine lv_icmp_lt (tgt := 10) hx hb dX2_moveSeeker_2 (by decide) (fun c_1 => ?_) (fun c_1 => ?_)
  · have hrun := o_t hrun c_1
    refine lv_sipush (v := (-10002 : Int32)) hx hb dX2_moveSeeker_10 (by decide) ?_
    cases hrun
    exact me_ri S hK Y hr hlk rfl dX2_moveSeeker_13
  · have hrun := o_f hrun c_1
    refine lv_iload_n hx hb dX2_moveSeeker_5 rfl (lv_at hl 1 rfl) ?_
    refine lv_iconst (v := (1 : Int32)) hx hb dX2_moveSeeker_6 (by decide) ?_
    refine lv_icmp_le (tgt := 14) hx hb dX2_moveSeeker_7 (by decide) (fun c_2 => ?_) (fun c_2 => ?_)
    · have hrun := o_t hrun c_2
      refine lv_aload_n hx hb dX2_moveSeeker_14 rfl (lv_at hl 0 rfl) ?_
      refine ig S hK Y fX2_25 0 rfl (v := .int (σ 0 2)) rfl dX2_moveSeeker_15 ?_
      refine lv_iconst (v := (2 : Int32)) hx hb dX2_moveSeeker_18 (by decide) ?_
      refine lv_icmp_eq (tgt := 26) hx hb dX2_moveSeeker_19 (by decide) (fun c_3 => ?_) (fun c_3 => ?_)
      · have hrun := o_t hrun c_3
        refine lv_aload_n hx hb dX2_moveSeeker_26 rfl (lv_at hl 0 rfl) ?_
        refine lv_aload_n hx hb dX2_moveSeeker_27 rfl (lv_at hl 0 rfl) ?_
        refine ig S hK Y fX2_74 0 rfl (v := .int (σ 0 5)) rfl dX2_moveSeeker_28 ?_
        refine lv_iload_n hx hb dX2_moveSeeker_31 rfl (lv_at hl 1 rfl) ?_
        obtain ⟨r_4, e_5, hrun⟩ := o_bh hrun
        refine cp_s (As := [.int (σ 0 5), .int p1]) (rest := [.ref (h 0)]) S hK hA hZ Y hl.1 (mX6_beside l D (σ 0 5) p1 r_4 e_5) kX2_85 ⟨Nat.le_of_ble_eq_true rfl, Nat.le_of_ble_eq_true rfl⟩ rfl rfl (Nat.le_of_ble_eq_true rfl) ⟨Nat.le_of_ble_eq_true rfl, Nat.le_of_ble_eq_true rfl⟩ dX2_moveSeeker_32 (fun H locs Y => ?_)
        refine ip S hK Y fX2_74 fpX5 rfl 0 (fs := vS h (σ 0)) rfl rfl rfl (Nat.le_of_ble_eq_true rfl) (ws' := (wS cI h (sg_a σ 0 (sg_u (σ 0) 5 r_4)))) (wS_f5 _ _ _ _) dX2_moveSeeker_35 (fun H locs Y => ?_)
        refine lv_aload_n hx hb dX2_moveSeeker_38 rfl (lv_at hl 0 rfl) ?_
        refine ig S hK Y fX2_74 0 rfl (v := .int r_4) rfl dX2_moveSeeker_39 ?_
        cases hrun
        exact me_ri S hK Y hr hlk rfl dX2_moveSeeker_42
      · have hrun := o_f hrun c_3
        refine lv_sipush (v := (-10003 : Int32)) hx hb dX2_moveSeeker_22 (by decide) ?_
        cases hrun
        exact me_ri S hK Y hr hlk rfl dX2_moveSeeker_25
    · have hrun := o_f hrun c_2
      refine lv_sipush (v := (-10002 : Int32)) hx hb dX2_moveSeeker_10 (by decide) ?_
      cases hrun
      exact me_ri S hK Y hr hlk rfl dX2_moveSeeker_13
def fX2_countFindOfSpot (p1 : Int32) (σ : sg_T) : Option (sg_T) := (o_x p1 16 (if ((upd (σ 8) (p1).toNatClampNeg (((σ 8) (p1).toNatClampNeg) + (1 : Int32))) (p1).toNatClampNeg) < ((σ 1) ((1 : Int32)).toNatClampNeg) then (some ((sg_a σ 8 (upd (σ 8) (p1).toNatClampNeg (((σ 8) (p1).toNatClampNeg) + (1 : Int32)))))) else ((fX5_isRetired p1 (sg_a σ 8 (upd (σ 8) (p1).toNatClampNeg (((σ 8) (p1).toNatClampNeg) + (1 : Int32))))).bind fun r_3 => (if r_3 = 0 then (some ((sg_a (sg_a σ 8 (upd (σ 8) (p1).toNatClampNeg (((σ 8) (p1).toNatClampNeg) + (1 : Int32)))) 9 (upd (σ 9) (p1).toNatClampNeg (0 : Int32))))) else (some ((sg_a σ 8 (upd (σ 8) (p1).toNatClampNeg (((σ 8) (p1).toNatClampNeg) + (1 : Int32))))))))))
set_option maxRecDepth 100000 in
set_option maxHeartbeats 4000000 in
theorem mX2_countFindOfSpot (l : Launch) (D : va_G) (cI : ClassId) (h : Nat → Nat) (σ : sg_T) (p1 : Int32) (σ' : sg_T) (hrun : fX2_countFindOfSpot p1 σ = some σ') : me_V l D (tS cI) yX2_countFindOfSpot cX2_countFindOfSpot 3 2 41 (wS cI h σ) [.ref (h 0), .int p1] (wS cI h σ') := by
  refine me_ofV (plainFor_of_name (by decide)) (Nat.le_of_ble_eq_true rfl) ?_
  intro p e s m args below meth c A ls S hK Y hA hl hr hlk hZ
  have hx := S.1
  have hb := S.2.1
  have hl : lv_has ls 3 [(0, .ref (h 0)), (1, .int p1)] := hl
  unfold fX2_countFindOfSpot at hrun
  refine lv_aload_n hx hb dX2_countFindOfSpot_0 rfl (lv_at hl 0 rfl) ?_
  refine ig S hK Y fX2_115 0 rfl (v := .ref (h 8)) rfl dX2_countFindOfSpot_1 ?_
  refine lv_iload_n hx hb dX2_countFindOfSpot_4 rfl (lv_at hl 1 rfl) ?_
  refine lv_dup2_11 hx hb dX2_countFindOfSpot_5 rfl rfl ?_
  obtain ⟨b_1, hrun⟩ := o_xh hrun
  refine ia S hK Y 8 0 (f := (σ 8)) rfl rfl b_1 dX2_countFindOfSpot_6 ?_
  refine lv_iconst (v := (1 : Int32)) hx hb dX2_countFindOfSpot_7 (by decide) ?_
  refine lv_iadd hx hb dX2_countFindOfSpot_8 ?_
  refine iw S hK Y 8 0 (f := (σ 8)) rfl rfl b_1 (ws' := (wS cI h (sg_a σ 8 (upd (σ 8) (p1).toNatClampNeg (((σ 8) (p1).toNatClampNeg) + (1 : Int32)))))) (wS_a8 _ _ _) dX2_countFindOfSpot_9 (fun H locs Y => ?_)
  refine lv_aload_n hx hb dX2_countFindOfSpot_10 rfl (lv_at hl 0 rfl) ?_
  refine ig S hK Y fX2_115 0 rfl (v := .ref (h 8)) rfl dX2_countFindOfSpot_11 ?_
  refine lv_iload_n hx hb dX2_countFindOfSpot_14 rfl (lv_at hl 1 rfl) ?_
  refine ia S hK Y 8 0 (f := (upd (σ 8) (p1).toNatClampNeg (((σ 8) (p1).toNatClampNeg) + (1 : Int32)))) rfl rfl b_1 dX2_countFindOfSpot_15 ?_
  refine lv_aload_n hx hb dX2_countFindOfSpot_16 rfl (lv_at hl 0 rfl) ?_
  refine ig S hK Y fX2_22 0 rfl (v := .ref (h 1)) rfl dX2_countFindOfSpot_17 ?_
  refine lv_iconst (v := (1 : Int32)) hx hb dX2_countFindOfSpot_20 (by decide) ?_
  refine ia S hK Y 1 0 (f := (σ 1)) rfl rfl (show ¬ ((1 : Int32) < 0 ∨ 4 ≤ ((1 : Int32)).toNatClampNeg) by decide) dX2_countFindOfSpot_21 ?_
  refine lv_icmp_lt (tgt := 29) hx hb dX2_countFindOfSpot_22 (by decide) (fun c_2 => ?_) (fun c_2 => ?_)
  · have hrun := o_t hrun c_2
    refine lv_iconst (v := (0 : Int32)) hx hb dX2_countFindOfSpot_29 (by decide) ?_
    refine lv_istore_n (lv' := [(2, .int (0 : Int32)), (0, .ref (h 0)), (1, .int p1)]) hx hb dX2_countFindOfSpot_30 rfl hl (Nat.le_of_ble_eq_true rfl) rfl (fun ls hl => ?_)
    refine lv_iload_n hx hb dX2_countFindOfSpot_31 rfl (lv_at hl 0 rfl) ?_
    refine lv_if_eq (tgt := 50) hx hb dX2_countFindOfSpot_32 (by decide) (fun _ => ?_) (fun q => absurd (by decide) q)
    cases hrun
    exact me_rv S hK Y hr hlk dX2_countFindOfSpot_50
  · have hrun := o_f hrun c_2
    refine lv_iconst (v := (1 : Int32)) hx hb dX2_countFindOfSpot_25 (by decide) ?_
    refine lv_goto (tgt := 30) hx hb dX2_countFindOfSpot_26 (by decide) ?_
    refine lv_istore_n (lv' := [(2, .int (1 : Int32)), (0, .ref (h 0)), (1, .int p1)]) hx hb dX2_countFindOfSpot_30 rfl hl (Nat.le_of_ble_eq_true rfl) rfl (fun ls hl => ?_)
    refine lv_iload_n hx hb dX2_countFindOfSpot_31 rfl (lv_at hl 0 rfl) ?_
    refine lv_if_eq (tgt := 50) hx hb dX2_countFindOfSpot_32 (by decide) (fun q => absurd q (by decide)) (fun _ => ?_)
    refine lv_aload_n hx hb dX2_countFindOfSpot_35 rfl (lv_at hl 1 rfl) ?_
    refine lv_iload_n hx hb dX2_countFindOfSpot_36 rfl (lv_at hl 2 rfl) ?_
    obtain ⟨r_3, e_4, hrun⟩ := o_bh hrun
    refine cf_v (As := [.int p1]) (rest := []) S hK hA hZ Y hl.1 (mX5_isRetired l D cI h (sg_a σ 8 (upd (σ 8) (p1).toNatClampNeg (((σ 8) (p1).toNatClampNeg) + (1 : Int32)))) p1 r_3 e_4) kX2_118 (T := TX5) (N := 16) rfl (q0 := 0) rfl ⟨Nat.le_of_ble_eq_true rfl, Nat.le_of_ble_eq_true rfl⟩ rfl rfl (Nat.le_of_ble_eq_true rfl) ⟨Nat.le_of_ble_eq_true rfl, Nat.le_of_ble_eq_true rfl⟩ dX2_countFindOfSpot_37 (fun H locs Y => ?_)
    refine lv_if_ne (tgt := 50) hx hb dX2_countFindOfSpot_40 (by decide) (fun c_5 => ?_) (fun c_5 => ?_)
    · have hrun := o_f hrun c_5
      cases hrun
      exact me_rv S hK Y hr hlk dX2_countFindOfSpot_50
    · have hrun := o_t hrun c_5
      refine lv_aload_n hx hb dX2_countFindOfSpot_43 rfl (lv_at hl 1 rfl) ?_
      refine ig S hK Y fX2_121 0 rfl (v := .ref (h 9)) rfl dX2_countFindOfSpot_44 ?_
      refine lv_iload_n hx hb dX2_countFindOfSpot_47 rfl (lv_at hl 2 rfl) ?_
      refine lv_iconst (v := (0 : Int32)) hx hb dX2_countFindOfSpot_48 (by decide) ?_
      refine iw S hK Y 9 0 (f := (σ 9)) rfl rfl b_1 (ws' := (wS cI h (sg_a (sg_a σ 8 (upd (σ 8) (p1).toNatClampNeg (((σ 8) (p1).toNatClampNeg) + (1 : Int32)))) 9 (upd (σ 9) (p1).toNatClampNeg (0 : Int32))))) (wS_a9 _ _ _) dX2_countFindOfSpot_49 (fun H locs Y => ?_)
      cases hrun
      exact me_rv S hK Y hr hlk dX2_countFindOfSpot_50
def lX2_endRound_43 : Nat → Int32 → (sg_T) → Option (sg_T)
  | 0, _, _ => none
  | n + 1, a1, σ => (if (16 : Int32) ≤ a1 then (some (σ)) else ((fX5_isRetired a1 σ).bind fun r_2 => (if r_2 = 0 then (lX2_endRound_43 n (a1 + (1 : Int32)) σ) else ((fX2_restSpot a1 σ).bind fun σ5 => (lX2_endRound_43 n (a1 + (1 : Int32)) σ5)))))
def fX2_endRound (σ : sg_T) : Option (sg_T) := (lX2_endRound_43 70 (0 : Int32) (sg_a (sg_a (sg_a (sg_a (sg_a (sg_a σ 0 (sg_u (σ 0) 2 (0 : Int32))) 0 (sg_u (sg_u (σ 0) 2 (0 : Int32)) 3 (-10006 : Int32))) 0 (sg_u (sg_u (sg_u (σ 0) 2 (0 : Int32)) 3 (-10006 : Int32)) 4 (-10006 : Int32))) 0 (sg_u (sg_u (sg_u (sg_u (σ 0) 2 (0 : Int32)) 3 (-10006 : Int32)) 4 (-10006 : Int32)) 5 (-10006 : Int32))) 0 (sg_u (sg_u (sg_u (sg_u (sg_u (σ 0) 2 (0 : Int32)) 3 (-10006 : Int32)) 4 (-10006 : Int32)) 5 (-10006 : Int32)) 6 (0 : Int32))) 0 (sg_u (sg_u (sg_u (sg_u (sg_u (sg_u (σ 0) 2 (0 : Int32)) 3 (-10006 : Int32)) 4 (-10006 : Int32)) 5 (-10006 : Int32)) 6 (0 : Int32)) 1 ((σ 0 1) + (1 : Int32)))))
set_option maxRecDepth 100000 in
set_option maxHeartbeats 4000000 in
theorem mX2_endRound (l : Launch) (D : va_G) (cI : ClassId) (h : Nat → Nat) (σ : sg_T) (σ' : sg_T) (hrun : fX2_endRound σ = some σ') : me_V l D (tS cI) yX2_endRound cX2_endRound 2 2 41 (wS cI h σ) [.ref (h 0)] (wS cI h σ') := by
  refine me_ofV (plainFor_of_name (by decide)) (Nat.le_of_ble_eq_true rfl) ?_
  intro p e s m args below meth c A ls S hK Y hA hl hr hlk hZ
  have hx := S.1
  have hb := S.2.1
  have hl : lv_has ls 2 [(0, .ref (h 0))] := hl
  have lp43 : ∀ (n : Nat) (a1 : Int32) (σ : sg_T), lX2_endRound_43 n a1 σ = some σ' → ∀ (H : Heap) (locs : List Loc) (ls : Array Slot), dy_ D A s (wS cI h σ) H locs → lv_has ls 2 [(0, .ref (h 0)), (1, .int a1)] → W p l e (rm_ 2 41) s m args below meth c H locs 0 0 (MQ below (me_Qv D (tS cI) A (wS cI h σ')) args s 0 0 A) (F0 m 43 ls []) := by
    intro n
    induction n with
    | zero => intro a1 σ hrun; cases hrun
    | succ n ih =>
      intro a1 σ hrun H locs ls Y hl
      unfold lX2_endRound_43 at hrun
      refine lv_iload_n hx hb dX2_endRound_43 rfl (lv_at hl 1 rfl) ?_
      refine lv_bipush (v := (16 : Int32)) hx hb dX2_endRound_44 (by decide) ?_
      refine lv_icmp_ge (tgt := 68) hx hb dX2_endRound_46 (by decide) (fun c_1 => ?_) (fun c_1 => ?_)
      · have hrun := o_t hrun c_1
        cases hrun
        exact me_rv S hK Y hr hlk dX2_endRound_68
      · have hrun := o_f hrun c_1
        refine lv_aload_n hx hb dX2_endRound_49 rfl (lv_at hl 0 rfl) ?_
        refine lv_iload_n hx hb dX2_endRound_50 rfl (lv_at hl 1 rfl) ?_
        obtain ⟨r_2, e_3, hrun⟩ := o_bh hrun
        refine cf_v (As := [.int a1]) (rest := []) S hK hA hZ Y hl.1 (mX5_isRetired l D cI h σ a1 r_2 e_3) kX2_118 (T := TX5) (N := 16) rfl (q0 := 0) rfl ⟨Nat.le_of_ble_eq_true rfl, Nat.le_of_ble_eq_true rfl⟩ rfl rfl (Nat.le_of_ble_eq_true rfl) ⟨Nat.le_of_ble_eq_true rfl, Nat.le_of_ble_eq_true rfl⟩ dX2_endRound_51 (fun H locs Y => ?_)
        refine lv_if_eq (tgt := 62) hx hb dX2_endRound_54 (by decide) (fun c_4 => ?_) (fun c_4 => ?_)
        · have hrun := o_t hrun c_4
          refine lv_iinc (v := (a1 + (1 : Int32))) (lv' := [(1, .int (a1 + (1 : Int32))), (0, .ref (h 0))]) hx hb dX2_endRound_62 hl (k := 1) rfl (by rfl) (Nat.le_of_ble_eq_true rfl) rfl (fun ls hl => ?_)
          refine lv_goto (tgt := 43) hx hb dX2_endRound_65 (by decide) ?_
          exact ih (a1 + (1 : Int32)) σ hrun _ _ _ Y (lv_sub hl [1, 0] rfl)
        · have hrun := o_f hrun c_4
          refine lv_aload_n hx hb dX2_endRound_57 rfl (lv_at hl 0 rfl) ?_
          refine lv_iload_n hx hb dX2_endRound_58 rfl (lv_at hl 1 rfl) ?_
          obtain ⟨σ5, e_6, hrun⟩ := o_bh hrun
          refine cf_sv (As := [.ref (h 0), .int a1]) (rest := []) S hK hA hZ Y hl.1 (mX2_restSpot l D cI h σ a1 σ5 e_6) kX2_142 ⟨Nat.le_of_ble_eq_true rfl, Nat.le_of_ble_eq_true rfl⟩ rfl rfl (Nat.le_of_ble_eq_true rfl) ⟨Nat.le_of_ble_eq_true rfl, Nat.le_of_ble_eq_true rfl⟩ dX2_endRound_59 (fun H locs Y => ?_)
          refine lv_iinc (v := (a1 + (1 : Int32))) (lv' := [(1, .int (a1 + (1 : Int32))), (0, .ref (h 0))]) hx hb dX2_endRound_62 hl (k := 1) rfl (by rfl) (Nat.le_of_ble_eq_true rfl) rfl (fun ls hl => ?_)
          refine lv_goto (tgt := 43) hx hb dX2_endRound_65 (by decide) ?_
          exact ih (a1 + (1 : Int32)) σ5 hrun _ _ _ Y (lv_sub hl [1, 0] rfl)
  unfold fX2_endRound at hrun
  refine lv_aload_n hx hb dX2_endRound_0 rfl (lv_at hl 0 rfl) ?_
  refine lv_iconst (v := (0 : Int32)) hx hb dX2_endRound_1 (by decide) ?_
  refine ip S hK Y fX2_25 fpX5 rfl 0 (fs := vS h (σ 0)) rfl rfl rfl (Nat.le_of_ble_eq_true rfl) (ws' := (wS cI h (sg_a σ 0 (sg_u (σ 0) 2 (0 : Int32))))) (wS_f2 _ _ _ _) dX2_endRound_2 (fun H locs Y => ?_)
  refine lv_aload_n hx hb dX2_endRound_5 rfl (lv_at hl 0 rfl) ?_
  refine lv_sipush (v := (-10006 : Int32)) hx hb dX2_endRound_6 (by decide) ?_
  refine ip S hK Y fX2_35 fpX5 rfl 0 (fs := vS h (sg_u (σ 0) 2 (0 : Int32))) rfl rfl rfl (Nat.le_of_ble_eq_true rfl) (ws' := (wS cI h (sg_a (sg_a σ 0 (sg_u (σ 0) 2 (0 : Int32))) 0 (sg_u (sg_u (σ 0) 2 (0 : Int32)) 3 (-10006 : Int32))))) (wS_f3 _ _ _ _) dX2_endRound_9 (fun H locs Y => ?_)
  refine lv_aload_n hx hb dX2_endRound_12 rfl (lv_at hl 0 rfl) ?_
  refine lv_sipush (v := (-10006 : Int32)) hx hb dX2_endRound_13 (by decide) ?_
  refine ip S hK Y fX2_38 fpX5 rfl 0 (fs := vS h (sg_u (sg_u (σ 0) 2 (0 : Int32)) 3 (-10006 : Int32))) rfl rfl rfl (Nat.le_of_ble_eq_true rfl) (ws' := (wS cI h (sg_a (sg_a (sg_a σ 0 (sg_u (σ 0) 2 (0 : Int32))) 0 (sg_u (sg_u (σ 0) 2 (0 : Int32)) 3 (-10006 : Int32))) 0 (sg_u (sg_u (sg_u (σ 0) 2 (0 : Int32)) 3 (-10006 : Int32)) 4 (-10006 : Int32))))) (wS_f4 _ _ _ _) dX2_endRound_16 (fun H locs Y => ?_)
  refine lv_aload_n hx hb dX2_endRound_19 rfl (lv_at hl 0 rfl) ?_
  refine lv_sipush (v := (-10006 : Int32)) hx hb dX2_endRound_20 (by decide) ?_
  refine ip S hK Y fX2_74 fpX5 rfl 0 (fs := vS h (sg_u (sg_u (sg_u (σ 0) 2 (0 : Int32)) 3 (-10006 : Int32)) 4 (-10006 : Int32))) rfl rfl rfl (Nat.le_of_ble_eq_true rfl) (ws' := (wS cI h (sg_a (sg_a (sg_a (sg_a σ 0 (sg_u (σ 0) 2 (0 : Int32))) 0 (sg_u (sg_u (σ 0) 2 (0 : Int32)) 3 (-10006 : Int32))) 0 (sg_u (sg_u (sg_u (σ 0) 2 (0 : Int32)) 3 (-10006 : Int32)) 4 (-10006 : Int32))) 0 (sg_u (sg_u (sg_u (sg_u (σ 0) 2 (0 : Int32)) 3 (-10006 : Int32)) 4 (-10006 : Int32)) 5 (-10006 : Int32))))) (wS_f5 _ _ _ _) dX2_endRound_23 (fun H locs Y => ?_)
  refine lv_aload_n hx hb dX2_endRound_26 rfl (lv_at hl 0 rfl) ?_
  refine lv_iconst (v := (0 : Int32)) hx hb dX2_endRound_27 (by decide) ?_
  refine ip S hK Y fX2_124 fpX5 rfl 0 (fs := vS h (sg_u (sg_u (sg_u (sg_u (σ 0) 2 (0 : Int32)) 3 (-10006 : Int32)) 4 (-10006 : Int32)) 5 (-10006 : Int32))) rfl rfl rfl (Nat.le_of_ble_eq_true rfl) (ws' := (wS cI h (sg_a (sg_a (sg_a (sg_a (sg_a σ 0 (sg_u (σ 0) 2 (0 : Int32))) 0 (sg_u (sg_u (σ 0) 2 (0 : Int32)) 3 (-10006 : Int32))) 0 (sg_u (sg_u (sg_u (σ 0) 2 (0 : Int32)) 3 (-10006 : Int32)) 4 (-10006 : Int32))) 0 (sg_u (sg_u (sg_u (sg_u (σ 0) 2 (0 : Int32)) 3 (-10006 : Int32)) 4 (-10006 : Int32)) 5 (-10006 : Int32))) 0 (sg_u (sg_u (sg_u (sg_u (sg_u (σ 0) 2 (0 : Int32)) 3 (-10006 : Int32)) 4 (-10006 : Int32)) 5 (-10006 : Int32)) 6 (0 : Int32))))) (wS_f6 _ _ _ _) dX2_endRound_28 (fun H locs Y => ?_)
  refine lv_aload_n hx hb dX2_endRound_31 rfl (lv_at hl 0 rfl) ?_
  refine lv_dup hx hb dX2_endRound_32 rfl ?_
  refine ig S hK Y fX2_139 0 rfl (v := .int (σ 0 1)) rfl dX2_endRound_33 ?_
  refine lv_iconst (v := (1 : Int32)) hx hb dX2_endRound_36 (by decide) ?_
  refine lv_iadd hx hb dX2_endRound_37 ?_
  refine ip S hK Y fX2_139 fpX5 rfl 0 (fs := vS h (sg_u (sg_u (sg_u (sg_u (sg_u (σ 0) 2 (0 : Int32)) 3 (-10006 : Int32)) 4 (-10006 : Int32)) 5 (-10006 : Int32)) 6 (0 : Int32))) rfl rfl rfl (Nat.le_of_ble_eq_true rfl) (ws' := (wS cI h (sg_a (sg_a (sg_a (sg_a (sg_a (sg_a σ 0 (sg_u (σ 0) 2 (0 : Int32))) 0 (sg_u (sg_u (σ 0) 2 (0 : Int32)) 3 (-10006 : Int32))) 0 (sg_u (sg_u (sg_u (σ 0) 2 (0 : Int32)) 3 (-10006 : Int32)) 4 (-10006 : Int32))) 0 (sg_u (sg_u (sg_u (sg_u (σ 0) 2 (0 : Int32)) 3 (-10006 : Int32)) 4 (-10006 : Int32)) 5 (-10006 : Int32))) 0 (sg_u (sg_u (sg_u (sg_u (sg_u (σ 0) 2 (0 : Int32)) 3 (-10006 : Int32)) 4 (-10006 : Int32)) 5 (-10006 : Int32)) 6 (0 : Int32))) 0 (sg_u (sg_u (sg_u (sg_u (sg_u (sg_u (σ 0) 2 (0 : Int32)) 3 (-10006 : Int32)) 4 (-10006 : Int32)) 5 (-10006 : Int32)) 6 (0 : Int32)) 1 ((σ 0 1) + (1 : Int32)))))) (wS_f1 _ _ _ _) dX2_endRound_38 (fun H locs Y => ?_)
  refine lv_iconst (v := (0 : Int32)) hx hb dX2_endRound_41 (by decide) ?_
  refine lv_istore_n (lv' := [(1, .int (0 : Int32)), (0, .ref (h 0))]) hx hb dX2_endRound_42 rfl hl (Nat.le_of_ble_eq_true rfl) rfl (fun ls hl => ?_)
  exact lp43 70 (0 : Int32) (sg_a (sg_a (sg_a (sg_a (sg_a (sg_a σ 0 (sg_u (σ 0) 2 (0 : Int32))) 0 (sg_u (sg_u (σ 0) 2 (0 : Int32)) 3 (-10006 : Int32))) 0 (sg_u (sg_u (sg_u (σ 0) 2 (0 : Int32)) 3 (-10006 : Int32)) 4 (-10006 : Int32))) 0 (sg_u (sg_u (sg_u (sg_u (σ 0) 2 (0 : Int32)) 3 (-10006 : Int32)) 4 (-10006 : Int32)) 5 (-10006 : Int32))) 0 (sg_u (sg_u (sg_u (sg_u (sg_u (σ 0) 2 (0 : Int32)) 3 (-10006 : Int32)) 4 (-10006 : Int32)) 5 (-10006 : Int32)) 6 (0 : Int32))) 0 (sg_u (sg_u (sg_u (sg_u (sg_u (sg_u (σ 0) 2 (0 : Int32)) 3 (-10006 : Int32)) 4 (-10006 : Int32)) 5 (-10006 : Int32)) 6 (0 : Int32)) 1 ((σ 0 1) + (1 : Int32)))) hrun _ _ _ Y (lv_sub hl [1, 0] rfl)
def fX6_distance (p0 p1 : Int32) : Option Int32 := ((fX6_stepsUp p0 p1).bind fun r_1 => ((fX6_stepsUp p1 p0).bind fun r_3 => ((fJ9_min_7cf53 r_1 r_3).bind fun r_5 => (some r_5))))
set_option maxRecDepth 100000 in
set_option maxHeartbeats 4000000 in
theorem mX6_distance (l : Launch) (D : va_G) (p0 p1 : Int32) (r : Int32) (hrun : fX6_distance p0 p1 = some r) : me_I l D [] yX6_distance cX6_distance 2 .int 2 43 [] [.int p0, .int p1] r [] := by
  refine me_ofI (plainFor_of_name (by decide)) (Nat.le_of_ble_eq_true rfl) ?_
  intro p e s m args below meth c A ls S hK Y hA hl hr hlk hZ
  have hx := S.1
  have hb := S.2.1
  have hl : lv_has ls 2 [(0, .int p0), (1, .int p1)] := hl
  unfold fX6_distance at hrun
  refine lv_iload_n hx hb dX6_distance_0 rfl (lv_at hl 0 rfl) ?_
  refine lv_iload_n hx hb dX6_distance_1 rfl (lv_at hl 1 rfl) ?_
  obtain ⟨r_1, e_2, hrun⟩ := o_bh hrun
  refine cp_s (As := [.int p0, .int p1]) (rest := []) S hK hA hZ Y hl.1 (mX6_stepsUp l D p0 p1 r_1 e_2) kX6_9 ⟨Nat.le_of_ble_eq_true rfl, Nat.le_of_ble_eq_true rfl⟩ rfl rfl (Nat.le_of_ble_eq_true rfl) ⟨Nat.le_of_ble_eq_true rfl, Nat.le_of_ble_eq_true rfl⟩ dX6_distance_2 (fun H locs Y => ?_)
  refine lv_iload_n hx hb dX6_distance_5 rfl (lv_at hl 1 rfl) ?_
  refine lv_iload_n hx hb dX6_distance_6 rfl (lv_at hl 0 rfl) ?_
  obtain ⟨r_3, e_4, hrun⟩ := o_bh hrun
  refine cp_s (As := [.int p1, .int p0]) (rest := [.int r_1]) S hK hA hZ Y hl.1 (mX6_stepsUp l D p1 p0 r_3 e_4) kX6_9 ⟨Nat.le_of_ble_eq_true rfl, Nat.le_of_ble_eq_true rfl⟩ rfl rfl (Nat.le_of_ble_eq_true rfl) ⟨Nat.le_of_ble_eq_true rfl, Nat.le_of_ble_eq_true rfl⟩ dX6_distance_7 (fun H locs Y => ?_)
  obtain ⟨r_5, e_6, hrun⟩ := o_bh hrun
  refine cp_s (As := [.int r_1, .int r_3]) (rest := []) S hK hA hZ Y hl.1 (mJ9_min_7cf53 l D r_1 r_3 r_5 e_6) kX6_13 ⟨Nat.le_of_ble_eq_true rfl, Nat.le_of_ble_eq_true rfl⟩ rfl rfl (Nat.le_of_ble_eq_true rfl) ⟨Nat.le_of_ble_eq_true rfl, Nat.le_of_ble_eq_true rfl⟩ dX6_distance_10 (fun H locs Y => ?_)
  cases hrun
  exact me_ri S hK Y hr hlk rfl dX6_distance_13
def fX6_fromBase (p0 : Int32) : Option Int32 := ((fX6_stepsUp p0 (0 : Int32)).bind fun r_1 => ((fJ9_min_7cf53 p0 r_1).bind fun r_3 => (some r_3)))
set_option maxRecDepth 100000 in
set_option maxHeartbeats 4000000 in
theorem mX6_fromBase (l : Launch) (D : va_G) (p0 : Int32) (r : Int32) (hrun : fX6_fromBase p0 = some r) : me_I l D [] yX6_fromBase cX6_fromBase 1 .int 2 43 [] [.int p0] r [] := by
  refine me_ofI (plainFor_of_name (by decide)) (Nat.le_of_ble_eq_true rfl) ?_
  intro p e s m args below meth c A ls S hK Y hA hl hr hlk hZ
  have hx := S.1
  have hb := S.2.1
  have hl : lv_has ls 1 [(0, .int p0)] := hl
  unfold fX6_fromBase at hrun
  refine lv_iload_n hx hb dX6_fromBase_0 rfl (lv_at hl 0 rfl) ?_
  refine lv_iload_n hx hb dX6_fromBase_1 rfl (lv_at hl 0 rfl) ?_
  refine lv_iconst (v := (0 : Int32)) hx hb dX6_fromBase_2 (by decide) ?_
  obtain ⟨r_1, e_2, hrun⟩ := o_bh hrun
  refine cp_s (As := [.int p0, .int (0 : Int32)]) (rest := [.int p0]) S hK hA hZ Y hl.1 (mX6_stepsUp l D p0 (0 : Int32) r_1 e_2) kX6_9 ⟨Nat.le_of_ble_eq_true rfl, Nat.le_of_ble_eq_true rfl⟩ rfl rfl (Nat.le_of_ble_eq_true rfl) ⟨Nat.le_of_ble_eq_true rfl, Nat.le_of_ble_eq_true rfl⟩ dX6_fromBase_3 (fun H locs Y => ?_)
  obtain ⟨r_3, e_4, hrun⟩ := o_bh hrun
  refine cp_s (As := [.int p0, .int r_1]) (rest := []) S hK hA hZ Y hl.1 (mJ9_min_7cf53 l D p0 r_1 r_3 e_4) kX6_13 ⟨Nat.le_of_ble_eq_true rfl, Nat.le_of_ble_eq_true rfl⟩ rfl rfl (Nat.le_of_ble_eq_true rfl) ⟨Nat.le_of_ble_eq_true rfl, Nat.le_of_ble_eq_true rfl⟩ dX6_fromBase_6 (fun H locs Y => ?_)
  cases hrun
  exact me_ri S hK Y hr hlk rfl dX6_fromBase_9
def fX0_isBetterToHide (p1 p2 : Int32) (σ : sg_T) : Option (Int32) := ((fX6_fromBase p1).bind fun r_1 => ((fX6_fromBase p2).bind fun r_3 => (if r_1 = r_3 then (o_x p1 16 (o_x p2 16 (if ((σ 8) (p1).toNatClampNeg) = ((σ 8) (p2).toNatClampNeg) then ((fX5_hiderCount p1 σ).bind fun r_9 => ((fX5_hiderCount p2 σ).bind fun r_11 => (if r_9 = r_11 then (if p2 ≤ p1 then (some (0 : Int32)) else (some (1 : Int32))) else ((fX5_hiderCount p1 σ).bind fun r_15 => ((fX5_hiderCount p2 σ).bind fun r_17 => (if r_17 ≤ r_15 then (some (0 : Int32)) else (some (1 : Int32)))))))) else (if ((σ 8) (p2).toNatClampNeg) ≤ ((σ 8) (p1).toNatClampNeg) then (some (0 : Int32)) else (some (1 : Int32)))))) else ((fX6_fromBase p1).bind fun r_21 => ((fX6_fromBase p2).bind fun r_23 => (if r_21 ≤ r_23 then (some (0 : Int32)) else (some (1 : Int32))))))))
set_option maxRecDepth 100000 in
set_option maxHeartbeats 4000000 in
theorem mX0_isBetterToHide (l : Launch) (D : va_G) (cI : ClassId) (h : Nat → Nat) (σ : sg_T) (p1 p2 : Int32) (r : Int32) (hrun : fX0_isBetterToHide p1 p2 σ = some r) : me_I l D (tS cI) yX0_isBetterToHide cX0_isBetterToHide 3 .boolean 3 63 (wS cI h σ) [.ref (h 0), .int p1, .int p2] r (wS cI h σ) := by
  refine me_ofI (plainFor_of_name (by decide)) (Nat.le_of_ble_eq_true rfl) ?_
  intro p e s m args below meth c A ls S hK Y hA hl hr hlk hZ
  have hx := S.1
  have hb := S.2.1
  have hl : lv_has ls 3 [(0, .ref (h 0)), (1, .int p1), (2, .int p2)] := hl
  unfold fX0_isBetterToHide at hrun
  refine lv_iload_n hx hb dX0_isBetterToHide_0 rfl (lv_at hl 1 rfl) ?_
  obtain ⟨r_1, e_2, hrun⟩ := o_bh hrun
  refine cp_s (As := [.int p1]) (rest := []) S hK hA hZ Y hl.1 (mX6_fromBase l D p1 r_1 e_2) kX0_39 ⟨Nat.le_of_ble_eq_true rfl, Nat.le_of_ble_eq_true rfl⟩ rfl rfl (Nat.le_of_ble_eq_true rfl) ⟨Nat.le_of_ble_eq_true rfl, Nat.le_of_ble_eq_true rfl⟩ dX0_isBetterToHide_1 (fun H locs Y => ?_)
  refine lv_iload_n hx hb dX0_isBetterToHide_4 rfl (lv_at hl 2 rfl) ?_
  obtain ⟨r_3, e_4, hrun⟩ := o_bh hrun
  refine cp_s (As := [.int p2]) (rest := [.int r_1]) S hK hA hZ Y hl.1 (mX6_fromBase l D p2 r_3 e_4) kX0_39 ⟨Nat.le_of_ble_eq_true rfl, Nat.le_of_ble_eq_true rfl⟩ rfl rfl (Nat.le_of_ble_eq_true rfl) ⟨Nat.le_of_ble_eq_true rfl, Nat.le_of_ble_eq_true rfl⟩ dX0_isBetterToHide_5 (fun H locs Y => ?_)
  refine lv_icmp_eq (tgt := 28) hx hb dX0_isBetterToHide_8 (by decide) (fun c_5 => ?_) (fun c_5 => ?_)
  · have hrun := o_t hrun c_5
    refine lv_aload_n hx hb dX0_isBetterToHide_28 rfl (lv_at hl 0 rfl) ?_
    refine ig S hK Y fX0_43 0 rfl (v := .ref (h 8)) rfl dX0_isBetterToHide_29 ?_
    refine lv_iload_n hx hb dX0_isBetterToHide_32 rfl (lv_at hl 1 rfl) ?_
    obtain ⟨b_6, hrun⟩ := o_xh hrun
    refine ia S hK Y 8 0 (f := (σ 8)) rfl rfl b_6 dX0_isBetterToHide_33 ?_
    refine lv_aload_n hx hb dX0_isBetterToHide_34 rfl (lv_at hl 0 rfl) ?_
    refine ig S hK Y fX0_43 0 rfl (v := .ref (h 8)) rfl dX0_isBetterToHide_35 ?_
    refine lv_iload_n hx hb dX0_isBetterToHide_38 rfl (lv_at hl 2 rfl) ?_
    obtain ⟨b_7, hrun⟩ := o_xh hrun
    refine ia S hK Y 8 0 (f := (σ 8)) rfl rfl b_7 dX0_isBetterToHide_39 ?_
    refine lv_icmp_eq (tgt := 64) hx hb dX0_isBetterToHide_40 (by decide) (fun c_8 => ?_) (fun c_8 => ?_)
    · have hrun := o_t hrun c_8
      refine lv_aload_n hx hb dX0_isBetterToHide_64 rfl (lv_at hl 0 rfl) ?_
      refine lv_iload_n hx hb dX0_isBetterToHide_65 rfl (lv_at hl 1 rfl) ?_
      obtain ⟨r_9, e_10, hrun⟩ := o_bh hrun
      refine cf_v (As := [.int p1]) (rest := []) S hK hA hZ Y hl.1 (mX5_hiderCount l D cI h σ p1 r_9 e_10) kX0_47 (T := TX5) (N := 16) rfl (q0 := 0) rfl ⟨Nat.le_of_ble_eq_true rfl, Nat.le_of_ble_eq_true rfl⟩ rfl rfl (Nat.le_of_ble_eq_true rfl) ⟨Nat.le_of_ble_eq_true rfl, Nat.le_of_ble_eq_true rfl⟩ dX0_isBetterToHide_66 (fun H locs Y => ?_)
      refine lv_aload_n hx hb dX0_isBetterToHide_69 rfl (lv_at hl 0 rfl) ?_
      refine lv_iload_n hx hb dX0_isBetterToHide_70 rfl (lv_at hl 2 rfl) ?_
      obtain ⟨r_11, e_12, hrun⟩ := o_bh hrun
      refine cf_v (As := [.int p2]) (rest := [.int r_9]) S hK hA hZ Y hl.1 (mX5_hiderCount l D cI h σ p2 r_11 e_12) kX0_47 (T := TX5) (N := 16) rfl (q0 := 0) rfl ⟨Nat.le_of_ble_eq_true rfl, Nat.le_of_ble_eq_true rfl⟩ rfl rfl (Nat.le_of_ble_eq_true rfl) ⟨Nat.le_of_ble_eq_true rfl, Nat.le_of_ble_eq_true rfl⟩ dX0_isBetterToHide_71 (fun H locs Y => ?_)
      refine lv_icmp_eq (tgt := 96) hx hb dX0_isBetterToHide_74 (by decide) (fun c_13 => ?_) (fun c_13 => ?_)
      · have hrun := o_t hrun c_13
        refine lv_iload_n hx hb dX0_isBetterToHide_96 rfl (lv_at hl 1 rfl) ?_
        refine lv_iload_n hx hb dX0_isBetterToHide_97 rfl (lv_at hl 2 rfl) ?_
        refine lv_icmp_ge (tgt := 105) hx hb dX0_isBetterToHide_98 (by decide) (fun c_14 => ?_) (fun c_14 => ?_)
        · have hrun := o_t hrun c_14
          refine lv_iconst (v := (0 : Int32)) hx hb dX0_isBetterToHide_105 (by decide) ?_
          cases hrun
          exact me_ri S hK Y hr hlk rfl dX0_isBetterToHide_106
        · have hrun := o_f hrun c_14
          refine lv_iconst (v := (1 : Int32)) hx hb dX0_isBetterToHide_101 (by decide) ?_
          refine lv_goto (tgt := 106) hx hb dX0_isBetterToHide_102 (by decide) ?_
          cases hrun
          exact me_ri S hK Y hr hlk rfl dX0_isBetterToHide_106
      · have hrun := o_f hrun c_13
        refine lv_aload_n hx hb dX0_isBetterToHide_77 rfl (lv_at hl 0 rfl) ?_
        refine lv_iload_n hx hb dX0_isBetterToHide_78 rfl (lv_at hl 1 rfl) ?_
        obtain ⟨r_15, e_16, hrun⟩ := o_bh hrun
        refine cf_v (As := [.int p1]) (rest := []) S hK hA hZ Y hl.1 (mX5_hiderCount l D cI h σ p1 r_15 e_16) kX0_47 (T := TX5) (N := 16) rfl (q0 := 0) rfl ⟨Nat.le_of_ble_eq_true rfl, Nat.le_of_ble_eq_true rfl⟩ rfl rfl (Nat.le_of_ble_eq_true rfl) ⟨Nat.le_of_ble_eq_true rfl, Nat.le_of_ble_eq_true rfl⟩ dX0_isBetterToHide_79 (fun H locs Y => ?_)
        refine lv_aload_n hx hb dX0_isBetterToHide_82 rfl (lv_at hl 0 rfl) ?_
        refine lv_iload_n hx hb dX0_isBetterToHide_83 rfl (lv_at hl 2 rfl) ?_
        obtain ⟨r_17, e_18, hrun⟩ := o_bh hrun
        refine cf_v (As := [.int p2]) (rest := [.int r_15]) S hK hA hZ Y hl.1 (mX5_hiderCount l D cI h σ p2 r_17 e_18) kX0_47 (T := TX5) (N := 16) rfl (q0 := 0) rfl ⟨Nat.le_of_ble_eq_true rfl, Nat.le_of_ble_eq_true rfl⟩ rfl rfl (Nat.le_of_ble_eq_true rfl) ⟨Nat.le_of_ble_eq_true rfl, Nat.le_of_ble_eq_true rfl⟩ dX0_isBetterToHide_84 (fun H locs Y => ?_)
        refine lv_icmp_ge (tgt := 94) hx hb dX0_isBetterToHide_87 (by decide) (fun c_19 => ?_) (fun c_19 => ?_)
        · have hrun := o_t hrun c_19
          refine lv_iconst (v := (0 : Int32)) hx hb dX0_isBetterToHide_94 (by decide) ?_
          cases hrun
          exact me_ri S hK Y hr hlk rfl dX0_isBetterToHide_95
        · have hrun := o_f hrun c_19
          refine lv_iconst (v := (1 : Int32)) hx hb dX0_isBetterToHide_90 (by decide) ?_
          refine lv_goto (tgt := 95) hx hb dX0_isBetterToHide_91 (by decide) ?_
          cases hrun
          exact me_ri S hK Y hr hlk rfl dX0_isBetterToHide_95
    · have hrun := o_f hrun c_8
      refine lv_aload_n hx hb dX0_isBetterToHide_43 rfl (lv_at hl 0 rfl) ?_
      refine ig S hK Y fX0_43 0 rfl (v := .ref (h 8)) rfl dX0_isBetterToHide_44 ?_
      refine lv_iload_n hx hb dX0_isBetterToHide_47 rfl (lv_at hl 1 rfl) ?_
      refine ia S hK Y 8 0 (f := (σ 8)) rfl rfl b_6 dX0_isBetterToHide_48 ?_
      refine lv_aload_n hx hb dX0_isBetterToHide_49 rfl (lv_at hl 0 rfl) ?_
      refine ig S hK Y fX0_43 0 rfl (v := .ref (h 8)) rfl dX0_isBetterToHide_50 ?_
      refine lv_iload_n hx hb dX0_isBetterToHide_53 rfl (lv_at hl 2 rfl) ?_
      refine ia S hK Y 8 0 (f := (σ 8)) rfl rfl b_7 dX0_isBetterToHide_54 ?_
      refine lv_icmp_ge (tgt := 62) hx hb dX0_isBetterToHide_55 (by decide) (fun c_20 => ?_) (fun c_20 => ?_)
      · have hrun := o_t hrun c_20
        refine lv_iconst (v := (0 : Int32)) hx hb dX0_isBetterToHide_62 (by decide) ?_
        cases hrun
        exact me_ri S hK Y hr hlk rfl dX0_isBetterToHide_63
      · have hrun := o_f hrun c_20
        refine lv_iconst (v := (1 : Int32)) hx hb dX0_isBetterToHide_58 (by decide) ?_
        refine lv_goto (tgt := 63) hx hb dX0_isBetterToHide_59 (by decide) ?_
        cases hrun
        exact me_ri S hK Y hr hlk rfl dX0_isBetterToHide_63
  · have hrun := o_f hrun c_5
    refine lv_iload_n hx hb dX0_isBetterToHide_11 rfl (lv_at hl 1 rfl) ?_
    obtain ⟨r_21, e_22, hrun⟩ := o_bh hrun
    refine cp_s (As := [.int p1]) (rest := []) S hK hA hZ Y hl.1 (mX6_fromBase l D p1 r_21 e_22) kX0_39 ⟨Nat.le_of_ble_eq_true rfl, Nat.le_of_ble_eq_true rfl⟩ rfl rfl (Nat.le_of_ble_eq_true rfl) ⟨Nat.le_of_ble_eq_true rfl, Nat.le_of_ble_eq_true rfl⟩ dX0_isBetterToHide_12 (fun H locs Y => ?_)
    refine lv_iload_n hx hb dX0_isBetterToHide_15 rfl (lv_at hl 2 rfl) ?_
    obtain ⟨r_23, e_24, hrun⟩ := o_bh hrun
    refine cp_s (As := [.int p2]) (rest := [.int r_21]) S hK hA hZ Y hl.1 (mX6_fromBase l D p2 r_23 e_24) kX0_39 ⟨Nat.le_of_ble_eq_true rfl, Nat.le_of_ble_eq_true rfl⟩ rfl rfl (Nat.le_of_ble_eq_true rfl) ⟨Nat.le_of_ble_eq_true rfl, Nat.le_of_ble_eq_true rfl⟩ dX0_isBetterToHide_16 (fun H locs Y => ?_)
    refine lv_icmp_le (tgt := 26) hx hb dX0_isBetterToHide_19 (by decide) (fun c_25 => ?_) (fun c_25 => ?_)
    · have hrun := o_t hrun c_25
      refine lv_iconst (v := (0 : Int32)) hx hb dX0_isBetterToHide_26 (by decide) ?_
      cases hrun
      exact me_ri S hK Y hr hlk rfl dX0_isBetterToHide_27
    · have hrun := o_f hrun c_25
      refine lv_iconst (v := (1 : Int32)) hx hb dX0_isBetterToHide_22 (by decide) ?_
      refine lv_goto (tgt := 27) hx hb dX0_isBetterToHide_23 (by decide) ?_
      cases hrun
      exact me_ri S hK Y hr hlk rfl dX0_isBetterToHide_27
def fX2_countFalseCry (σ : sg_T) : Option (sg_T) := ((fX5_isPlayer (σ 0 3) (sg_a σ 0 (sg_u (σ 0) 6 ((σ 0 6) + (1 : Int32))))).bind fun r_1 => (if r_1 = 0 then (if ((σ 0 6) + (1 : Int32)) < ((σ 1) ((3 : Int32)).toNatClampNeg) then (some ((sg_a σ 0 (sg_u (σ 0) 6 ((σ 0 6) + (1 : Int32)))))) else ((fX2_letAllEscape (sg_a σ 0 (sg_u (σ 0) 6 ((σ 0 6) + (1 : Int32))))).bind fun σ5 => ((fX2_endRound σ5).bind fun σ7 => (some (σ7))))) else (o_x (σ 0 3) 8 (if ((σ 0 6) + (1 : Int32)) < ((σ 1) ((3 : Int32)).toNatClampNeg) then (some ((sg_a (sg_a (sg_a σ 0 (sg_u (σ 0) 6 ((σ 0 6) + (1 : Int32)))) 2 (upd (σ 2) ((σ 0 3)).toNatClampNeg (((σ 2) ((σ 0 3)).toNatClampNeg) + (-1 : Int32)))) 5 (upd (σ 5) ((σ 0 3)).toNatClampNeg (((σ 5) ((σ 0 3)).toNatClampNeg) + (1 : Int32)))))) else ((fX2_letAllEscape (sg_a (sg_a (sg_a σ 0 (sg_u (σ 0) 6 ((σ 0 6) + (1 : Int32)))) 2 (upd (σ 2) ((σ 0 3)).toNatClampNeg (((σ 2) ((σ 0 3)).toNatClampNeg) + (-1 : Int32)))) 5 (upd (σ 5) ((σ 0 3)).toNatClampNeg (((σ 5) ((σ 0 3)).toNatClampNeg) + (1 : Int32))))).bind fun σ11 => ((fX2_endRound σ11).bind fun σ13 => (some (σ13))))))))
set_option maxRecDepth 100000 in
set_option maxHeartbeats 4000000 in
theorem mX2_countFalseCry (l : Launch) (D : va_G) (cI : ClassId) (h : Nat → Nat) (σ : sg_T) (σ' : sg_T) (hrun : fX2_countFalseCry σ = some σ') : me_V l D (tS cI) yX2_countFalseCry cX2_countFalseCry 1 3 63 (wS cI h σ) [.ref (h 0)] (wS cI h σ') := by
  refine me_ofV (plainFor_of_name (by decide)) (Nat.le_of_ble_eq_true rfl) ?_
  intro p e s m args below meth c A ls S hK Y hA hl hr hlk hZ
  have hx := S.1
  have hb := S.2.1
  have hl : lv_has ls 1 [(0, .ref (h 0))] := hl
  unfold fX2_countFalseCry at hrun
  refine lv_aload_n hx hb dX2_countFalseCry_0 rfl (lv_at hl 0 rfl) ?_
  refine lv_dup hx hb dX2_countFalseCry_1 rfl ?_
  refine ig S hK Y fX2_124 0 rfl (v := .int (σ 0 6)) rfl dX2_countFalseCry_2 ?_
  refine lv_iconst (v := (1 : Int32)) hx hb dX2_countFalseCry_5 (by decide) ?_
  refine lv_iadd hx hb dX2_countFalseCry_6 ?_
  refine ip S hK Y fX2_124 fpX5 rfl 0 (fs := vS h (σ 0)) rfl rfl rfl (Nat.le_of_ble_eq_true rfl) (ws' := (wS cI h (sg_a σ 0 (sg_u (σ 0) 6 ((σ 0 6) + (1 : Int32)))))) (wS_f6 _ _ _ _) dX2_countFalseCry_7 (fun H locs Y => ?_)
  refine lv_aload_n hx hb dX2_countFalseCry_10 rfl (lv_at hl 0 rfl) ?_
  refine lv_aload_n hx hb dX2_countFalseCry_11 rfl (lv_at hl 0 rfl) ?_
  refine ig S hK Y fX2_35 0 rfl (v := .int (σ 0 3)) rfl dX2_countFalseCry_12 ?_
  obtain ⟨r_1, e_2, hrun⟩ := o_bh hrun
  refine cf_v (As := [.int (σ 0 3)]) (rest := []) S hK hA hZ Y hl.1 (mX5_isPlayer l D cI h (sg_a σ 0 (sg_u (σ 0) 6 ((σ 0 6) + (1 : Int32)))) (σ 0 3) r_1 e_2) kX2_32 (T := TX5) (N := 16) rfl (q0 := 0) rfl ⟨Nat.le_of_ble_eq_true rfl, Nat.le_of_ble_eq_true rfl⟩ rfl rfl (Nat.le_of_ble_eq_true rfl) ⟨Nat.le_of_ble_eq_true rfl, Nat.le_of_ble_eq_true rfl⟩ dX2_countFalseCry_15 (fun H locs Y => ?_)
  refine lv_if_eq (tgt := 47) hx hb dX2_countFalseCry_18 (by decide) (fun c_3 => ?_) (fun c_3 => ?_)
  · have hrun := o_t hrun c_3
    refine lv_aload_n hx hb dX2_countFalseCry_47 rfl (lv_at hl 0 rfl) ?_
    refine ig S hK Y fX2_124 0 rfl (v := .int ((σ 0 6) + (1 : Int32))) rfl dX2_countFalseCry_48 ?_
    refine lv_aload_n hx hb dX2_countFalseCry_51 rfl (lv_at hl 0 rfl) ?_
    refine ig S hK Y fX2_22 0 rfl (v := .ref (h 1)) rfl dX2_countFalseCry_52 ?_
    refine lv_iconst (v := (3 : Int32)) hx hb dX2_countFalseCry_55 (by decide) ?_
    refine ia S hK Y 1 0 (f := (σ 1)) rfl rfl (show ¬ ((3 : Int32) < 0 ∨ 4 ≤ ((3 : Int32)).toNatClampNeg) by decide) dX2_countFalseCry_56 ?_
    refine lv_icmp_lt (tgt := 68) hx hb dX2_countFalseCry_57 (by decide) (fun c_4 => ?_) (fun c_4 => ?_)
    · have hrun := o_t hrun c_4
      cases hrun
      exact me_rv S hK Y hr hlk dX2_countFalseCry_68
    · have hrun := o_f hrun c_4
      refine lv_aload_n hx hb dX2_countFalseCry_60 rfl (lv_at hl 0 rfl) ?_
      obtain ⟨σ5, e_6, hrun⟩ := o_bh hrun
      refine cf_sv (As := [.ref (h 0)]) (rest := []) S hK hA hZ Y hl.1 (mX2_letAllEscape l D cI h (sg_a σ 0 (sg_u (σ 0) 6 ((σ 0 6) + (1 : Int32)))) σ5 e_6) kX2_130 ⟨Nat.le_of_ble_eq_true rfl, Nat.le_of_ble_eq_true rfl⟩ rfl rfl (Nat.le_of_ble_eq_true rfl) ⟨Nat.le_of_ble_eq_true rfl, Nat.le_of_ble_eq_true rfl⟩ dX2_countFalseCry_61 (fun H locs Y => ?_)
      refine lv_aload_n hx hb dX2_countFalseCry_64 rfl (lv_at hl 0 rfl) ?_
      obtain ⟨σ7, e_8, hrun⟩ := o_bh hrun
      refine cf_sv (As := [.ref (h 0)]) (rest := []) S hK hA hZ Y hl.1 (mX2_endRound l D cI h σ5 σ7 e_8) kX2_133 ⟨Nat.le_of_ble_eq_true rfl, Nat.le_of_ble_eq_true rfl⟩ rfl rfl (Nat.le_of_ble_eq_true rfl) ⟨Nat.le_of_ble_eq_true rfl, Nat.le_of_ble_eq_true rfl⟩ dX2_countFalseCry_65 (fun H locs Y => ?_)
      cases hrun
      exact me_rv S hK Y hr hlk dX2_countFalseCry_68
  · have hrun := o_f hrun c_3
    refine lv_aload_n hx hb dX2_countFalseCry_21 rfl (lv_at hl 0 rfl) ?_
    refine ig S hK Y fX2_109 0 rfl (v := .ref (h 2)) rfl dX2_countFalseCry_22 ?_
    refine lv_aload_n hx hb dX2_countFalseCry_25 rfl (lv_at hl 0 rfl) ?_
    refine ig S hK Y fX2_35 0 rfl (v := .int (σ 0 3)) rfl dX2_countFalseCry_26 ?_
    refine lv_dup2_11 hx hb dX2_countFalseCry_29 rfl rfl ?_
    obtain ⟨b_9, hrun⟩ := o_xh hrun
    refine ia S hK Y 2 0 (f := (σ 2)) rfl rfl b_9 dX2_countFalseCry_30 ?_
    refine lv_iconst (v := (-1 : Int32)) hx hb dX2_countFalseCry_31 (by decide) ?_
    refine lv_iadd hx hb dX2_countFalseCry_32 ?_
    refine iw S hK Y 2 0 (f := (σ 2)) rfl rfl b_9 (ws' := (wS cI h (sg_a (sg_a σ 0 (sg_u (σ 0) 6 ((σ 0 6) + (1 : Int32)))) 2 (upd (σ 2) ((σ 0 3)).toNatClampNeg (((σ 2) ((σ 0 3)).toNatClampNeg) + (-1 : Int32)))))) (wS_a2 _ _ _) dX2_countFalseCry_33 (fun H locs Y => ?_)
    refine lv_aload_n hx hb dX2_countFalseCry_34 rfl (lv_at hl 0 rfl) ?_
    refine ig S hK Y fX2_127 0 rfl (v := .ref (h 5)) rfl dX2_countFalseCry_35 ?_
    refine lv_aload_n hx hb dX2_countFalseCry_38 rfl (lv_at hl 0 rfl) ?_
    refine ig S hK Y fX2_35 0 rfl (v := .int (σ 0 3)) rfl dX2_countFalseCry_39 ?_
    refine lv_dup2_11 hx hb dX2_countFalseCry_42 rfl rfl ?_
    refine ia S hK Y 5 0 (f := (σ 5)) rfl rfl b_9 dX2_countFalseCry_43 ?_
    refine lv_iconst (v := (1 : Int32)) hx hb dX2_countFalseCry_44 (by decide) ?_
    refine lv_iadd hx hb dX2_countFalseCry_45 ?_
    refine iw S hK Y 5 0 (f := (σ 5)) rfl rfl b_9 (ws' := (wS cI h (sg_a (sg_a (sg_a σ 0 (sg_u (σ 0) 6 ((σ 0 6) + (1 : Int32)))) 2 (upd (σ 2) ((σ 0 3)).toNatClampNeg (((σ 2) ((σ 0 3)).toNatClampNeg) + (-1 : Int32)))) 5 (upd (σ 5) ((σ 0 3)).toNatClampNeg (((σ 5) ((σ 0 3)).toNatClampNeg) + (1 : Int32)))))) (wS_a5 _ _ _) dX2_countFalseCry_46 (fun H locs Y => ?_)
    refine lv_aload_n hx hb dX2_countFalseCry_47 rfl (lv_at hl 0 rfl) ?_
    refine ig S hK Y fX2_124 0 rfl (v := .int ((σ 0 6) + (1 : Int32))) rfl dX2_countFalseCry_48 ?_
    refine lv_aload_n hx hb dX2_countFalseCry_51 rfl (lv_at hl 0 rfl) ?_
    refine ig S hK Y fX2_22 0 rfl (v := .ref (h 1)) rfl dX2_countFalseCry_52 ?_
    refine lv_iconst (v := (3 : Int32)) hx hb dX2_countFalseCry_55 (by decide) ?_
    refine ia S hK Y 1 0 (f := (σ 1)) rfl rfl (show ¬ ((3 : Int32) < 0 ∨ 4 ≤ ((3 : Int32)).toNatClampNeg) by decide) dX2_countFalseCry_56 ?_
    refine lv_icmp_lt (tgt := 68) hx hb dX2_countFalseCry_57 (by decide) (fun c_10 => ?_) (fun c_10 => ?_)
    · have hrun := o_t hrun c_10
      cases hrun
      exact me_rv S hK Y hr hlk dX2_countFalseCry_68
    · have hrun := o_f hrun c_10
      refine lv_aload_n hx hb dX2_countFalseCry_60 rfl (lv_at hl 0 rfl) ?_
      obtain ⟨σ11, e_12, hrun⟩ := o_bh hrun
      refine cf_sv (As := [.ref (h 0)]) (rest := []) S hK hA hZ Y hl.1 (mX2_letAllEscape l D cI h (sg_a (sg_a (sg_a σ 0 (sg_u (σ 0) 6 ((σ 0 6) + (1 : Int32)))) 2 (upd (σ 2) ((σ 0 3)).toNatClampNeg (((σ 2) ((σ 0 3)).toNatClampNeg) + (-1 : Int32)))) 5 (upd (σ 5) ((σ 0 3)).toNatClampNeg (((σ 5) ((σ 0 3)).toNatClampNeg) + (1 : Int32)))) σ11 e_12) kX2_130 ⟨Nat.le_of_ble_eq_true rfl, Nat.le_of_ble_eq_true rfl⟩ rfl rfl (Nat.le_of_ble_eq_true rfl) ⟨Nat.le_of_ble_eq_true rfl, Nat.le_of_ble_eq_true rfl⟩ dX2_countFalseCry_61 (fun H locs Y => ?_)
      refine lv_aload_n hx hb dX2_countFalseCry_64 rfl (lv_at hl 0 rfl) ?_
      obtain ⟨σ13, e_14, hrun⟩ := o_bh hrun
      refine cf_sv (As := [.ref (h 0)]) (rest := []) S hK hA hZ Y hl.1 (mX2_endRound l D cI h σ11 σ13 e_14) kX2_133 ⟨Nat.le_of_ble_eq_true rfl, Nat.le_of_ble_eq_true rfl⟩ rfl rfl (Nat.le_of_ble_eq_true rfl) ⟨Nat.le_of_ble_eq_true rfl, Nat.le_of_ble_eq_true rfl⟩ dX2_countFalseCry_65 (fun H locs Y => ?_)
      cases hrun
      exact me_rv S hK Y hr hlk dX2_countFalseCry_68
def fX2_endRoundIfNobodyIsHidden (σ : sg_T) : Option (sg_T) := ((fX5_hiddenCount σ).bind fun r_1 => (if r_1 = 0 then ((fX2_endRound σ).bind fun σ4 => (some (σ4))) else (some (σ))))
set_option maxRecDepth 100000 in
set_option maxHeartbeats 4000000 in
theorem mX2_endRoundIfNobodyIsHidden (l : Launch) (D : va_G) (cI : ClassId) (h : Nat → Nat) (σ : sg_T) (σ' : sg_T) (hrun : fX2_endRoundIfNobodyIsHidden σ = some σ') : me_V l D (tS cI) yX2_endRoundIfNobodyIsHidden cX2_endRoundIfNobodyIsHidden 1 3 64 (wS cI h σ) [.ref (h 0)] (wS cI h σ') := by
  refine me_ofV (plainFor_of_name (by decide)) (Nat.le_of_ble_eq_true rfl) ?_
  intro p e s m args below meth c A ls S hK Y hA hl hr hlk hZ
  have hx := S.1
  have hb := S.2.1
  have hl : lv_has ls 1 [(0, .ref (h 0))] := hl
  unfold fX2_endRoundIfNobodyIsHidden at hrun
  refine lv_aload_n hx hb dX2_endRoundIfNobodyIsHidden_0 rfl (lv_at hl 0 rfl) ?_
  obtain ⟨r_1, e_2, hrun⟩ := o_bh hrun
  refine cf_v (As := []) (rest := []) S hK hA hZ Y hl.1 (mX5_hiddenCount l D cI h σ r_1 e_2) kX2_77 (T := TX5) (N := 16) rfl (q0 := 0) rfl ⟨Nat.le_of_ble_eq_true rfl, Nat.le_of_ble_eq_true rfl⟩ rfl rfl (Nat.le_of_ble_eq_true rfl) ⟨Nat.le_of_ble_eq_true rfl, Nat.le_of_ble_eq_true rfl⟩ dX2_endRoundIfNobodyIsHidden_1 (fun H locs Y => ?_)
  refine lv_if_ne (tgt := 11) hx hb dX2_endRoundIfNobodyIsHidden_4 (by decide) (fun c_3 => ?_) (fun c_3 => ?_)
  · have hrun := o_f hrun c_3
    cases hrun
    exact me_rv S hK Y hr hlk dX2_endRoundIfNobodyIsHidden_11
  · have hrun := o_t hrun c_3
    refine lv_aload_n hx hb dX2_endRoundIfNobodyIsHidden_7 rfl (lv_at hl 0 rfl) ?_
    obtain ⟨σ4, e_5, hrun⟩ := o_bh hrun
    refine cf_sv (As := [.ref (h 0)]) (rest := []) S hK hA hZ Y hl.1 (mX2_endRound l D cI h σ σ4 e_5) kX2_133 ⟨Nat.le_of_ble_eq_true rfl, Nat.le_of_ble_eq_true rfl⟩ rfl rfl (Nat.le_of_ble_eq_true rfl) ⟨Nat.le_of_ble_eq_true rfl, Nat.le_of_ble_eq_true rfl⟩ dX2_endRoundIfNobodyIsHidden_8 (fun H locs Y => ?_)
    cases hrun
    exact me_rv S hK Y hr hlk dX2_endRoundIfNobodyIsHidden_11
def fX5_isHidingPlace (p1 : Int32) (σ : sg_T) : Option (Int32) := (if p1 = 0 then (some (0 : Int32)) else ((fX6_fromBase p1).bind fun r_2 => (if (σ 0 4) < r_2 then (some (0 : Int32)) else ((fX5_isRetired p1 σ).bind fun r_5 => (if r_5 = 0 then (some (1 : Int32)) else (some (0 : Int32)))))))
set_option maxRecDepth 100000 in
set_option maxHeartbeats 4000000 in
theorem mX5_isHidingPlace (l : Launch) (D : va_G) (cI : ClassId) (h : Nat → Nat) (σ : sg_T) (p1 : Int32) (r : Int32) (hrun : fX5_isHidingPlace p1 σ = some r) : me_I l D (tS cI) yX5_isHidingPlace cX5_isHidingPlace 2 .boolean 3 63 (wS cI h σ) [.ref (h 0), .int p1] r (wS cI h σ) := by
  refine me_ofI (plainFor_of_name (by decide)) (Nat.le_of_ble_eq_true rfl) ?_
  intro p e s m args below meth c A ls S hK Y hA hl hr hlk hZ
  have hx := S.1
  have hb := S.2.1
  have hl : lv_has ls 2 [(0, .ref (h 0)), (1, .int p1)] := hl
  unfold fX5_isHidingPlace at hrun
  refine lv_iload_n hx hb dX5_isHidingPlace_0 rfl (lv_at hl 1 rfl) ?_
  refine lv_if_eq (tgt := 27) hx hb dX5_isHidingPlace_1 (by decide) (fun c_1 => ?_) (fun c_1 => ?_)
  · have hrun := o_t hrun c_1
    refine lv_iconst (v := (0 : Int32)) hx hb dX5_isHidingPlace_27 (by decide) ?_
    cases hrun
    exact me_ri S hK Y hr hlk rfl dX5_isHidingPlace_28
  · have hrun := o_f hrun c_1
    refine lv_iload_n hx hb dX5_isHidingPlace_4 rfl (lv_at hl 1 rfl) ?_
    obtain ⟨r_2, e_3, hrun⟩ := o_bh hrun
    refine cp_s (As := [.int p1]) (rest := []) S hK hA hZ Y hl.1 (mX6_fromBase l D p1 r_2 e_3) kX5_97 ⟨Nat.le_of_ble_eq_true rfl, Nat.le_of_ble_eq_true rfl⟩ rfl rfl (Nat.le_of_ble_eq_true rfl) ⟨Nat.le_of_ble_eq_true rfl, Nat.le_of_ble_eq_true rfl⟩ dX5_isHidingPlace_5 (fun H locs Y => ?_)
    refine lv_aload_n hx hb dX5_isHidingPlace_8 rfl (lv_at hl 0 rfl) ?_
    refine ig S hK Y fX5_54 0 rfl (v := .int (σ 0 4)) rfl dX5_isHidingPlace_9 ?_
    refine lv_icmp_gt (tgt := 27) hx hb dX5_isHidingPlace_12 (by decide) (fun c_4 => ?_) (fun c_4 => ?_)
    · have hrun := o_t hrun c_4
      refine lv_iconst (v := (0 : Int32)) hx hb dX5_isHidingPlace_27 (by decide) ?_
      cases hrun
      exact me_ri S hK Y hr hlk rfl dX5_isHidingPlace_28
    · have hrun := o_f hrun c_4
      refine lv_aload_n hx hb dX5_isHidingPlace_15 rfl (lv_at hl 0 rfl) ?_
      refine lv_iload_n hx hb dX5_isHidingPlace_16 rfl (lv_at hl 1 rfl) ?_
      obtain ⟨r_5, e_6, hrun⟩ := o_bh hrun
      refine cf_v (As := [.int p1]) (rest := []) S hK hA hZ Y hl.1 (mX5_isRetired l D cI h σ p1 r_5 e_6) kX5_94 (T := TX5) (N := 16) rfl (q0 := 0) rfl ⟨Nat.le_of_ble_eq_true rfl, Nat.le_of_ble_eq_true rfl⟩ rfl rfl (Nat.le_of_ble_eq_true rfl) ⟨Nat.le_of_ble_eq_true rfl, Nat.le_of_ble_eq_true rfl⟩ dX5_isHidingPlace_17 (fun H locs Y => ?_)
      refine lv_if_ne (tgt := 27) hx hb dX5_isHidingPlace_20 (by decide) (fun c_7 => ?_) (fun c_7 => ?_)
      · have hrun := o_f hrun c_7
        refine lv_iconst (v := (0 : Int32)) hx hb dX5_isHidingPlace_27 (by decide) ?_
        cases hrun
        exact me_ri S hK Y hr hlk rfl dX5_isHidingPlace_28
      · have hrun := o_t hrun c_7
        refine lv_iconst (v := (1 : Int32)) hx hb dX5_isHidingPlace_23 (by decide) ?_
        refine lv_goto (tgt := 28) hx hb dX5_isHidingPlace_24 (by decide) ?_
        cases hrun
        exact me_ri S hK Y hr hlk rfl dX5_isHidingPlace_28
def fX5_hasRoomToHide (p1 : Int32) (σ : sg_T) : Option (Int32) := ((fX5_isHidingPlace p1 σ).bind fun r_1 => (if r_1 = 0 then (some (0 : Int32)) else ((fX5_isFull p1 σ).bind fun r_4 => (if r_4 = 0 then (some (1 : Int32)) else (some (0 : Int32))))))
set_option maxRecDepth 100000 in
set_option maxHeartbeats 4000000 in
theorem mX5_hasRoomToHide (l : Launch) (D : va_G) (cI : ClassId) (h : Nat → Nat) (σ : sg_T) (p1 : Int32) (r : Int32) (hrun : fX5_hasRoomToHide p1 σ = some r) : me_I l D (tS cI) yX5_hasRoomToHide cX5_hasRoomToHide 2 .boolean 4 84 (wS cI h σ) [.ref (h 0), .int p1] r (wS cI h σ) := by
  refine me_ofI (plainFor_of_name (by decide)) (Nat.le_of_ble_eq_true rfl) ?_
  intro p e s m args below meth c A ls S hK Y hA hl hr hlk hZ
  have hx := S.1
  have hb := S.2.1
  have hl : lv_has ls 2 [(0, .ref (h 0)), (1, .int p1)] := hl
  unfold fX5_hasRoomToHide at hrun
  refine lv_aload_n hx hb dX5_hasRoomToHide_0 rfl (lv_at hl 0 rfl) ?_
  refine lv_iload_n hx hb dX5_hasRoomToHide_1 rfl (lv_at hl 1 rfl) ?_
  obtain ⟨r_1, e_2, hrun⟩ := o_bh hrun
  refine cf_v (As := [.int p1]) (rest := []) S hK hA hZ Y hl.1 (mX5_isHidingPlace l D cI h σ p1 r_1 e_2) kX5_103 (T := TX5) (N := 16) rfl (q0 := 0) rfl ⟨Nat.le_of_ble_eq_true rfl, Nat.le_of_ble_eq_true rfl⟩ rfl rfl (Nat.le_of_ble_eq_true rfl) ⟨Nat.le_of_ble_eq_true rfl, Nat.le_of_ble_eq_true rfl⟩ dX5_hasRoomToHide_2 (fun H locs Y => ?_)
  refine lv_if_eq (tgt := 20) hx hb dX5_hasRoomToHide_5 (by decide) (fun c_3 => ?_) (fun c_3 => ?_)
  · have hrun := o_t hrun c_3
    refine lv_iconst (v := (0 : Int32)) hx hb dX5_hasRoomToHide_20 (by decide) ?_
    cases hrun
    exact me_ri S hK Y hr hlk rfl dX5_hasRoomToHide_21
  · have hrun := o_f hrun c_3
    refine lv_aload_n hx hb dX5_hasRoomToHide_8 rfl (lv_at hl 0 rfl) ?_
    refine lv_iload_n hx hb dX5_hasRoomToHide_9 rfl (lv_at hl 1 rfl) ?_
    obtain ⟨r_4, e_5, hrun⟩ := o_bh hrun
    refine cf_v (As := [.int p1]) (rest := []) S hK hA hZ Y hl.1 (mX5_isFull l D cI h σ p1 r_4 e_5) kX5_106 (T := TX5) (N := 16) rfl (q0 := 0) rfl ⟨Nat.le_of_ble_eq_true rfl, Nat.le_of_ble_eq_true rfl⟩ rfl rfl (Nat.le_of_ble_eq_true rfl) ⟨Nat.le_of_ble_eq_true rfl, Nat.le_of_ble_eq_true rfl⟩ dX5_hasRoomToHide_10 (fun H locs Y => ?_)
    refine lv_if_ne (tgt := 20) hx hb dX5_hasRoomToHide_13 (by decide) (fun c_6 => ?_) (fun c_6 => ?_)
    · have hrun := o_f hrun c_6
      refine lv_iconst (v := (0 : Int32)) hx hb dX5_hasRoomToHide_20 (by decide) ?_
      cases hrun
      exact me_ri S hK Y hr hlk rfl dX5_hasRoomToHide_21
    · have hrun := o_t hrun c_6
      refine lv_iconst (v := (1 : Int32)) hx hb dX5_hasRoomToHide_16 (by decide) ?_
      refine lv_goto (tgt := 21) hx hb dX5_hasRoomToHide_17 (by decide) ?_
      cases hrun
      exact me_ri S hK Y hr hlk rfl dX5_hasRoomToHide_21
def fX5_seekerSees (p1 : Int32) (σ : sg_T) : Option (Int32) := ((fX6_distance (σ 0 5) p1).bind fun r_1 => (if ((σ 1) ((0 : Int32)).toNatClampNeg) < r_1 then (some (0 : Int32)) else (some (1 : Int32))))
set_option maxRecDepth 100000 in
set_option maxHeartbeats 4000000 in
theorem mX5_seekerSees (l : Launch) (D : va_G) (cI : ClassId) (h : Nat → Nat) (σ : sg_T) (p1 : Int32) (r : Int32) (hrun : fX5_seekerSees p1 σ = some r) : me_I l D (tS cI) yX5_seekerSees cX5_seekerSees 2 .boolean 3 64 (wS cI h σ) [.ref (h 0), .int p1] r (wS cI h σ) := by
  refine me_ofI (plainFor_of_name (by decide)) (Nat.le_of_ble_eq_true rfl) ?_
  intro p e s m args below meth c A ls S hK Y hA hl hr hlk hZ
  have hx := S.1
  have hb := S.2.1
  have hl : lv_has ls 2 [(0, .ref (h 0)), (1, .int p1)] := hl
  unfold fX5_seekerSees at hrun
  refine lv_aload_n hx hb dX5_seekerSees_0 rfl (lv_at hl 0 rfl) ?_
  refine ig S hK Y fX5_57 0 rfl (v := .int (σ 0 5)) rfl dX5_seekerSees_1 ?_
  refine lv_iload_n hx hb dX5_seekerSees_4 rfl (lv_at hl 1 rfl) ?_
  obtain ⟨r_1, e_2, hrun⟩ := o_bh hrun
  refine cp_s (As := [.int (σ 0 5), .int p1]) (rest := []) S hK hA hZ Y hl.1 (mX6_distance l D (σ 0 5) p1 r_1 e_2) kX5_109 ⟨Nat.le_of_ble_eq_true rfl, Nat.le_of_ble_eq_true rfl⟩ rfl rfl (Nat.le_of_ble_eq_true rfl) ⟨Nat.le_of_ble_eq_true rfl, Nat.le_of_ble_eq_true rfl⟩ dX5_seekerSees_5 (fun H locs Y => ?_)
  refine lv_aload_n hx hb dX5_seekerSees_8 rfl (lv_at hl 0 rfl) ?_
  refine ig S hK Y fX5_9 0 rfl (v := .ref (h 1)) rfl dX5_seekerSees_9 ?_
  refine lv_iconst (v := (0 : Int32)) hx hb dX5_seekerSees_12 (by decide) ?_
  refine ia S hK Y 1 0 (f := (σ 1)) rfl rfl (show ¬ ((0 : Int32) < 0 ∨ 4 ≤ ((0 : Int32)).toNatClampNeg) by decide) dX5_seekerSees_13 ?_
  refine lv_icmp_gt (tgt := 21) hx hb dX5_seekerSees_14 (by decide) (fun c_3 => ?_) (fun c_3 => ?_)
  · have hrun := o_t hrun c_3
    refine lv_iconst (v := (0 : Int32)) hx hb dX5_seekerSees_21 (by decide) ?_
    cases hrun
    exact me_ri S hK Y hr hlk rfl dX5_seekerSees_22
  · have hrun := o_f hrun c_3
    refine lv_iconst (v := (1 : Int32)) hx hb dX5_seekerSees_17 (by decide) ?_
    refine lv_goto (tgt := 22) hx hb dX5_seekerSees_18 (by decide) ?_
    cases hrun
    exact me_ri S hK Y hr hlk rfl dX5_seekerSees_22
def fX5_wouldEscape (p1 : Int32) (σ : sg_T) : Option (Int32) := ((fX5_isHidden p1 σ).bind fun r_1 => (if r_1 = 0 then (some (0 : Int32)) else (o_x p1 8 ((fX6_fromBase ((σ 7) (p1).toNatClampNeg)).bind fun r_5 => ((fX6_fromBase (σ 0 5)).bind fun r_7 => (if r_7 ≤ r_5 then (some (0 : Int32)) else (some (1 : Int32))))))))
set_option maxRecDepth 100000 in
set_option maxHeartbeats 4000000 in
theorem mX5_wouldEscape (l : Launch) (D : va_G) (cI : ClassId) (h : Nat → Nat) (σ : sg_T) (p1 : Int32) (r : Int32) (hrun : fX5_wouldEscape p1 σ = some r) : me_I l D (tS cI) yX5_wouldEscape cX5_wouldEscape 2 .boolean 3 63 (wS cI h σ) [.ref (h 0), .int p1] r (wS cI h σ) := by
  refine me_ofI (plainFor_of_name (by decide)) (Nat.le_of_ble_eq_true rfl) ?_
  intro p e s m args below meth c A ls S hK Y hA hl hr hlk hZ
  have hx := S.1
  have hb := S.2.1
  have hl : lv_has ls 2 [(0, .ref (h 0)), (1, .int p1)] := hl
  unfold fX5_wouldEscape at hrun
  refine lv_aload_n hx hb dX5_wouldEscape_0 rfl (lv_at hl 0 rfl) ?_
  refine lv_iload_n hx hb dX5_wouldEscape_1 rfl (lv_at hl 1 rfl) ?_
  obtain ⟨r_1, e_2, hrun⟩ := o_bh hrun
  refine cf_v (As := [.int p1]) (rest := []) S hK hA hZ Y hl.1 (mX5_isHidden l D cI h σ p1 r_1 e_2) kX5_79 (T := TX5) (N := 16) rfl (q0 := 0) rfl ⟨Nat.le_of_ble_eq_true rfl, Nat.le_of_ble_eq_true rfl⟩ rfl rfl (Nat.le_of_ble_eq_true rfl) ⟨Nat.le_of_ble_eq_true rfl, Nat.le_of_ble_eq_true rfl⟩ dX5_wouldEscape_2 (fun H locs Y => ?_)
  refine lv_if_eq (tgt := 31) hx hb dX5_wouldEscape_5 (by decide) (fun c_3 => ?_) (fun c_3 => ?_)
  · have hrun := o_t hrun c_3
    refine lv_iconst (v := (0 : Int32)) hx hb dX5_wouldEscape_31 (by decide) ?_
    cases hrun
    exact me_ri S hK Y hr hlk rfl dX5_wouldEscape_32
  · have hrun := o_f hrun c_3
    refine lv_aload_n hx hb dX5_wouldEscape_8 rfl (lv_at hl 0 rfl) ?_
    refine ig S hK Y fX5_30 0 rfl (v := .ref (h 7)) rfl dX5_wouldEscape_9 ?_
    refine lv_iload_n hx hb dX5_wouldEscape_12 rfl (lv_at hl 1 rfl) ?_
    obtain ⟨b_4, hrun⟩ := o_xh hrun
    refine ia S hK Y 7 0 (f := (σ 7)) rfl rfl b_4 dX5_wouldEscape_13 ?_
    obtain ⟨r_5, e_6, hrun⟩ := o_bh hrun
    refine cp_s (As := [.int ((σ 7) (p1).toNatClampNeg)]) (rest := []) S hK hA hZ Y hl.1 (mX6_fromBase l D ((σ 7) (p1).toNatClampNeg) r_5 e_6) kX5_97 ⟨Nat.le_of_ble_eq_true rfl, Nat.le_of_ble_eq_true rfl⟩ rfl rfl (Nat.le_of_ble_eq_true rfl) ⟨Nat.le_of_ble_eq_true rfl, Nat.le_of_ble_eq_true rfl⟩ dX5_wouldEscape_14 (fun H locs Y => ?_)
    refine lv_aload_n hx hb dX5_wouldEscape_17 rfl (lv_at hl 0 rfl) ?_
    refine ig S hK Y fX5_57 0 rfl (v := .int (σ 0 5)) rfl dX5_wouldEscape_18 ?_
    obtain ⟨r_7, e_8, hrun⟩ := o_bh hrun
    refine cp_s (As := [.int (σ 0 5)]) (rest := [.int r_5]) S hK hA hZ Y hl.1 (mX6_fromBase l D (σ 0 5) r_7 e_8) kX5_97 ⟨Nat.le_of_ble_eq_true rfl, Nat.le_of_ble_eq_true rfl⟩ rfl rfl (Nat.le_of_ble_eq_true rfl) ⟨Nat.le_of_ble_eq_true rfl, Nat.le_of_ble_eq_true rfl⟩ dX5_wouldEscape_21 (fun H locs Y => ?_)
    refine lv_icmp_ge (tgt := 31) hx hb dX5_wouldEscape_24 (by decide) (fun c_9 => ?_) (fun c_9 => ?_)
    · have hrun := o_t hrun c_9
      refine lv_iconst (v := (0 : Int32)) hx hb dX5_wouldEscape_31 (by decide) ?_
      cases hrun
      exact me_ri S hK Y hr hlk rfl dX5_wouldEscape_32
    · have hrun := o_f hrun c_9
      refine lv_iconst (v := (1 : Int32)) hx hb dX5_wouldEscape_27 (by decide) ?_
      refine lv_goto (tgt := 32) hx hb dX5_wouldEscape_28 (by decide) ?_
      cases hrun
      exact me_ri S hK Y hr hlk rfl dX5_wouldEscape_32
def lX0_spotsInSight_16 : Nat → Int32 → Int32 → (sg_T) → Option (Int32)
  | 0, _, _, _ => none
  | n + 1, a1, a2, σ => (if (16 : Int32) ≤ a2 then (some a1) else ((fX5_seekerSees a2 σ).bind fun r_3 => (if r_3 = 0 then (lX0_spotsInSight_16 n a1 (a2 + (1 : Int32)) σ) else (lX0_spotsInSight_16 n (a1 ||| ((1 : Int32) <<< (a2 &&& 31))) (a2 + (1 : Int32)) σ))))
def fX0_spotsInSight (σ : sg_T) : Option (Int32) := (if (σ 0 2) = (2 : Int32) then (lX0_spotsInSight_16 70 (0 : Int32) (0 : Int32) σ) else (some (-10003 : Int32)))
set_option maxRecDepth 100000 in
set_option maxHeartbeats 4000000 in
theorem mX0_spotsInSight (l : Launch) (D : va_G) (cI : ClassId) (h : Nat → Nat) (σ : sg_T) (r : Int32) (hrun : fX0_spotsInSight σ = some r) : me_I l D (tS cI) yX0_spotsInSight cX0_spotsInSight 3 .int 4 85 (wS cI h σ) [.ref (h 0)] r (wS cI h σ) := by
  refine me_ofI (plainFor_of_name (by decide)) (Nat.le_of_ble_eq_true rfl) ?_
  intro p e s m args below meth c A ls S hK Y hA hl hr hlk hZ
  have hx := S.1
  have hb := S.2.1
  have hl : lv_has ls 3 [(0, .ref (h 0))] := hl
  have lp16 : ∀ (n : Nat) (a1 : Int32) (a2 : Int32), lX0_spotsInSight_16 n a1 a2 σ = some r → ∀ (H : Heap) (locs : List Loc) (ls : Array Slot), dy_ D A s (wS cI h σ) H locs → lv_has ls 3 [(0, .ref (h 0)), (1, .int a1), (2, .int a2)] → W p l e (rm_ 4 85) s m args below meth c H locs 0 0 (MQ below (me_Qi D (tS cI) A r (wS cI h σ)) args s 0 0 A) (F0 m 16 ls []) := by
    intro n
    induction n with
    | zero => intro a1 a2 hrun; cases hrun
    | succ n ih =>
      intro a1 a2 hrun H locs ls Y hl
      unfold lX0_spotsInSight_16 at hrun
      refine lv_iload_n hx hb dX0_spotsInSight_16 rfl (lv_at hl 2 rfl) ?_
      refine lv_bipush (v := (16 : Int32)) hx hb dX0_spotsInSight_17 (by decide) ?_
      refine lv_icmp_ge (tgt := 42) hx hb dX0_spotsInSight_19 (by decide) (fun c_2 => ?_) (fun c_2 => ?_)
      · have hrun := o_t hrun c_2
        refine lv_iload_n hx hb dX0_spotsInSight_42 rfl (lv_at hl 1 rfl) ?_
        cases hrun
        exact me_ri S hK Y hr hlk rfl dX0_spotsInSight_43
      · have hrun := o_f hrun c_2
        refine lv_aload_n hx hb dX0_spotsInSight_22 rfl (lv_at hl 0 rfl) ?_
        refine lv_iload_n hx hb dX0_spotsInSight_23 rfl (lv_at hl 2 rfl) ?_
        obtain ⟨r_3, e_4, hrun⟩ := o_bh hrun
        refine cf_v (As := [.int a2]) (rest := []) S hK hA hZ Y hl.1 (mX5_seekerSees l D cI h σ a2 r_3 e_4) kX0_17 (T := TX5) (N := 16) rfl (q0 := 0) rfl ⟨Nat.le_of_ble_eq_true rfl, Nat.le_of_ble_eq_true rfl⟩ rfl rfl (Nat.le_of_ble_eq_true rfl) ⟨Nat.le_of_ble_eq_true rfl, Nat.le_of_ble_eq_true rfl⟩ dX0_spotsInSight_24 (fun H locs Y => ?_)
        refine lv_if_eq (tgt := 36) hx hb dX0_spotsInSight_27 (by decide) (fun c_5 => ?_) (fun c_5 => ?_)
        · have hrun := o_t hrun c_5
          refine lv_iinc (v := (a2 + (1 : Int32))) (lv' := [(2, .int (a2 + (1 : Int32))), (0, .ref (h 0)), (1, .int a1)]) hx hb dX0_spotsInSight_36 hl (k := 2) rfl (by rfl) (Nat.le_of_ble_eq_true rfl) rfl (fun ls hl => ?_)
          refine lv_goto (tgt := 16) hx hb dX0_spotsInSight_39 (by decide) ?_
          exact ih a1 (a2 + (1 : Int32)) hrun _ _ _ Y (lv_sub hl [1, 2, 0] rfl)
        · have hrun := o_f hrun c_5
          refine lv_iload_n hx hb dX0_spotsInSight_30 rfl (lv_at hl 1 rfl) ?_
          refine lv_iconst (v := (1 : Int32)) hx hb dX0_spotsInSight_31 (by decide) ?_
          refine lv_iload_n hx hb dX0_spotsInSight_32 rfl (lv_at hl 2 rfl) ?_
          refine lv_ishl hx hb dX0_spotsInSight_33 ?_
          refine lv_ior hx hb dX0_spotsInSight_34 ?_
          refine lv_istore_n (lv' := [(1, .int (a1 ||| ((1 : Int32) <<< (a2 &&& 31)))), (0, .ref (h 0)), (2, .int a2)]) hx hb dX0_spotsInSight_35 rfl hl (Nat.le_of_ble_eq_true rfl) rfl (fun ls hl => ?_)
          refine lv_iinc (v := (a2 + (1 : Int32))) (lv' := [(2, .int (a2 + (1 : Int32))), (1, .int (a1 ||| ((1 : Int32) <<< (a2 &&& 31)))), (0, .ref (h 0))]) hx hb dX0_spotsInSight_36 hl (k := 2) rfl (by rfl) (Nat.le_of_ble_eq_true rfl) rfl (fun ls hl => ?_)
          refine lv_goto (tgt := 16) hx hb dX0_spotsInSight_39 (by decide) ?_
          exact ih (a1 ||| ((1 : Int32) <<< (a2 &&& 31))) (a2 + (1 : Int32)) hrun _ _ _ Y (lv_sub hl [2, 1, 0] rfl)
  unfold fX0_spotsInSight at hrun
  refine lv_aload_n hx hb dX0_spotsInSight_0 rfl (lv_at hl 0 rfl) ?_
  refine ig S hK Y fX0_9 0 rfl (v := .int (σ 0 2)) rfl dX0_spotsInSight_1 ?_
  refine lv_iconst (v := (2 : Int32)) hx hb dX0_spotsInSight_4 (by decide) ?_
  refine lv_icmp_eq (tgt := 12) hx hb dX0_spotsInSight_5 (by decide) (fun c_1 => ?_) (fun c_1 => ?_)
  · have hrun := o_t hrun c_1
    refine lv_iconst (v := (0 : Int32)) hx hb dX0_spotsInSight_12 (by decide) ?_
    refine lv_istore_n (lv' := [(1, .int (0 : Int32)), (0, .ref (h 0))]) hx hb dX0_spotsInSight_13 rfl hl (Nat.le_of_ble_eq_true rfl) rfl (fun ls hl => ?_)
    refine lv_iconst (v := (0 : Int32)) hx hb dX0_spotsInSight_14 (by decide) ?_
    refine lv_istore_n (lv' := [(2, .int (0 : Int32)), (1, .int (0 : Int32)), (0, .ref (h 0))]) hx hb dX0_spotsInSight_15 rfl hl (Nat.le_of_ble_eq_true rfl) rfl (fun ls hl => ?_)
    exact lp16 70 (0 : Int32) (0 : Int32) hrun _ _ _ Y (lv_sub hl [2, 1, 0] rfl)
  · have hrun := o_f hrun c_1
    refine lv_sipush (v := (-10003 : Int32)) hx hb dX0_spotsInSight_8 (by decide) ?_
    cases hrun
    exact me_ri S hK Y hr hlk rfl dX0_spotsInSight_11
