def fX8_in (p0 p1 p2 : Int32) : Option Int32 := (if p0 < p1 then (some (0 : Int32)) else (if p2 < p0 then (some (0 : Int32)) else (some (1 : Int32))))
set_option maxRecDepth 100000 in
set_option maxHeartbeats 4000000 in
theorem mX8_in (l : Launch) (D : va_G) (p0 p1 p2 : Int32) (r : Int32) (hrun : fX8_in p0 p1 p2 = some r) : me_I l D [] yX8_in cX8_in 3 .boolean 0 0 [] [.int p0, .int p1, .int p2] r [] := by
  refine me_ofI (plainFor_of_name (by decide)) (Nat.le_of_ble_eq_true rfl) ?_
  intro p e s m args below meth c A ls S hK Y hA hl hr hlk hZ
  have hx := S.1
  have hb := S.2.1
  have hl : lv_has ls 3 [(0, .int p0), (1, .int p1), (2, .int p2)] := hl
  unfold fX8_in at hrun
  refine lv_iload_n hx hb dX8_in_0 rfl (lv_at hl 0 rfl) ?_
  refine lv_iload_n hx hb dX8_in_1 rfl (lv_at hl 1 rfl) ?_
  refine lv_icmp_lt (tgt := 14) hx hb dX8_in_2 (by decide) (fun c_1 => ?_) (fun c_1 => ?_)
  · have hrun := o_t hrun c_1
    refine lv_iconst (v := (0 : Int32)) hx hb dX8_in_14 (by decide) ?_
    cases hrun
    exact me_ri S hK Y hr hlk rfl dX8_in_15
  · have hrun := o_f hrun c_1
    refine lv_iload_n hx hb dX8_in_5 rfl (lv_at hl 0 rfl) ?_
    refine lv_iload_n hx hb dX8_in_6 rfl (lv_at hl 2 rfl) ?_
    refine lv_icmp_gt (tgt := 14) hx hb dX8_in_7 (by decide) (fun c_2 => ?_) (fun c_2 => ?_)
    · have hrun := o_t hrun c_2
      refine lv_iconst (v := (0 : Int32)) hx hb dX8_in_14 (by decide) ?_
      cases hrun
      exact me_ri S hK Y hr hlk rfl dX8_in_15
    · have hrun := o_f hrun c_2
      refine lv_iconst (v := (1 : Int32)) hx hb dX8_in_10 (by decide) ?_
      refine lv_goto (tgt := 15) hx hb dX8_in_11 (by decide) ?_
      cases hrun
      exact me_ri S hK Y hr hlk rfl dX8_in_15
def fX8_isSpot (p0 : Int32) : Option Int32 := ((fX8_in p0 (0 : Int32) (15 : Int32)).bind fun r_1 => (o_k (r_1 = 0 ∨ r_1 = 1) (some r_1)))
set_option maxRecDepth 100000 in
set_option maxHeartbeats 4000000 in
theorem mX8_isSpot (l : Launch) (D : va_G) (p0 : Int32) (r : Int32) (hrun : fX8_isSpot p0 = some r) : me_I l D [] yX8_isSpot cX8_isSpot 1 .boolean 1 22 [] [.int p0] r [] := by
  refine me_ofI (plainFor_of_name (by decide)) (Nat.le_of_ble_eq_true rfl) ?_
  intro p e s m args below meth c A ls S hK Y hA hl hr hlk hZ
  have hx := S.1
  have hb := S.2.1
  have hl : lv_has ls 1 [(0, .int p0)] := hl
  unfold fX8_isSpot at hrun
  refine lv_iload_n hx hb dX8_isSpot_0 rfl (lv_at hl 0 rfl) ?_
  refine lv_iconst (v := (0 : Int32)) hx hb dX8_isSpot_1 (by decide) ?_
  refine lv_bipush (v := (15 : Int32)) hx hb dX8_isSpot_2 (by decide) ?_
  obtain ⟨r_1, e_2, hrun⟩ := o_bh hrun
  refine cp_s (As := [.int p0, .int (0 : Int32), .int (15 : Int32)]) (rest := []) S hK hA hZ Y hl.1 (mX8_in l D p0 (0 : Int32) (15 : Int32) r_1 e_2) kX8_26 ⟨Nat.le_of_ble_eq_true rfl, Nat.le_of_ble_eq_true rfl⟩ rfl rfl (Nat.le_of_ble_eq_true rfl) ⟨Nat.le_of_ble_eq_true rfl, Nat.le_of_ble_eq_true rfl⟩ dX8_isSpot_4 (fun H locs Y => ?_)
  obtain ⟨c_3, hrun⟩ := o_kh hrun
  cases hrun
  exact me_ri S hK Y hr hlk (nb_ c_3) dX8_isSpot_7
def fX8_isPlayer (p1 : Int32) (σ : sg_T) : Option (Int32) := ((fX8_in p1 (0 : Int32) (((σ 1) ((4 : Int32)).toNatClampNeg) - (1 : Int32))).bind fun r_1 => (o_k (r_1 = 0 ∨ r_1 = 1) (some r_1)))
set_option maxRecDepth 100000 in
set_option maxHeartbeats 4000000 in
theorem mX8_isPlayer (l : Launch) (D : va_G) (cI cC : ClassId) (h : Nat → Nat) (σ : sg_T) (p1 : Int32) (r : Int32) (hrun : fX8_isPlayer p1 σ = some r) : me_I l D (tM cI cC) yX8_isPlayer cX8_isPlayer 2 .boolean 1 22 (wM cI cC h σ) [.ref (h 0), .int p1] r (wM cI cC h σ) := by
  refine me_ofI (plainFor_of_name (by decide)) (Nat.le_of_ble_eq_true rfl) ?_
  intro p e s m args below meth c A ls S hK Y hA hl hr hlk hZ
  have hx := S.1
  have hb := S.2.1
  have hl : lv_has ls 2 [(0, .ref (h 0)), (1, .int p1)] := hl
  unfold fX8_isPlayer at hrun
  refine lv_iload_n hx hb dX8_isPlayer_0 rfl (lv_at hl 1 rfl) ?_
  refine lv_iconst (v := (0 : Int32)) hx hb dX8_isPlayer_1 (by decide) ?_
  refine lv_aload_n hx hb dX8_isPlayer_2 rfl (lv_at hl 0 rfl) ?_
  refine ig S hK Y fX8_7 0 rfl (v := .ref (h 1)) rfl dX8_isPlayer_3 ?_
  refine lv_iconst (v := (4 : Int32)) hx hb dX8_isPlayer_6 (by decide) ?_
  refine ia S hK Y 1 0 (f := (σ 1)) rfl rfl (show ¬ ((4 : Int32) < 0 ∨ 108 ≤ ((4 : Int32)).toNatClampNeg) by decide) dX8_isPlayer_7 ?_
  refine lv_iconst (v := (1 : Int32)) hx hb dX8_isPlayer_8 (by decide) ?_
  refine lv_isub hx hb dX8_isPlayer_9 ?_
  obtain ⟨r_1, e_2, hrun⟩ := o_bh hrun
  refine cp_s (As := [.int p1, .int (0 : Int32), .int (((σ 1) ((4 : Int32)).toNatClampNeg) - (1 : Int32))]) (rest := []) S hK hA hZ Y hl.1 (mX8_in l D p1 (0 : Int32) (((σ 1) ((4 : Int32)).toNatClampNeg) - (1 : Int32)) r_1 e_2) kX8_26 ⟨Nat.le_of_ble_eq_true rfl, Nat.le_of_ble_eq_true rfl⟩ rfl rfl (Nat.le_of_ble_eq_true rfl) ⟨Nat.le_of_ble_eq_true rfl, Nat.le_of_ble_eq_true rfl⟩ dX8_isPlayer_10 (fun H locs Y => ?_)
  obtain ⟨c_3, hrun⟩ := o_kh hrun
  cases hrun
  exact me_ri S hK Y hr hlk (nb_ c_3) dX8_isPlayer_13
def fX8_of (p1 p2 : Int32) (σ : sg_T) : Option (Int32) := (o_x (((12 : Int32) + ((6 : Int32) * p1)) + p2) 108 (some ((σ 1) ((((12 : Int32) + ((6 : Int32) * p1)) + p2)).toNatClampNeg)))
set_option maxRecDepth 100000 in
set_option maxHeartbeats 4000000 in
theorem mX8_of (l : Launch) (D : va_G) (cI cC : ClassId) (h : Nat → Nat) (σ : sg_T) (p1 p2 : Int32) (r : Int32) (hrun : fX8_of p1 p2 σ = some r) : me_I l D (tM cI cC) yX8_of cX8_of 3 .int 0 0 (wM cI cC h σ) [.ref (h 0), .int p1, .int p2] r (wM cI cC h σ) := by
  refine me_ofI (plainFor_of_name (by decide)) (Nat.le_of_ble_eq_true rfl) ?_
  intro p e s m args below meth c A ls S hK Y hA hl hr hlk hZ
  have hx := S.1
  have hb := S.2.1
  have hl : lv_has ls 3 [(0, .ref (h 0)), (1, .int p1), (2, .int p2)] := hl
  unfold fX8_of at hrun
  refine lv_aload_n hx hb dX8_of_0 rfl (lv_at hl 0 rfl) ?_
  refine ig S hK Y fX8_7 0 rfl (v := .ref (h 1)) rfl dX8_of_1 ?_
  refine lv_bipush (v := (12 : Int32)) hx hb dX8_of_4 (by decide) ?_
  refine lv_bipush (v := (6 : Int32)) hx hb dX8_of_6 (by decide) ?_
  refine lv_iload_n hx hb dX8_of_8 rfl (lv_at hl 1 rfl) ?_
  refine lv_imul hx hb dX8_of_9 ?_
  refine lv_iadd hx hb dX8_of_10 ?_
  refine lv_iload_n hx hb dX8_of_11 rfl (lv_at hl 2 rfl) ?_
  refine lv_iadd hx hb dX8_of_12 ?_
  obtain ⟨b_1, hrun⟩ := o_xh hrun
  refine ia S hK Y 1 0 (f := (σ 1)) rfl rfl b_1 dX8_of_13 ?_
  cases hrun
  exact me_ri S hK Y hr hlk rfl dX8_of_14
def fX8_adds (p1 p2 p3 : Int32) (σ : sg_T) : Option (sg_T) := (o_x (((12 : Int32) + ((6 : Int32) * p1)) + p2) 108 (some ((sg_a σ 1 (upd (σ 1) ((((12 : Int32) + ((6 : Int32) * p1)) + p2)).toNatClampNeg (((σ 1) ((((12 : Int32) + ((6 : Int32) * p1)) + p2)).toNatClampNeg) + p3))))))
set_option maxRecDepth 100000 in
set_option maxHeartbeats 4000000 in
theorem mX8_adds (l : Launch) (D : va_G) (cI cC : ClassId) (h : Nat → Nat) (σ : sg_T) (p1 p2 p3 : Int32) (σ' : sg_T) (hrun : fX8_adds p1 p2 p3 σ = some σ') : me_V l D (tM cI cC) yX8_adds cX8_adds 4 0 0 (wM cI cC h σ) [.ref (h 0), .int p1, .int p2, .int p3] (wM cI cC h σ') := by
  refine me_ofV (plainFor_of_name (by decide)) (Nat.le_of_ble_eq_true rfl) ?_
  intro p e s m args below meth c A ls S hK Y hA hl hr hlk hZ
  have hx := S.1
  have hb := S.2.1
  have hl : lv_has ls 4 [(0, .ref (h 0)), (1, .int p1), (2, .int p2), (3, .int p3)] := hl
  unfold fX8_adds at hrun
  refine lv_aload_n hx hb dX8_adds_0 rfl (lv_at hl 0 rfl) ?_
  refine ig S hK Y fX8_7 0 rfl (v := .ref (h 1)) rfl dX8_adds_1 ?_
  refine lv_bipush (v := (12 : Int32)) hx hb dX8_adds_4 (by decide) ?_
  refine lv_bipush (v := (6 : Int32)) hx hb dX8_adds_6 (by decide) ?_
  refine lv_iload_n hx hb dX8_adds_8 rfl (lv_at hl 1 rfl) ?_
  refine lv_imul hx hb dX8_adds_9 ?_
  refine lv_iadd hx hb dX8_adds_10 ?_
  refine lv_iload_n hx hb dX8_adds_11 rfl (lv_at hl 2 rfl) ?_
  refine lv_iadd hx hb dX8_adds_12 ?_
  refine lv_dup2_11 hx hb dX8_adds_13 rfl rfl ?_
  obtain ⟨b_1, hrun⟩ := o_xh hrun
  refine ia S hK Y 1 0 (f := (σ 1)) rfl rfl b_1 dX8_adds_14 ?_
  refine lv_iload_n hx hb dX8_adds_15 rfl (lv_at hl 3 rfl) ?_
  refine lv_iadd hx hb dX8_adds_16 ?_
  refine iw S hK Y 1 0 (f := (σ 1)) rfl rfl b_1 (ws' := (wM cI cC h (sg_a σ 1 (upd (σ 1) ((((12 : Int32) + ((6 : Int32) * p1)) + p2)).toNatClampNeg (((σ 1) ((((12 : Int32) + ((6 : Int32) * p1)) + p2)).toNatClampNeg) + p3))))) (wM_a1 _ _ _) dX8_adds_17 (fun H locs Y => ?_)
  cases hrun
  exact me_rv S hK Y hr hlk dX8_adds_18
def fX8_hides (p1 p2 : Int32) (σ : sg_T) : Option (sg_T) := (o_x (((12 : Int32) + ((6 : Int32) * p1)) + (5 : Int32)) 108 (some ((sg_a σ 1 (upd (σ 1) ((((12 : Int32) + ((6 : Int32) * p1)) + (5 : Int32))).toNatClampNeg p2)))))
set_option maxRecDepth 100000 in
set_option maxHeartbeats 4000000 in
theorem mX8_hides (l : Launch) (D : va_G) (cI cC : ClassId) (h : Nat → Nat) (σ : sg_T) (p1 p2 : Int32) (σ' : sg_T) (hrun : fX8_hides p1 p2 σ = some σ') : me_V l D (tM cI cC) yX8_hides cX8_hides 3 0 0 (wM cI cC h σ) [.ref (h 0), .int p1, .int p2] (wM cI cC h σ') := by
  refine me_ofV (plainFor_of_name (by decide)) (Nat.le_of_ble_eq_true rfl) ?_
  intro p e s m args below meth c A ls S hK Y hA hl hr hlk hZ
  have hx := S.1
  have hb := S.2.1
  have hl : lv_has ls 3 [(0, .ref (h 0)), (1, .int p1), (2, .int p2)] := hl
  unfold fX8_hides at hrun
  refine lv_aload_n hx hb dX8_hides_0 rfl (lv_at hl 0 rfl) ?_
  refine ig S hK Y fX8_7 0 rfl (v := .ref (h 1)) rfl dX8_hides_1 ?_
  refine lv_bipush (v := (12 : Int32)) hx hb dX8_hides_4 (by decide) ?_
  refine lv_bipush (v := (6 : Int32)) hx hb dX8_hides_6 (by decide) ?_
  refine lv_iload_n hx hb dX8_hides_8 rfl (lv_at hl 1 rfl) ?_
  refine lv_imul hx hb dX8_hides_9 ?_
  refine lv_iadd hx hb dX8_hides_10 ?_
  refine lv_iconst (v := (5 : Int32)) hx hb dX8_hides_11 (by decide) ?_
  refine lv_iadd hx hb dX8_hides_12 ?_
  refine lv_iload_n hx hb dX8_hides_13 rfl (lv_at hl 2 rfl) ?_
  obtain ⟨b_1, hrun⟩ := o_xh hrun
  refine iw S hK Y 1 0 (f := (σ 1)) rfl rfl b_1 (ws' := (wM cI cC h (sg_a σ 1 (upd (σ 1) ((((12 : Int32) + ((6 : Int32) * p1)) + (5 : Int32))).toNatClampNeg p2)))) (wM_a1 _ _ _) dX8_hides_14 (fun H locs Y => ?_)
  cases hrun
  exact me_rv S hK Y hr hlk dX8_hides_15
def fX8_ofSpot (p1 p2 : Int32) (σ : sg_T) : Option (Int32) := (o_x (((60 : Int32) + ((3 : Int32) * p1)) + p2) 108 (some ((σ 1) ((((60 : Int32) + ((3 : Int32) * p1)) + p2)).toNatClampNeg)))
set_option maxRecDepth 100000 in
set_option maxHeartbeats 4000000 in
theorem mX8_ofSpot (l : Launch) (D : va_G) (cI cC : ClassId) (h : Nat → Nat) (σ : sg_T) (p1 p2 : Int32) (r : Int32) (hrun : fX8_ofSpot p1 p2 σ = some r) : me_I l D (tM cI cC) yX8_ofSpot cX8_ofSpot 3 .int 0 0 (wM cI cC h σ) [.ref (h 0), .int p1, .int p2] r (wM cI cC h σ) := by
  refine me_ofI (plainFor_of_name (by decide)) (Nat.le_of_ble_eq_true rfl) ?_
  intro p e s m args below meth c A ls S hK Y hA hl hr hlk hZ
  have hx := S.1
  have hb := S.2.1
  have hl : lv_has ls 3 [(0, .ref (h 0)), (1, .int p1), (2, .int p2)] := hl
  unfold fX8_ofSpot at hrun
  refine lv_aload_n hx hb dX8_ofSpot_0 rfl (lv_at hl 0 rfl) ?_
  refine ig S hK Y fX8_7 0 rfl (v := .ref (h 1)) rfl dX8_ofSpot_1 ?_
  refine lv_bipush (v := (60 : Int32)) hx hb dX8_ofSpot_4 (by decide) ?_
  refine lv_iconst (v := (3 : Int32)) hx hb dX8_ofSpot_6 (by decide) ?_
  refine lv_iload_n hx hb dX8_ofSpot_7 rfl (lv_at hl 1 rfl) ?_
  refine lv_imul hx hb dX8_ofSpot_8 ?_
  refine lv_iadd hx hb dX8_ofSpot_9 ?_
  refine lv_iload_n hx hb dX8_ofSpot_10 rfl (lv_at hl 2 rfl) ?_
  refine lv_iadd hx hb dX8_ofSpot_11 ?_
  obtain ⟨b_1, hrun⟩ := o_xh hrun
  refine ia S hK Y 1 0 (f := (σ 1)) rfl rfl b_1 dX8_ofSpot_12 ?_
  cases hrun
  exact me_ri S hK Y hr hlk rfl dX8_ofSpot_13
def fX8_isRetired (p1 : Int32) (σ : sg_T) : Option (Int32) := ((fX8_ofSpot p1 (1 : Int32) σ).bind fun r_1 => (if r_1 = (1 : Int32) then (some (1 : Int32)) else (some (0 : Int32))))
set_option maxRecDepth 100000 in
set_option maxHeartbeats 4000000 in
theorem mX8_isRetired (l : Launch) (D : va_G) (cI cC : ClassId) (h : Nat → Nat) (σ : sg_T) (p1 : Int32) (r : Int32) (hrun : fX8_isRetired p1 σ = some r) : me_I l D (tM cI cC) yX8_isRetired cX8_isRetired 2 .boolean 1 22 (wM cI cC h σ) [.ref (h 0), .int p1] r (wM cI cC h σ) := by
  refine me_ofI (plainFor_of_name (by decide)) (Nat.le_of_ble_eq_true rfl) ?_
  intro p e s m args below meth c A ls S hK Y hA hl hr hlk hZ
  have hx := S.1
  have hb := S.2.1
  have hl : lv_has ls 2 [(0, .ref (h 0)), (1, .int p1)] := hl
  unfold fX8_isRetired at hrun
  refine lv_aload_n hx hb dX8_isRetired_0 rfl (lv_at hl 0 rfl) ?_
  refine lv_iload_n hx hb dX8_isRetired_1 rfl (lv_at hl 1 rfl) ?_
  refine lv_iconst (v := (1 : Int32)) hx hb dX8_isRetired_2 (by decide) ?_
  obtain ⟨r_1, e_2, hrun⟩ := o_bh hrun
  refine cf_v (As := [.int p1, .int (1 : Int32)]) (rest := []) S hK hA hZ Y hl.1 (mX8_ofSpot l D cI cC h σ p1 (1 : Int32) r_1 e_2) kX8_30 (T := TX8) (N := 11) rfl (q0 := 0) rfl ⟨Nat.le_of_ble_eq_true rfl, Nat.le_of_ble_eq_true rfl⟩ rfl rfl (Nat.le_of_ble_eq_true rfl) ⟨Nat.le_of_ble_eq_true rfl, Nat.le_of_ble_eq_true rfl⟩ dX8_isRetired_3 (fun H locs Y => ?_)
  refine lv_iconst (v := (1 : Int32)) hx hb dX8_isRetired_6 (by decide) ?_
  refine lv_icmp_ne (tgt := 14) hx hb dX8_isRetired_7 (by decide) (fun c_3 => ?_) (fun c_3 => ?_)
  · have hrun := o_f hrun c_3
    refine lv_iconst (v := (0 : Int32)) hx hb dX8_isRetired_14 (by decide) ?_
    cases hrun
    exact me_ri S hK Y hr hlk rfl dX8_isRetired_15
  · have hrun := o_t hrun c_3
    refine lv_iconst (v := (1 : Int32)) hx hb dX8_isRetired_10 (by decide) ?_
    refine lv_goto (tgt := 15) hx hb dX8_isRetired_11 (by decide) ?_
    cases hrun
    exact me_ri S hK Y hr hlk rfl dX8_isRetired_15
def fX8_distance (p0 p1 : Int32) : Option Int32 := (if p1 ≤ p0 then (if (8 : Int32) < (p0 - p1) then (some ((16 : Int32) - (p0 - p1))) else (some (p0 - p1))) else (if (8 : Int32) < (p1 - p0) then (some ((16 : Int32) - (p1 - p0))) else (some (p1 - p0))))
set_option maxRecDepth 100000 in
set_option maxHeartbeats 4000000 in
theorem mX8_distance (l : Launch) (D : va_G) (p0 p1 : Int32) (r : Int32) (hrun : fX8_distance p0 p1 = some r) : me_I l D [] yX8_distance cX8_distance 3 .int 0 0 [] [.int p0, .int p1] r [] := by
  refine me_ofI (plainFor_of_name (by decide)) (Nat.le_of_ble_eq_true rfl) ?_
  intro p e s m args below meth c A ls S hK Y hA hl hr hlk hZ
  have hx := S.1
  have hb := S.2.1
  have hl : lv_has ls 3 [(0, .int p0), (1, .int p1)] := hl
  unfold fX8_distance at hrun
  refine lv_iload_n hx hb dX8_distance_0 rfl (lv_at hl 0 rfl) ?_
  refine lv_iload_n hx hb dX8_distance_1 rfl (lv_at hl 1 rfl) ?_
  refine lv_icmp_ge (tgt := 11) hx hb dX8_distance_2 (by decide) (fun c_1 => ?_) (fun c_1 => ?_)
  · have hrun := o_t hrun c_1
    refine lv_iload_n hx hb dX8_distance_11 rfl (lv_at hl 0 rfl) ?_
    refine lv_iload_n hx hb dX8_distance_12 rfl (lv_at hl 1 rfl) ?_
    refine lv_isub hx hb dX8_distance_13 ?_
    refine lv_istore_n (lv' := [(2, .int (p0 - p1)), (0, .int p0), (1, .int p1)]) hx hb dX8_distance_14 rfl hl (Nat.le_of_ble_eq_true rfl) rfl (fun ls hl => ?_)
    refine lv_iload_n hx hb dX8_distance_15 rfl (lv_at hl 0 rfl) ?_
    refine lv_bipush (v := (8 : Int32)) hx hb dX8_distance_16 (by decide) ?_
    refine lv_icmp_gt (tgt := 25) hx hb dX8_distance_18 (by decide) (fun c_2 => ?_) (fun c_2 => ?_)
    · have hrun := o_t hrun c_2
      refine lv_bipush (v := (16 : Int32)) hx hb dX8_distance_25 (by decide) ?_
      refine lv_iload_n hx hb dX8_distance_27 rfl (lv_at hl 0 rfl) ?_
      refine lv_isub hx hb dX8_distance_28 ?_
      cases hrun
      exact me_ri S hK Y hr hlk rfl dX8_distance_29
    · have hrun := o_f hrun c_2
      refine lv_iload_n hx hb dX8_distance_21 rfl (lv_at hl 0 rfl) ?_
      refine lv_goto (tgt := 29) hx hb dX8_distance_22 (by decide) ?_
      cases hrun
      exact me_ri S hK Y hr hlk rfl dX8_distance_29
  · have hrun := o_f hrun c_1
    refine lv_iload_n hx hb dX8_distance_5 rfl (lv_at hl 1 rfl) ?_
    refine lv_iload_n hx hb dX8_distance_6 rfl (lv_at hl 0 rfl) ?_
    refine lv_isub hx hb dX8_distance_7 ?_
    refine lv_goto (tgt := 14) hx hb dX8_distance_8 (by decide) ?_
    refine lv_istore_n (lv' := [(2, .int (p1 - p0)), (0, .int p0), (1, .int p1)]) hx hb dX8_distance_14 rfl hl (Nat.le_of_ble_eq_true rfl) rfl (fun ls hl => ?_)
    refine lv_iload_n hx hb dX8_distance_15 rfl (lv_at hl 0 rfl) ?_
    refine lv_bipush (v := (8 : Int32)) hx hb dX8_distance_16 (by decide) ?_
    refine lv_icmp_gt (tgt := 25) hx hb dX8_distance_18 (by decide) (fun c_3 => ?_) (fun c_3 => ?_)
    · have hrun := o_t hrun c_3
      refine lv_bipush (v := (16 : Int32)) hx hb dX8_distance_25 (by decide) ?_
      refine lv_iload_n hx hb dX8_distance_27 rfl (lv_at hl 0 rfl) ?_
      refine lv_isub hx hb dX8_distance_28 ?_
      cases hrun
      exact me_ri S hK Y hr hlk rfl dX8_distance_29
    · have hrun := o_f hrun c_3
      refine lv_iload_n hx hb dX8_distance_21 rfl (lv_at hl 0 rfl) ?_
      refine lv_goto (tgt := 29) hx hb dX8_distance_22 (by decide) ?_
      cases hrun
      exact me_ri S hK Y hr hlk rfl dX8_distance_29
def lX8_record_50 : Nat → Int32 → (sg_T) → Option (sg_T)
  | 0, _, _ => none
  | n + 1, a1, σ => (if (108 : Int32) ≤ a1 then (some ((sg_a σ 0 (sg_u (σ 0) 0 ((σ 0 0) + (1 : Int32)))))) else (o_x a1 108 (o_x (((σ 0 0) * (108 : Int32)) + a1) 540 (lX8_record_50 n (a1 + (1 : Int32)) (sg_a σ 2 (upd (σ 2) ((((σ 0 0) * (108 : Int32)) + a1)).toNatClampNeg ((σ 1) (a1).toNatClampNeg)))))))
def lX8_record_10 : Nat → Int32 → (sg_T) → Option (sg_T)
  | 0, _, _ => none
  | n + 1, a1, σ => (if (432 : Int32) ≤ a1 then (lX8_record_50 500 (0 : Int32) (sg_a σ 0 (sg_u (σ 0) 0 ((σ 0 0) - (1 : Int32))))) else (o_x (a1 + (108 : Int32)) 540 (o_x a1 540 (lX8_record_10 n (a1 + (1 : Int32)) (sg_a σ 2 (upd (σ 2) (a1).toNatClampNeg ((σ 2) ((a1 + (108 : Int32))).toNatClampNeg)))))))
def fX8_record (σ : sg_T) : Option (sg_T) := (if (σ 0 0) = (5 : Int32) then (lX8_record_10 500 (0 : Int32) σ) else (lX8_record_50 500 (0 : Int32) σ))
set_option maxRecDepth 100000 in
set_option maxHeartbeats 4000000 in
theorem mX8_record (l : Launch) (D : va_G) (cI cC : ClassId) (h : Nat → Nat) (σ : sg_T) (σ' : sg_T) (hrun : fX8_record σ = some σ') : me_V l D (tM cI cC) yX8_record cX8_record 2 0 0 (wM cI cC h σ) [.ref (h 0)] (wM cI cC h σ') := by
  refine me_ofV (plainFor_of_name (by decide)) (Nat.le_of_ble_eq_true rfl) ?_
  intro p e s m args below meth c A ls S hK Y hA hl hr hlk hZ
  have hx := S.1
  have hb := S.2.1
  have hl : lv_has ls 2 [(0, .ref (h 0))] := hl
  have lp50 : ∀ (n : Nat) (a1 : Int32) (σ : sg_T), lX8_record_50 n a1 σ = some σ' → ∀ (H : Heap) (locs : List Loc) (ls : Array Slot), dy_ D A s (wM cI cC h σ) H locs → lv_has ls 2 [(0, .ref (h 0)), (1, .int a1)] → W p l e (rm_ 0 0) s m args below meth c H locs 0 0 (MQ below (me_Qv D (tM cI cC) A (wM cI cC h σ')) args s 0 0 A) (F0 m 50 ls []) := by
    intro n
    induction n with
    | zero => intro a1 σ hrun; cases hrun
    | succ n ih =>
      intro a1 σ hrun H locs ls Y hl
      unfold lX8_record_50 at hrun
      refine lv_iload_n hx hb dX8_record_50 rfl (lv_at hl 1 rfl) ?_
      refine lv_bipush (v := (108 : Int32)) hx hb dX8_record_51 (by decide) ?_
      refine lv_icmp_ge (tgt := 82) hx hb dX8_record_53 (by decide) (fun c_2 => ?_) (fun c_2 => ?_)
      · have hrun := o_t hrun c_2
        refine lv_aload_n hx hb dX8_record_82 rfl (lv_at hl 0 rfl) ?_
        refine lv_dup hx hb dX8_record_83 rfl ?_
        refine ig S hK Y fX8_34 0 rfl (v := .int (σ 0 0)) rfl dX8_record_84 ?_
        refine lv_iconst (v := (1 : Int32)) hx hb dX8_record_87 (by decide) ?_
        refine lv_iadd hx hb dX8_record_88 ?_
        refine ip S hK Y fX8_34 fpX8 rfl 0 (fs := vM h (σ 0)) rfl rfl rfl (Nat.le_of_ble_eq_true rfl) (ws' := (wM cI cC h (sg_a σ 0 (sg_u (σ 0) 0 ((σ 0 0) + (1 : Int32)))))) (wM_f0 _ _ _ _) dX8_record_89 (fun H locs Y => ?_)
        cases hrun
        exact me_rv S hK Y hr hlk dX8_record_92
      · have hrun := o_f hrun c_2
        refine lv_aload_n hx hb dX8_record_56 rfl (lv_at hl 0 rfl) ?_
        refine ig S hK Y fX8_13 0 rfl (v := .ref (h 2)) rfl dX8_record_57 ?_
        refine lv_aload_n hx hb dX8_record_60 rfl (lv_at hl 0 rfl) ?_
        refine ig S hK Y fX8_34 0 rfl (v := .int (σ 0 0)) rfl dX8_record_61 ?_
        refine lv_bipush (v := (108 : Int32)) hx hb dX8_record_64 (by decide) ?_
        refine lv_imul hx hb dX8_record_66 ?_
        refine lv_iload_n hx hb dX8_record_67 rfl (lv_at hl 1 rfl) ?_
        refine lv_iadd hx hb dX8_record_68 ?_
        refine lv_aload_n hx hb dX8_record_69 rfl (lv_at hl 0 rfl) ?_
        refine ig S hK Y fX8_7 0 rfl (v := .ref (h 1)) rfl dX8_record_70 ?_
        refine lv_iload_n hx hb dX8_record_73 rfl (lv_at hl 1 rfl) ?_
        obtain ⟨b_3, hrun⟩ := o_xh hrun
        refine ia S hK Y 1 0 (f := (σ 1)) rfl rfl b_3 dX8_record_74 ?_
        obtain ⟨b_4, hrun⟩ := o_xh hrun
        refine iw S hK Y 2 0 (f := (σ 2)) rfl rfl b_4 (ws' := (wM cI cC h (sg_a σ 2 (upd (σ 2) ((((σ 0 0) * (108 : Int32)) + a1)).toNatClampNeg ((σ 1) (a1).toNatClampNeg))))) (wM_a2 _ _ _) dX8_record_75 (fun H locs Y => ?_)
        refine lv_iinc (v := (a1 + (1 : Int32))) (lv' := [(1, .int (a1 + (1 : Int32))), (0, .ref (h 0))]) hx hb dX8_record_76 hl (k := 1) rfl (by rfl) (Nat.le_of_ble_eq_true rfl) rfl (fun ls hl => ?_)
        refine lv_goto (tgt := 50) hx hb dX8_record_79 (by decide) ?_
        exact ih (a1 + (1 : Int32)) (sg_a σ 2 (upd (σ 2) ((((σ 0 0) * (108 : Int32)) + a1)).toNatClampNeg ((σ 1) (a1).toNatClampNeg))) hrun _ _ _ Y (lv_sub hl [1, 0] rfl)
  have lp10 : ∀ (n : Nat) (a1 : Int32) (σ : sg_T), lX8_record_10 n a1 σ = some σ' → ∀ (H : Heap) (locs : List Loc) (ls : Array Slot), dy_ D A s (wM cI cC h σ) H locs → lv_has ls 2 [(0, .ref (h 0)), (1, .int a1)] → W p l e (rm_ 0 0) s m args below meth c H locs 0 0 (MQ below (me_Qv D (tM cI cC) A (wM cI cC h σ')) args s 0 0 A) (F0 m 10 ls []) := by
    intro n
    induction n with
    | zero => intro a1 σ hrun; cases hrun
    | succ n ih =>
      intro a1 σ hrun H locs ls Y hl
      unfold lX8_record_10 at hrun
      refine lv_iload_n hx hb dX8_record_10 rfl (lv_at hl 1 rfl) ?_
      refine lv_sipush (v := (432 : Int32)) hx hb dX8_record_11 (by decide) ?_
      refine lv_icmp_ge (tgt := 38) hx hb dX8_record_14 (by decide) (fun c_5 => ?_) (fun c_5 => ?_)
      · have hrun := o_t hrun c_5
        refine lv_aload_n hx hb dX8_record_38 rfl (lv_at hl 0 rfl) ?_
        refine lv_dup hx hb dX8_record_39 rfl ?_
        refine ig S hK Y fX8_34 0 rfl (v := .int (σ 0 0)) rfl dX8_record_40 ?_
        refine lv_iconst (v := (1 : Int32)) hx hb dX8_record_43 (by decide) ?_
        refine lv_isub hx hb dX8_record_44 ?_
        refine ip S hK Y fX8_34 fpX8 rfl 0 (fs := vM h (σ 0)) rfl rfl rfl (Nat.le_of_ble_eq_true rfl) (ws' := (wM cI cC h (sg_a σ 0 (sg_u (σ 0) 0 ((σ 0 0) - (1 : Int32)))))) (wM_f0 _ _ _ _) dX8_record_45 (fun H locs Y => ?_)
        refine lv_iconst (v := (0 : Int32)) hx hb dX8_record_48 (by decide) ?_
        refine lv_istore_n (lv' := [(1, .int (0 : Int32)), (0, .ref (h 0))]) hx hb dX8_record_49 rfl hl (Nat.le_of_ble_eq_true rfl) rfl (fun ls hl => ?_)
        exact lp50 500 (0 : Int32) (sg_a σ 0 (sg_u (σ 0) 0 ((σ 0 0) - (1 : Int32)))) hrun _ _ _ Y (lv_sub hl [1, 0] rfl)
      · have hrun := o_f hrun c_5
        refine lv_aload_n hx hb dX8_record_17 rfl (lv_at hl 0 rfl) ?_
        refine ig S hK Y fX8_13 0 rfl (v := .ref (h 2)) rfl dX8_record_18 ?_
        refine lv_iload_n hx hb dX8_record_21 rfl (lv_at hl 1 rfl) ?_
        refine lv_aload_n hx hb dX8_record_22 rfl (lv_at hl 0 rfl) ?_
        refine ig S hK Y fX8_13 0 rfl (v := .ref (h 2)) rfl dX8_record_23 ?_
        refine lv_iload_n hx hb dX8_record_26 rfl (lv_at hl 1 rfl) ?_
        refine lv_bipush (v := (108 : Int32)) hx hb dX8_record_27 (by decide) ?_
        refine lv_iadd hx hb dX8_record_29 ?_
        obtain ⟨b_6, hrun⟩ := o_xh hrun
        refine ia S hK Y 2 0 (f := (σ 2)) rfl rfl b_6 dX8_record_30 ?_
        obtain ⟨b_7, hrun⟩ := o_xh hrun
        refine iw S hK Y 2 0 (f := (σ 2)) rfl rfl b_7 (ws' := (wM cI cC h (sg_a σ 2 (upd (σ 2) (a1).toNatClampNeg ((σ 2) ((a1 + (108 : Int32))).toNatClampNeg))))) (wM_a2 _ _ _) dX8_record_31 (fun H locs Y => ?_)
        refine lv_iinc (v := (a1 + (1 : Int32))) (lv' := [(1, .int (a1 + (1 : Int32))), (0, .ref (h 0))]) hx hb dX8_record_32 hl (k := 1) rfl (by rfl) (Nat.le_of_ble_eq_true rfl) rfl (fun ls hl => ?_)
        refine lv_goto (tgt := 10) hx hb dX8_record_35 (by decide) ?_
        exact ih (a1 + (1 : Int32)) (sg_a σ 2 (upd (σ 2) (a1).toNatClampNeg ((σ 2) ((a1 + (108 : Int32))).toNatClampNeg))) hrun _ _ _ Y (lv_sub hl [1, 0] rfl)
  unfold fX8_record at hrun
  refine lv_aload_n hx hb dX8_record_0 rfl (lv_at hl 0 rfl) ?_
  refine ig S hK Y fX8_34 0 rfl (v := .int (σ 0 0)) rfl dX8_record_1 ?_
  refine lv_iconst (v := (5 : Int32)) hx hb dX8_record_4 (by decide) ?_
  refine lv_icmp_ne (tgt := 48) hx hb dX8_record_5 (by decide) (fun c_1 => ?_) (fun c_1 => ?_)
  · have hrun := o_f hrun c_1
    refine lv_iconst (v := (0 : Int32)) hx hb dX8_record_48 (by decide) ?_
    refine lv_istore_n (lv' := [(1, .int (0 : Int32)), (0, .ref (h 0))]) hx hb dX8_record_49 rfl hl (Nat.le_of_ble_eq_true rfl) rfl (fun ls hl => ?_)
    exact lp50 500 (0 : Int32) σ hrun _ _ _ Y (lv_sub hl [1, 0] rfl)
  · have hrun := o_t hrun c_1
    refine lv_iconst (v := (0 : Int32)) hx hb dX8_record_8 (by decide) ?_
    refine lv_istore_n (lv' := [(1, .int (0 : Int32)), (0, .ref (h 0))]) hx hb dX8_record_9 rfl hl (Nat.le_of_ble_eq_true rfl) rfl (fun ls hl => ?_)
    exact lp10 500 (0 : Int32) σ hrun _ _ _ Y (lv_sub hl [1, 0] rfl)
def lX8_undo_23 : Nat → Int32 → (sg_T) → Option (Int32 × sg_T)
  | 0, _, _ => none
  | n + 1, a1, σ => (if (108 : Int32) ≤ a1 then (some ((σ 0 0), σ)) else (o_x (((σ 0 0) * (108 : Int32)) + a1) 540 (o_x a1 108 (lX8_undo_23 n (a1 + (1 : Int32)) (sg_a σ 1 (upd (σ 1) (a1).toNatClampNeg ((σ 2) ((((σ 0 0) * (108 : Int32)) + a1)).toNatClampNeg)))))))
def fX8_undo (σ : sg_T) : Option (Int32 × sg_T) := (if (σ 0 0) = 0 then (some ((-10003 : Int32), σ)) else (lX8_undo_23 150 (0 : Int32) (sg_a σ 0 (sg_u (σ 0) 0 ((σ 0 0) - (1 : Int32))))))
set_option maxRecDepth 100000 in
set_option maxHeartbeats 4000000 in
theorem mX8_undo (l : Launch) (D : va_G) (cI cC : ClassId) (h : Nat → Nat) (σ : sg_T) (r : Int32) (σ' : sg_T) (hrun : fX8_undo σ = some (r, σ')) : me_I l D (tM cI cC) yX8_undo cX8_undo 2 .int 0 0 (wM cI cC h σ) [.ref (h 0)] r (wM cI cC h σ') := by
  refine me_ofI (plainFor_of_name (by decide)) (Nat.le_of_ble_eq_true rfl) ?_
  intro p e s m args below meth c A ls S hK Y hA hl hr hlk hZ
  have hx := S.1
  have hb := S.2.1
  have hl : lv_has ls 2 [(0, .ref (h 0))] := hl
  have lp23 : ∀ (n : Nat) (a1 : Int32) (σ : sg_T), lX8_undo_23 n a1 σ = some (r, σ') → ∀ (H : Heap) (locs : List Loc) (ls : Array Slot), dy_ D A s (wM cI cC h σ) H locs → lv_has ls 2 [(0, .ref (h 0)), (1, .int a1)] → W p l e (rm_ 0 0) s m args below meth c H locs 0 0 (MQ below (me_Qi D (tM cI cC) A r (wM cI cC h σ')) args s 0 0 A) (F0 m 23 ls []) := by
    intro n
    induction n with
    | zero => intro a1 σ hrun; cases hrun
    | succ n ih =>
      intro a1 σ hrun H locs ls Y hl
      unfold lX8_undo_23 at hrun
      refine lv_iload_n hx hb dX8_undo_23 rfl (lv_at hl 1 rfl) ?_
      refine lv_bipush (v := (108 : Int32)) hx hb dX8_undo_24 (by decide) ?_
      refine lv_icmp_ge (tgt := 55) hx hb dX8_undo_26 (by decide) (fun c_2 => ?_) (fun c_2 => ?_)
      · have hrun := o_t hrun c_2
        refine lv_aload_n hx hb dX8_undo_55 rfl (lv_at hl 0 rfl) ?_
        refine ig S hK Y fX8_34 0 rfl (v := .int (σ 0 0)) rfl dX8_undo_56 ?_
        cases hrun
        exact me_ri S hK Y hr hlk rfl dX8_undo_59
      · have hrun := o_f hrun c_2
        refine lv_aload_n hx hb dX8_undo_29 rfl (lv_at hl 0 rfl) ?_
        refine ig S hK Y fX8_7 0 rfl (v := .ref (h 1)) rfl dX8_undo_30 ?_
        refine lv_iload_n hx hb dX8_undo_33 rfl (lv_at hl 1 rfl) ?_
        refine lv_aload_n hx hb dX8_undo_34 rfl (lv_at hl 0 rfl) ?_
        refine ig S hK Y fX8_13 0 rfl (v := .ref (h 2)) rfl dX8_undo_35 ?_
        refine lv_aload_n hx hb dX8_undo_38 rfl (lv_at hl 0 rfl) ?_
        refine ig S hK Y fX8_34 0 rfl (v := .int (σ 0 0)) rfl dX8_undo_39 ?_
        refine lv_bipush (v := (108 : Int32)) hx hb dX8_undo_42 (by decide) ?_
        refine lv_imul hx hb dX8_undo_44 ?_
        refine lv_iload_n hx hb dX8_undo_45 rfl (lv_at hl 1 rfl) ?_
        refine lv_iadd hx hb dX8_undo_46 ?_
        obtain ⟨b_3, hrun⟩ := o_xh hrun
        refine ia S hK Y 2 0 (f := (σ 2)) rfl rfl b_3 dX8_undo_47 ?_
        obtain ⟨b_4, hrun⟩ := o_xh hrun
        refine iw S hK Y 1 0 (f := (σ 1)) rfl rfl b_4 (ws' := (wM cI cC h (sg_a σ 1 (upd (σ 1) (a1).toNatClampNeg ((σ 2) ((((σ 0 0) * (108 : Int32)) + a1)).toNatClampNeg))))) (wM_a1 _ _ _) dX8_undo_48 (fun H locs Y => ?_)
        refine lv_iinc (v := (a1 + (1 : Int32))) (lv' := [(1, .int (a1 + (1 : Int32))), (0, .ref (h 0))]) hx hb dX8_undo_49 hl (k := 1) rfl (by rfl) (Nat.le_of_ble_eq_true rfl) rfl (fun ls hl => ?_)
        refine lv_goto (tgt := 23) hx hb dX8_undo_52 (by decide) ?_
        exact ih (a1 + (1 : Int32)) (sg_a σ 1 (upd (σ 1) (a1).toNatClampNeg ((σ 2) ((((σ 0 0) * (108 : Int32)) + a1)).toNatClampNeg))) hrun _ _ _ Y (lv_sub hl [1, 0] rfl)
  unfold fX8_undo at hrun
  refine lv_aload_n hx hb dX8_undo_0 rfl (lv_at hl 0 rfl) ?_
  refine ig S hK Y fX8_34 0 rfl (v := .int (σ 0 0)) rfl dX8_undo_1 ?_
  refine lv_if_ne (tgt := 11) hx hb dX8_undo_4 (by decide) (fun c_1 => ?_) (fun c_1 => ?_)
  · have hrun := o_f hrun c_1
    refine lv_aload_n hx hb dX8_undo_11 rfl (lv_at hl 0 rfl) ?_
    refine lv_dup hx hb dX8_undo_12 rfl ?_
    refine ig S hK Y fX8_34 0 rfl (v := .int (σ 0 0)) rfl dX8_undo_13 ?_
    refine lv_iconst (v := (1 : Int32)) hx hb dX8_undo_16 (by decide) ?_
    refine lv_isub hx hb dX8_undo_17 ?_
    refine ip S hK Y fX8_34 fpX8 rfl 0 (fs := vM h (σ 0)) rfl rfl rfl (Nat.le_of_ble_eq_true rfl) (ws' := (wM cI cC h (sg_a σ 0 (sg_u (σ 0) 0 ((σ 0 0) - (1 : Int32)))))) (wM_f0 _ _ _ _) dX8_undo_18 (fun H locs Y => ?_)
    refine lv_iconst (v := (0 : Int32)) hx hb dX8_undo_21 (by decide) ?_
    refine lv_istore_n (lv' := [(1, .int (0 : Int32)), (0, .ref (h 0))]) hx hb dX8_undo_22 rfl hl (Nat.le_of_ble_eq_true rfl) rfl (fun ls hl => ?_)
    exact lp23 150 (0 : Int32) (sg_a σ 0 (sg_u (σ 0) 0 ((σ 0 0) - (1 : Int32)))) hrun _ _ _ Y (lv_sub hl [1, 0] rfl)
  · have hrun := o_t hrun c_1
    refine lv_sipush (v := (-10003 : Int32)) hx hb dX8_undo_7 (by decide) ?_
    cases hrun
    exact me_ri S hK Y hr hlk rfl dX8_undo_10
def lX8_save_7 : Nat → Int32 → (sg_T) → Option (Int32 × sg_T)
  | 0, _, _ => none
  | n + 1, a1, σ => (if (108 : Int32) ≤ a1 then (some (((σ 1) ((4 : Int32)).toNatClampNeg), σ)) else (o_x a1 108 (lX8_save_7 n (a1 + (1 : Int32)) (sg_a σ 3 (upd (σ 3) (a1).toNatClampNeg ((σ 1) (a1).toNatClampNeg))))))
def fX8_save (σ : sg_T) : Option (Int32 × sg_T) := (lX8_save_7 150 (0 : Int32) (sg_a σ 0 (sg_u (σ 0) 1 (1 : Int32))))
set_option maxRecDepth 100000 in
set_option maxHeartbeats 4000000 in
theorem mX8_save (l : Launch) (D : va_G) (cI cC : ClassId) (h : Nat → Nat) (σ : sg_T) (r : Int32) (σ' : sg_T) (hrun : fX8_save σ = some (r, σ')) : me_I l D (tM cI cC) yX8_save cX8_save 2 .int 0 0 (wM cI cC h σ) [.ref (h 0)] r (wM cI cC h σ') := by
  refine me_ofI (plainFor_of_name (by decide)) (Nat.le_of_ble_eq_true rfl) ?_
  intro p e s m args below meth c A ls S hK Y hA hl hr hlk hZ
  have hx := S.1
  have hb := S.2.1
  have hl : lv_has ls 2 [(0, .ref (h 0))] := hl
  have lp7 : ∀ (n : Nat) (a1 : Int32) (σ : sg_T), lX8_save_7 n a1 σ = some (r, σ') → ∀ (H : Heap) (locs : List Loc) (ls : Array Slot), dy_ D A s (wM cI cC h σ) H locs → lv_has ls 2 [(0, .ref (h 0)), (1, .int a1)] → W p l e (rm_ 0 0) s m args below meth c H locs 0 0 (MQ below (me_Qi D (tM cI cC) A r (wM cI cC h σ')) args s 0 0 A) (F0 m 7 ls []) := by
    intro n
    induction n with
    | zero => intro a1 σ hrun; cases hrun
    | succ n ih =>
      intro a1 σ hrun H locs ls Y hl
      unfold lX8_save_7 at hrun
      refine lv_iload_n hx hb dX8_save_7 rfl (lv_at hl 1 rfl) ?_
      refine lv_bipush (v := (108 : Int32)) hx hb dX8_save_8 (by decide) ?_
      refine lv_icmp_ge (tgt := 31) hx hb dX8_save_10 (by decide) (fun c_1 => ?_) (fun c_1 => ?_)
      · have hrun := o_t hrun c_1
        refine lv_aload_n hx hb dX8_save_31 rfl (lv_at hl 0 rfl) ?_
        refine ig S hK Y fX8_7 0 rfl (v := .ref (h 1)) rfl dX8_save_32 ?_
        refine lv_iconst (v := (4 : Int32)) hx hb dX8_save_35 (by decide) ?_
        refine ia S hK Y 1 0 (f := (σ 1)) rfl rfl (show ¬ ((4 : Int32) < 0 ∨ 108 ≤ ((4 : Int32)).toNatClampNeg) by decide) dX8_save_36 ?_
        cases hrun
        exact me_ri S hK Y hr hlk rfl dX8_save_37
      · have hrun := o_f hrun c_1
        refine lv_aload_n hx hb dX8_save_13 rfl (lv_at hl 0 rfl) ?_
        refine ig S hK Y fX8_16 0 rfl (v := .ref (h 3)) rfl dX8_save_14 ?_
        refine lv_iload_n hx hb dX8_save_17 rfl (lv_at hl 1 rfl) ?_
        refine lv_aload_n hx hb dX8_save_18 rfl (lv_at hl 0 rfl) ?_
        refine ig S hK Y fX8_7 0 rfl (v := .ref (h 1)) rfl dX8_save_19 ?_
        refine lv_iload_n hx hb dX8_save_22 rfl (lv_at hl 1 rfl) ?_
        obtain ⟨b_2, hrun⟩ := o_xh hrun
        refine ia S hK Y 1 0 (f := (σ 1)) rfl rfl b_2 dX8_save_23 ?_
        refine iw S hK Y 3 0 (f := (σ 3)) rfl rfl b_2 (ws' := (wM cI cC h (sg_a σ 3 (upd (σ 3) (a1).toNatClampNeg ((σ 1) (a1).toNatClampNeg))))) (wM_a3 _ _ _) dX8_save_24 (fun H locs Y => ?_)
        refine lv_iinc (v := (a1 + (1 : Int32))) (lv' := [(1, .int (a1 + (1 : Int32))), (0, .ref (h 0))]) hx hb dX8_save_25 hl (k := 1) rfl (by rfl) (Nat.le_of_ble_eq_true rfl) rfl (fun ls hl => ?_)
        refine lv_goto (tgt := 7) hx hb dX8_save_28 (by decide) ?_
        exact ih (a1 + (1 : Int32)) (sg_a σ 3 (upd (σ 3) (a1).toNatClampNeg ((σ 1) (a1).toNatClampNeg))) hrun _ _ _ Y (lv_sub hl [1, 0] rfl)
  unfold fX8_save at hrun
  refine lv_aload_n hx hb dX8_save_0 rfl (lv_at hl 0 rfl) ?_
  refine lv_iconst (v := (1 : Int32)) hx hb dX8_save_1 (by decide) ?_
  refine ip S hK Y fX8_38 fpX8 rfl 0 (fs := vM h (σ 0)) rfl rfl rfl (Nat.le_of_ble_eq_true rfl) (ws' := (wM cI cC h (sg_a σ 0 (sg_u (σ 0) 1 (1 : Int32))))) (wM_f1 _ _ _ _) dX8_save_2 (fun H locs Y => ?_)
  refine lv_iconst (v := (0 : Int32)) hx hb dX8_save_5 (by decide) ?_
  refine lv_istore_n (lv' := [(1, .int (0 : Int32)), (0, .ref (h 0))]) hx hb dX8_save_6 rfl hl (Nat.le_of_ble_eq_true rfl) rfl (fun ls hl => ?_)
  exact lp7 150 (0 : Int32) (sg_a σ 0 (sg_u (σ 0) 1 (1 : Int32))) hrun _ _ _ Y (lv_sub hl [1, 0] rfl)
def lX8_restore_17 : Nat → Int32 → (sg_T) → Option (Int32 × sg_T)
  | 0, _, _ => none
  | n + 1, a1, σ => (if (108 : Int32) ≤ a1 then (some (((σ 1) ((4 : Int32)).toNatClampNeg), σ)) else (o_x a1 108 (lX8_restore_17 n (a1 + (1 : Int32)) (sg_a σ 1 (upd (σ 1) (a1).toNatClampNeg ((σ 3) (a1).toNatClampNeg))))))
def fX8_restore (σ : sg_T) : Option (Int32 × sg_T) := (if (σ 0 1) = 0 then (some ((-10003 : Int32), σ)) else ((fX8_record σ).bind fun σ2 => (lX8_restore_17 150 (0 : Int32) σ2)))
set_option maxRecDepth 100000 in
set_option maxHeartbeats 4000000 in
theorem mX8_restore (l : Launch) (D : va_G) (cI cC : ClassId) (h : Nat → Nat) (σ : sg_T) (r : Int32) (σ' : sg_T) (hrun : fX8_restore σ = some (r, σ')) : me_I l D (tM cI cC) yX8_restore cX8_restore 2 .int 1 21 (wM cI cC h σ) [.ref (h 0)] r (wM cI cC h σ') := by
  refine me_ofI (plainFor_of_name (by decide)) (Nat.le_of_ble_eq_true rfl) ?_
  intro p e s m args below meth c A ls S hK Y hA hl hr hlk hZ
  have hx := S.1
  have hb := S.2.1
  have hl : lv_has ls 2 [(0, .ref (h 0))] := hl
  have lp17 : ∀ (n : Nat) (a1 : Int32) (σ : sg_T), lX8_restore_17 n a1 σ = some (r, σ') → ∀ (H : Heap) (locs : List Loc) (ls : Array Slot), dy_ D A s (wM cI cC h σ) H locs → lv_has ls 2 [(0, .ref (h 0)), (1, .int a1)] → W p l e (rm_ 1 21) s m args below meth c H locs 0 0 (MQ below (me_Qi D (tM cI cC) A r (wM cI cC h σ')) args s 0 0 A) (F0 m 17 ls []) := by
    intro n
    induction n with
    | zero => intro a1 σ hrun; cases hrun
    | succ n ih =>
      intro a1 σ hrun H locs ls Y hl
      unfold lX8_restore_17 at hrun
      refine lv_iload_n hx hb dX8_restore_17 rfl (lv_at hl 1 rfl) ?_
      refine lv_bipush (v := (108 : Int32)) hx hb dX8_restore_18 (by decide) ?_
      refine lv_icmp_ge (tgt := 41) hx hb dX8_restore_20 (by decide) (fun c_4 => ?_) (fun c_4 => ?_)
      · have hrun := o_t hrun c_4
        refine lv_aload_n hx hb dX8_restore_41 rfl (lv_at hl 0 rfl) ?_
        refine ig S hK Y fX8_7 0 rfl (v := .ref (h 1)) rfl dX8_restore_42 ?_
        refine lv_iconst (v := (4 : Int32)) hx hb dX8_restore_45 (by decide) ?_
        refine ia S hK Y 1 0 (f := (σ 1)) rfl rfl (show ¬ ((4 : Int32) < 0 ∨ 108 ≤ ((4 : Int32)).toNatClampNeg) by decide) dX8_restore_46 ?_
        cases hrun
        exact me_ri S hK Y hr hlk rfl dX8_restore_47
      · have hrun := o_f hrun c_4
        refine lv_aload_n hx hb dX8_restore_23 rfl (lv_at hl 0 rfl) ?_
        refine ig S hK Y fX8_7 0 rfl (v := .ref (h 1)) rfl dX8_restore_24 ?_
        refine lv_iload_n hx hb dX8_restore_27 rfl (lv_at hl 1 rfl) ?_
        refine lv_aload_n hx hb dX8_restore_28 rfl (lv_at hl 0 rfl) ?_
        refine ig S hK Y fX8_16 0 rfl (v := .ref (h 3)) rfl dX8_restore_29 ?_
        refine lv_iload_n hx hb dX8_restore_32 rfl (lv_at hl 1 rfl) ?_
        obtain ⟨b_5, hrun⟩ := o_xh hrun
        refine ia S hK Y 3 0 (f := (σ 3)) rfl rfl b_5 dX8_restore_33 ?_
        refine iw S hK Y 1 0 (f := (σ 1)) rfl rfl b_5 (ws' := (wM cI cC h (sg_a σ 1 (upd (σ 1) (a1).toNatClampNeg ((σ 3) (a1).toNatClampNeg))))) (wM_a1 _ _ _) dX8_restore_34 (fun H locs Y => ?_)
        refine lv_iinc (v := (a1 + (1 : Int32))) (lv' := [(1, .int (a1 + (1 : Int32))), (0, .ref (h 0))]) hx hb dX8_restore_35 hl (k := 1) rfl (by rfl) (Nat.le_of_ble_eq_true rfl) rfl (fun ls hl => ?_)
        refine lv_goto (tgt := 17) hx hb dX8_restore_38 (by decide) ?_
        exact ih (a1 + (1 : Int32)) (sg_a σ 1 (upd (σ 1) (a1).toNatClampNeg ((σ 3) (a1).toNatClampNeg))) hrun _ _ _ Y (lv_sub hl [1, 0] rfl)
  unfold fX8_restore at hrun
  refine lv_aload_n hx hb dX8_restore_0 rfl (lv_at hl 0 rfl) ?_
  refine ig S hK Y fX8_38 0 rfl (v := .int (σ 0 1)) rfl dX8_restore_1 ?_
  refine lv_if_ne (tgt := 11) hx hb dX8_restore_4 (by decide) (fun c_1 => ?_) (fun c_1 => ?_)
  · have hrun := o_f hrun c_1
    refine lv_aload_n hx hb dX8_restore_11 rfl (lv_at hl 0 rfl) ?_
    obtain ⟨σ2, e_3, hrun⟩ := o_bh hrun
    refine cf_vv (As := []) (rest := []) S hK hA hZ Y hl.1 (mX8_record l D cI cC h σ σ2 e_3) kX8_42 (T := TX8) (N := 11) rfl (q0 := 0) rfl ⟨Nat.le_of_ble_eq_true rfl, Nat.le_of_ble_eq_true rfl⟩ rfl rfl (Nat.le_of_ble_eq_true rfl) ⟨Nat.le_of_ble_eq_true rfl, Nat.le_of_ble_eq_true rfl⟩ dX8_restore_12 (fun H locs Y => ?_)
    refine lv_iconst (v := (0 : Int32)) hx hb dX8_restore_15 (by decide) ?_
    refine lv_istore_n (lv' := [(1, .int (0 : Int32)), (0, .ref (h 0))]) hx hb dX8_restore_16 rfl hl (Nat.le_of_ble_eq_true rfl) rfl (fun ls hl => ?_)
    exact lp17 150 (0 : Int32) σ2 hrun _ _ _ Y (lv_sub hl [1, 0] rfl)
  · have hrun := o_t hrun c_1
    refine lv_sipush (v := (-10003 : Int32)) hx hb dX8_restore_7 (by decide) ?_
    cases hrun
    exact me_ri S hK Y hr hlk rfl dX8_restore_10
def fX8_isInRange (p0 p1 : Int32) : Option Int32 := (if p0 = 0 then ((fX8_in p1 (0 : Int32) (3 : Int32)).bind fun r_14 => (o_k (r_14 = 0 ∨ r_14 = 1) (some r_14))) else (if p0 = (2 : Int32) then ((fX8_in p1 (0 : Int32) (9 : Int32)).bind fun r_11 => (o_k (r_11 = 0 ∨ r_11 = 1) (some r_11))) else (if p0 = (1 : Int32) then ((fX8_in p1 (1 : Int32) (9 : Int32)).bind fun r_4 => (if r_4 = 0 then (some (0 : Int32)) else (some (1 : Int32)))) else (if p0 = (3 : Int32) then ((fX8_in p1 (1 : Int32) (9 : Int32)).bind fun r_8 => (if r_8 = 0 then (some (0 : Int32)) else (some (1 : Int32)))) else (some (0 : Int32))))))
set_option maxRecDepth 100000 in
set_option maxHeartbeats 4000000 in
theorem mX8_isInRange (l : Launch) (D : va_G) (p0 p1 : Int32) (r : Int32) (hrun : fX8_isInRange p0 p1 = some r) : me_I l D [] yX8_isInRange cX8_isInRange 2 .boolean 1 22 [] [.int p0, .int p1] r [] := by
  refine me_ofI (plainFor_of_name (by decide)) (Nat.le_of_ble_eq_true rfl) ?_
  intro p e s m args below meth c A ls S hK Y hA hl hr hlk hZ
  have hx := S.1
  have hb := S.2.1
  have hl : lv_has ls 2 [(0, .int p0), (1, .int p1)] := hl
  unfold fX8_isInRange at hrun
  refine lv_iload_n hx hb dX8_isInRange_0 rfl (lv_at hl 0 rfl) ?_
  refine lv_if_ne (tgt := 13) hx hb dX8_isInRange_1 (by decide) (fun c_1 => ?_) (fun c_1 => ?_)
  · have hrun := o_f hrun c_1
    refine lv_iload_n hx hb dX8_isInRange_13 rfl (lv_at hl 0 rfl) ?_
    refine lv_iconst (v := (2 : Int32)) hx hb dX8_isInRange_14 (by decide) ?_
    refine lv_icmp_ne (tgt := 28) hx hb dX8_isInRange_15 (by decide) (fun c_2 => ?_) (fun c_2 => ?_)
    · have hrun := o_f hrun c_2
      refine lv_iload_n hx hb dX8_isInRange_28 rfl (lv_at hl 0 rfl) ?_
      refine lv_iconst (v := (1 : Int32)) hx hb dX8_isInRange_29 (by decide) ?_
      refine lv_icmp_eq (tgt := 38) hx hb dX8_isInRange_30 (by decide) (fun c_3 => ?_) (fun c_3 => ?_)
      · have hrun := o_t hrun c_3
        refine lv_iload_n hx hb dX8_isInRange_38 rfl (lv_at hl 1 rfl) ?_
        refine lv_iconst (v := (1 : Int32)) hx hb dX8_isInRange_39 (by decide) ?_
        refine lv_bipush (v := (9 : Int32)) hx hb dX8_isInRange_40 (by decide) ?_
        obtain ⟨r_4, e_5, hrun⟩ := o_bh hrun
        refine cp_s (As := [.int p1, .int (1 : Int32), .int (9 : Int32)]) (rest := []) S hK hA hZ Y hl.1 (mX8_in l D p1 (1 : Int32) (9 : Int32) r_4 e_5) kX8_26 ⟨Nat.le_of_ble_eq_true rfl, Nat.le_of_ble_eq_true rfl⟩ rfl rfl (Nat.le_of_ble_eq_true rfl) ⟨Nat.le_of_ble_eq_true rfl, Nat.le_of_ble_eq_true rfl⟩ dX8_isInRange_42 (fun H locs Y => ?_)
        refine lv_if_eq (tgt := 52) hx hb dX8_isInRange_45 (by decide) (fun c_6 => ?_) (fun c_6 => ?_)
        · have hrun := o_t hrun c_6
          refine lv_iconst (v := (0 : Int32)) hx hb dX8_isInRange_52 (by decide) ?_
          cases hrun
          exact me_ri S hK Y hr hlk rfl dX8_isInRange_53
        · have hrun := o_f hrun c_6
          refine lv_iconst (v := (1 : Int32)) hx hb dX8_isInRange_48 (by decide) ?_
          refine lv_goto (tgt := 53) hx hb dX8_isInRange_49 (by decide) ?_
          cases hrun
          exact me_ri S hK Y hr hlk rfl dX8_isInRange_53
      · have hrun := o_f hrun c_3
        refine lv_iload_n hx hb dX8_isInRange_33 rfl (lv_at hl 0 rfl) ?_
        refine lv_iconst (v := (3 : Int32)) hx hb dX8_isInRange_34 (by decide) ?_
        refine lv_icmp_ne (tgt := 52) hx hb dX8_isInRange_35 (by decide) (fun c_7 => ?_) (fun c_7 => ?_)
        · have hrun := o_f hrun c_7
          refine lv_iconst (v := (0 : Int32)) hx hb dX8_isInRange_52 (by decide) ?_
          cases hrun
          exact me_ri S hK Y hr hlk rfl dX8_isInRange_53
        · have hrun := o_t hrun c_7
          refine lv_iload_n hx hb dX8_isInRange_38 rfl (lv_at hl 1 rfl) ?_
          refine lv_iconst (v := (1 : Int32)) hx hb dX8_isInRange_39 (by decide) ?_
          refine lv_bipush (v := (9 : Int32)) hx hb dX8_isInRange_40 (by decide) ?_
          obtain ⟨r_8, e_9, hrun⟩ := o_bh hrun
          refine cp_s (As := [.int p1, .int (1 : Int32), .int (9 : Int32)]) (rest := []) S hK hA hZ Y hl.1 (mX8_in l D p1 (1 : Int32) (9 : Int32) r_8 e_9) kX8_26 ⟨Nat.le_of_ble_eq_true rfl, Nat.le_of_ble_eq_true rfl⟩ rfl rfl (Nat.le_of_ble_eq_true rfl) ⟨Nat.le_of_ble_eq_true rfl, Nat.le_of_ble_eq_true rfl⟩ dX8_isInRange_42 (fun H locs Y => ?_)
          refine lv_if_eq (tgt := 52) hx hb dX8_isInRange_45 (by decide) (fun c_10 => ?_) (fun c_10 => ?_)
          · have hrun := o_t hrun c_10
            refine lv_iconst (v := (0 : Int32)) hx hb dX8_isInRange_52 (by decide) ?_
            cases hrun
            exact me_ri S hK Y hr hlk rfl dX8_isInRange_53
          · have hrun := o_f hrun c_10
            refine lv_iconst (v := (1 : Int32)) hx hb dX8_isInRange_48 (by decide) ?_
            refine lv_goto (tgt := 53) hx hb dX8_isInRange_49 (by decide) ?_
            cases hrun
            exact me_ri S hK Y hr hlk rfl dX8_isInRange_53
    · have hrun := o_t hrun c_2
      refine lv_iload_n hx hb dX8_isInRange_18 rfl (lv_at hl 1 rfl) ?_
      refine lv_iconst (v := (0 : Int32)) hx hb dX8_isInRange_19 (by decide) ?_
      refine lv_bipush (v := (9 : Int32)) hx hb dX8_isInRange_20 (by decide) ?_
      obtain ⟨r_11, e_12, hrun⟩ := o_bh hrun
      refine cp_s (As := [.int p1, .int (0 : Int32), .int (9 : Int32)]) (rest := []) S hK hA hZ Y hl.1 (mX8_in l D p1 (0 : Int32) (9 : Int32) r_11 e_12) kX8_26 ⟨Nat.le_of_ble_eq_true rfl, Nat.le_of_ble_eq_true rfl⟩ rfl rfl (Nat.le_of_ble_eq_true rfl) ⟨Nat.le_of_ble_eq_true rfl, Nat.le_of_ble_eq_true rfl⟩ dX8_isInRange_22 (fun H locs Y => ?_)
      refine lv_goto (tgt := 53) hx hb dX8_isInRange_25 (by decide) ?_
      obtain ⟨c_13, hrun⟩ := o_kh hrun
      cases hrun
      exact me_ri S hK Y hr hlk (nb_ c_13) dX8_isInRange_53
  · have hrun := o_t hrun c_1
    refine lv_iload_n hx hb dX8_isInRange_4 rfl (lv_at hl 1 rfl) ?_
    refine lv_iconst (v := (0 : Int32)) hx hb dX8_isInRange_5 (by decide) ?_
    refine lv_iconst (v := (3 : Int32)) hx hb dX8_isInRange_6 (by decide) ?_
    obtain ⟨r_14, e_15, hrun⟩ := o_bh hrun
    refine cp_s (As := [.int p1, .int (0 : Int32), .int (3 : Int32)]) (rest := []) S hK hA hZ Y hl.1 (mX8_in l D p1 (0 : Int32) (3 : Int32) r_14 e_15) kX8_26 ⟨Nat.le_of_ble_eq_true rfl, Nat.le_of_ble_eq_true rfl⟩ rfl rfl (Nat.le_of_ble_eq_true rfl) ⟨Nat.le_of_ble_eq_true rfl, Nat.le_of_ble_eq_true rfl⟩ dX8_isInRange_7 (fun H locs Y => ?_)
    refine lv_goto (tgt := 53) hx hb dX8_isInRange_10 (by decide) ?_
    obtain ⟨c_16, hrun⟩ := o_kh hrun
    cases hrun
    exact me_ri S hK Y hr hlk (nb_ c_16) dX8_isInRange_53
def fX8_set (p1 p2 : Int32) (σ : sg_T) : Option (Int32 × sg_T) := ((fX8_isInRange p1 p2).bind fun r_1 => (if r_1 = 0 then (some ((-10002 : Int32), σ)) else ((fX8_record σ).bind fun σ4 => (o_x ((0 : Int32) + p1) 108 (some (((σ4 1) (((0 : Int32) + p1)).toNatClampNeg), (sg_a σ4 1 (upd (σ4 1) (((0 : Int32) + p1)).toNatClampNeg p2))))))))
set_option maxRecDepth 100000 in
set_option maxHeartbeats 4000000 in
theorem mX8_set (l : Launch) (D : va_G) (cI cC : ClassId) (h : Nat → Nat) (σ : sg_T) (p1 p2 : Int32) (r : Int32) (σ' : sg_T) (hrun : fX8_set p1 p2 σ = some (r, σ')) : me_I l D (tM cI cC) yX8_set cX8_set 4 .int 2 43 (wM cI cC h σ) [.ref (h 0), .int p1, .int p2] r (wM cI cC h σ') := by
  refine me_ofI (plainFor_of_name (by decide)) (Nat.le_of_ble_eq_true rfl) ?_
  intro p e s m args below meth c A ls S hK Y hA hl hr hlk hZ
  have hx := S.1
  have hb := S.2.1
  have hl : lv_has ls 4 [(0, .ref (h 0)), (1, .int p1), (2, .int p2)] := hl
  unfold fX8_set at hrun
  refine lv_iload_n hx hb dX8_set_0 rfl (lv_at hl 1 rfl) ?_
  refine lv_iload_n hx hb dX8_set_1 rfl (lv_at hl 2 rfl) ?_
  obtain ⟨r_1, e_2, hrun⟩ := o_bh hrun
  refine cp_s (As := [.int p1, .int p2]) (rest := []) S hK hA hZ Y hl.1 (mX8_isInRange l D p1 p2 r_1 e_2) kX8_45 ⟨Nat.le_of_ble_eq_true rfl, Nat.le_of_ble_eq_true rfl⟩ rfl rfl (Nat.le_of_ble_eq_true rfl) ⟨Nat.le_of_ble_eq_true rfl, Nat.le_of_ble_eq_true rfl⟩ dX8_set_2 (fun H locs Y => ?_)
  refine lv_if_ne (tgt := 12) hx hb dX8_set_5 (by decide) (fun c_3 => ?_) (fun c_3 => ?_)
  · have hrun := o_f hrun c_3
    refine lv_aload_n hx hb dX8_set_12 rfl (lv_at hl 0 rfl) ?_
    obtain ⟨σ4, e_5, hrun⟩ := o_bh hrun
    refine cf_vv (As := []) (rest := []) S hK hA hZ Y hl.1 (mX8_record l D cI cC h σ σ4 e_5) kX8_42 (T := TX8) (N := 11) rfl (q0 := 0) rfl ⟨Nat.le_of_ble_eq_true rfl, Nat.le_of_ble_eq_true rfl⟩ rfl rfl (Nat.le_of_ble_eq_true rfl) ⟨Nat.le_of_ble_eq_true rfl, Nat.le_of_ble_eq_true rfl⟩ dX8_set_13 (fun H locs Y => ?_)
    refine lv_aload_n hx hb dX8_set_16 rfl (lv_at hl 0 rfl) ?_
    refine ig S hK Y fX8_7 0 rfl (v := .ref (h 1)) rfl dX8_set_17 ?_
    refine lv_iconst (v := (0 : Int32)) hx hb dX8_set_20 (by decide) ?_
    refine lv_iload_n hx hb dX8_set_21 rfl (lv_at hl 1 rfl) ?_
    refine lv_iadd hx hb dX8_set_22 ?_
    obtain ⟨b_6, hrun⟩ := o_xh hrun
    refine ia S hK Y 1 0 (f := (σ4 1)) rfl rfl b_6 dX8_set_23 ?_
    refine lv_istore_n (lv' := [(3, .int ((σ4 1) (((0 : Int32) + p1)).toNatClampNeg)), (0, .ref (h 0)), (1, .int p1), (2, .int p2)]) hx hb dX8_set_24 rfl hl (Nat.le_of_ble_eq_true rfl) rfl (fun ls hl => ?_)
    refine lv_aload_n hx hb dX8_set_25 rfl (lv_at hl 1 rfl) ?_
    refine ig S hK Y fX8_7 0 rfl (v := .ref (h 1)) rfl dX8_set_26 ?_
    refine lv_iconst (v := (0 : Int32)) hx hb dX8_set_29 (by decide) ?_
    refine lv_iload_n hx hb dX8_set_30 rfl (lv_at hl 2 rfl) ?_
    refine lv_iadd hx hb dX8_set_31 ?_
    refine lv_iload_n hx hb dX8_set_32 rfl (lv_at hl 3 rfl) ?_
    refine iw S hK Y 1 0 (f := (σ4 1)) rfl rfl b_6 (ws' := (wM cI cC h (sg_a σ4 1 (upd (σ4 1) (((0 : Int32) + p1)).toNatClampNeg p2)))) (wM_a1 _ _ _) dX8_set_33 (fun H locs Y => ?_)
    refine lv_iload_n hx hb dX8_set_34 rfl (lv_at hl 0 rfl) ?_
    cases hrun
    exact me_ri S hK Y hr hlk rfl dX8_set_35
  · have hrun := o_t hrun c_3
    refine lv_sipush (v := (-10002 : Int32)) hx hb dX8_set_8 (by decide) ?_
    cases hrun
    exact me_ri S hK Y hr hlk rfl dX8_set_11
def fX8_setting (p1 : Int32) (σ : sg_T) : Option (Int32) := ((fX8_in p1 (0 : Int32) (3 : Int32)).bind fun r_1 => (if r_1 = 0 then (some (-10002 : Int32)) else (o_x ((0 : Int32) + p1) 108 (some ((σ 1) (((0 : Int32) + p1)).toNatClampNeg)))))
set_option maxRecDepth 100000 in
set_option maxHeartbeats 4000000 in
theorem mX8_setting (l : Launch) (D : va_G) (cI cC : ClassId) (h : Nat → Nat) (σ : sg_T) (p1 : Int32) (r : Int32) (hrun : fX8_setting p1 σ = some r) : me_I l D (tM cI cC) yX8_setting cX8_setting 2 .int 1 22 (wM cI cC h σ) [.ref (h 0), .int p1] r (wM cI cC h σ) := by
  refine me_ofI (plainFor_of_name (by decide)) (Nat.le_of_ble_eq_true rfl) ?_
  intro p e s m args below meth c A ls S hK Y hA hl hr hlk hZ
  have hx := S.1
  have hb := S.2.1
  have hl : lv_has ls 2 [(0, .ref (h 0)), (1, .int p1)] := hl
  unfold fX8_setting at hrun
  refine lv_iload_n hx hb dX8_setting_0 rfl (lv_at hl 1 rfl) ?_
  refine lv_iconst (v := (0 : Int32)) hx hb dX8_setting_1 (by decide) ?_
  refine lv_iconst (v := (3 : Int32)) hx hb dX8_setting_2 (by decide) ?_
  obtain ⟨r_1, e_2, hrun⟩ := o_bh hrun
  refine cp_s (As := [.int p1, .int (0 : Int32), .int (3 : Int32)]) (rest := []) S hK hA hZ Y hl.1 (mX8_in l D p1 (0 : Int32) (3 : Int32) r_1 e_2) kX8_26 ⟨Nat.le_of_ble_eq_true rfl, Nat.le_of_ble_eq_true rfl⟩ rfl rfl (Nat.le_of_ble_eq_true rfl) ⟨Nat.le_of_ble_eq_true rfl, Nat.le_of_ble_eq_true rfl⟩ dX8_setting_3 (fun H locs Y => ?_)
  refine lv_if_eq (tgt := 20) hx hb dX8_setting_6 (by decide) (fun c_3 => ?_) (fun c_3 => ?_)
  · have hrun := o_t hrun c_3
    refine lv_sipush (v := (-10002 : Int32)) hx hb dX8_setting_20 (by decide) ?_
    cases hrun
    exact me_ri S hK Y hr hlk rfl dX8_setting_23
  · have hrun := o_f hrun c_3
    refine lv_aload_n hx hb dX8_setting_9 rfl (lv_at hl 0 rfl) ?_
    refine ig S hK Y fX8_7 0 rfl (v := .ref (h 1)) rfl dX8_setting_10 ?_
    refine lv_iconst (v := (0 : Int32)) hx hb dX8_setting_13 (by decide) ?_
    refine lv_iload_n hx hb dX8_setting_14 rfl (lv_at hl 1 rfl) ?_
    refine lv_iadd hx hb dX8_setting_15 ?_
    obtain ⟨b_4, hrun⟩ := o_xh hrun
    refine ia S hK Y 1 0 (f := (σ 1)) rfl rfl b_4 dX8_setting_16 ?_
    refine lv_goto (tgt := 23) hx hb dX8_setting_17 (by decide) ?_
    cases hrun
    exact me_ri S hK Y hr hlk rfl dX8_setting_23
def lX8_join_35 : Nat → Int32 → (sg_T) → Option (Int32 × sg_T)
  | 0, _, _ => none
  | n + 1, a1, σ => (if (5 : Int32) ≤ a1 then ((fX8_hides ((σ 1) ((4 : Int32)).toNatClampNeg) (-10006 : Int32) σ).bind fun σ6 => (some ((((upd (σ6 1) ((4 : Int32)).toNatClampNeg (((σ6 1) ((4 : Int32)).toNatClampNeg) + (1 : Int32))) ((4 : Int32)).toNatClampNeg) - (1 : Int32)), (sg_a σ6 1 (upd (σ6 1) ((4 : Int32)).toNatClampNeg (((σ6 1) ((4 : Int32)).toNatClampNeg) + (1 : Int32))))))) else (o_x (((12 : Int32) + ((6 : Int32) * ((σ 1) ((4 : Int32)).toNatClampNeg))) + a1) 108 (lX8_join_35 n (a1 + (1 : Int32)) (sg_a σ 1 (upd (σ 1) ((((12 : Int32) + ((6 : Int32) * ((σ 1) ((4 : Int32)).toNatClampNeg))) + a1)).toNatClampNeg (0 : Int32))))))
def fX8_join (σ : sg_T) : Option (Int32 × sg_T) := (if ((σ 1) ((6 : Int32)).toNatClampNeg) ≤ 0 then (if ((σ 1) ((4 : Int32)).toNatClampNeg) = (8 : Int32) then (some ((-10004 : Int32), σ)) else ((fX8_record σ).bind fun σ3 => (lX8_join_35 70 (0 : Int32) σ3))) else (some ((-10003 : Int32), σ)))
set_option maxRecDepth 100000 in
set_option maxHeartbeats 4000000 in
theorem mX8_join (l : Launch) (D : va_G) (cI cC : ClassId) (h : Nat → Nat) (σ : sg_T) (r : Int32) (σ' : sg_T) (hrun : fX8_join σ = some (r, σ')) : me_I l D (tM cI cC) yX8_join cX8_join 2 .int 1 22 (wM cI cC h σ) [.ref (h 0)] r (wM cI cC h σ') := by
  refine me_ofI (plainFor_of_name (by decide)) (Nat.le_of_ble_eq_true rfl) ?_
  intro p e s m args below meth c A ls S hK Y hA hl hr hlk hZ
  have hx := S.1
  have hb := S.2.1
  have hl : lv_has ls 2 [(0, .ref (h 0))] := hl
  have lp35 : ∀ (n : Nat) (a1 : Int32) (σ : sg_T), lX8_join_35 n a1 σ = some (r, σ') → ∀ (H : Heap) (locs : List Loc) (ls : Array Slot), dy_ D A s (wM cI cC h σ) H locs → lv_has ls 2 [(0, .ref (h 0)), (1, .int a1)] → W p l e (rm_ 1 22) s m args below meth c H locs 0 0 (MQ below (me_Qi D (tM cI cC) A r (wM cI cC h σ')) args s 0 0 A) (F0 m 35 ls []) := by
    intro n
    induction n with
    | zero => intro a1 σ hrun; cases hrun
    | succ n ih =>
      intro a1 σ hrun H locs ls Y hl
      unfold lX8_join_35 at hrun
      refine lv_iload_n hx hb dX8_join_35 rfl (lv_at hl 1 rfl) ?_
      refine lv_iconst (v := (5 : Int32)) hx hb dX8_join_36 (by decide) ?_
      refine lv_icmp_ge (tgt := 66) hx hb dX8_join_37 (by decide) (fun c_5 => ?_) (fun c_5 => ?_)
      · have hrun := o_t hrun c_5
        refine lv_aload_n hx hb dX8_join_66 rfl (lv_at hl 0 rfl) ?_
        refine lv_aload_n hx hb dX8_join_67 rfl (lv_at hl 0 rfl) ?_
        refine ig S hK Y fX8_7 0 rfl (v := .ref (h 1)) rfl dX8_join_68 ?_
        refine lv_iconst (v := (4 : Int32)) hx hb dX8_join_71 (by decide) ?_
        refine ia S hK Y 1 0 (f := (σ 1)) rfl rfl (show ¬ ((4 : Int32) < 0 ∨ 108 ≤ ((4 : Int32)).toNatClampNeg) by decide) dX8_join_72 ?_
        refine lv_sipush (v := (-10006 : Int32)) hx hb dX8_join_73 (by decide) ?_
        obtain ⟨σ6, e_7, hrun⟩ := o_bh hrun
        refine cf_vv (As := [.int ((σ 1) ((4 : Int32)).toNatClampNeg), .int (-10006 : Int32)]) (rest := []) S hK hA hZ Y hl.1 (mX8_hides l D cI cC h σ ((σ 1) ((4 : Int32)).toNatClampNeg) (-10006 : Int32) σ6 e_7) kX8_49 (T := TX8) (N := 11) rfl (q0 := 0) rfl ⟨Nat.le_of_ble_eq_true rfl, Nat.le_of_ble_eq_true rfl⟩ rfl rfl (Nat.le_of_ble_eq_true rfl) ⟨Nat.le_of_ble_eq_true rfl, Nat.le_of_ble_eq_true rfl⟩ dX8_join_76 (fun H locs Y => ?_)
        refine lv_aload_n hx hb dX8_join_79 rfl (lv_at hl 0 rfl) ?_
        refine ig S hK Y fX8_7 0 rfl (v := .ref (h 1)) rfl dX8_join_80 ?_
        refine lv_iconst (v := (4 : Int32)) hx hb dX8_join_83 (by decide) ?_
        refine lv_dup2_11 hx hb dX8_join_84 rfl rfl ?_
        refine ia S hK Y 1 0 (f := (σ6 1)) rfl rfl (show ¬ ((4 : Int32) < 0 ∨ 108 ≤ ((4 : Int32)).toNatClampNeg) by decide) dX8_join_85 ?_
        refine lv_iconst (v := (1 : Int32)) hx hb dX8_join_86 (by decide) ?_
        refine lv_iadd hx hb dX8_join_87 ?_
        refine iw S hK Y 1 0 (f := (σ6 1)) rfl rfl (show ¬ ((4 : Int32) < 0 ∨ 108 ≤ ((4 : Int32)).toNatClampNeg) by decide) (ws' := (wM cI cC h (sg_a σ6 1 (upd (σ6 1) ((4 : Int32)).toNatClampNeg (((σ6 1) ((4 : Int32)).toNatClampNeg) + (1 : Int32)))))) (wM_a1 _ _ _) dX8_join_88 (fun H locs Y => ?_)
        refine lv_aload_n hx hb dX8_join_89 rfl (lv_at hl 0 rfl) ?_
        refine ig S hK Y fX8_7 0 rfl (v := .ref (h 1)) rfl dX8_join_90 ?_
        refine lv_iconst (v := (4 : Int32)) hx hb dX8_join_93 (by decide) ?_
        refine ia S hK Y 1 0 (f := (upd (σ6 1) ((4 : Int32)).toNatClampNeg (((σ6 1) ((4 : Int32)).toNatClampNeg) + (1 : Int32)))) rfl rfl (show ¬ ((4 : Int32) < 0 ∨ 108 ≤ ((4 : Int32)).toNatClampNeg) by decide) dX8_join_94 ?_
        refine lv_iconst (v := (1 : Int32)) hx hb dX8_join_95 (by decide) ?_
        refine lv_isub hx hb dX8_join_96 ?_
        cases hrun
        exact me_ri S hK Y hr hlk rfl dX8_join_97
      · have hrun := o_f hrun c_5
        refine lv_aload_n hx hb dX8_join_40 rfl (lv_at hl 0 rfl) ?_
        refine ig S hK Y fX8_7 0 rfl (v := .ref (h 1)) rfl dX8_join_41 ?_
        refine lv_bipush (v := (12 : Int32)) hx hb dX8_join_44 (by decide) ?_
        refine lv_bipush (v := (6 : Int32)) hx hb dX8_join_46 (by decide) ?_
        refine lv_aload_n hx hb dX8_join_48 rfl (lv_at hl 0 rfl) ?_
        refine ig S hK Y fX8_7 0 rfl (v := .ref (h 1)) rfl dX8_join_49 ?_
        refine lv_iconst (v := (4 : Int32)) hx hb dX8_join_52 (by decide) ?_
        refine ia S hK Y 1 0 (f := (σ 1)) rfl rfl (show ¬ ((4 : Int32) < 0 ∨ 108 ≤ ((4 : Int32)).toNatClampNeg) by decide) dX8_join_53 ?_
        refine lv_imul hx hb dX8_join_54 ?_
        refine lv_iadd hx hb dX8_join_55 ?_
        refine lv_iload_n hx hb dX8_join_56 rfl (lv_at hl 1 rfl) ?_
        refine lv_iadd hx hb dX8_join_57 ?_
        refine lv_iconst (v := (0 : Int32)) hx hb dX8_join_58 (by decide) ?_
        obtain ⟨b_8, hrun⟩ := o_xh hrun
        refine iw S hK Y 1 0 (f := (σ 1)) rfl rfl b_8 (ws' := (wM cI cC h (sg_a σ 1 (upd (σ 1) ((((12 : Int32) + ((6 : Int32) * ((σ 1) ((4 : Int32)).toNatClampNeg))) + a1)).toNatClampNeg (0 : Int32))))) (wM_a1 _ _ _) dX8_join_59 (fun H locs Y => ?_)
        refine lv_iinc (v := (a1 + (1 : Int32))) (lv' := [(1, .int (a1 + (1 : Int32))), (0, .ref (h 0))]) hx hb dX8_join_60 hl (k := 1) rfl (by rfl) (Nat.le_of_ble_eq_true rfl) rfl (fun ls hl => ?_)
        refine lv_goto (tgt := 35) hx hb dX8_join_63 (by decide) ?_
        exact ih (a1 + (1 : Int32)) (sg_a σ 1 (upd (σ 1) ((((12 : Int32) + ((6 : Int32) * ((σ 1) ((4 : Int32)).toNatClampNeg))) + a1)).toNatClampNeg (0 : Int32))) hrun _ _ _ Y (lv_sub hl [1, 0] rfl)
  unfold fX8_join at hrun
  refine lv_aload_n hx hb dX8_join_0 rfl (lv_at hl 0 rfl) ?_
  refine ig S hK Y fX8_7 0 rfl (v := .ref (h 1)) rfl dX8_join_1 ?_
  refine lv_bipush (v := (6 : Int32)) hx hb dX8_join_4 (by decide) ?_
  refine ia S hK Y 1 0 (f := (σ 1)) rfl rfl (show ¬ ((6 : Int32) < 0 ∨ 108 ≤ ((6 : Int32)).toNatClampNeg) by decide) dX8_join_6 ?_
  refine lv_if_le (tgt := 14) hx hb dX8_join_7 (by decide) (fun c_1 => ?_) (fun c_1 => ?_)
  · have hrun := o_t hrun c_1
    refine lv_aload_n hx hb dX8_join_14 rfl (lv_at hl 0 rfl) ?_
    refine ig S hK Y fX8_7 0 rfl (v := .ref (h 1)) rfl dX8_join_15 ?_
    refine lv_iconst (v := (4 : Int32)) hx hb dX8_join_18 (by decide) ?_
    refine ia S hK Y 1 0 (f := (σ 1)) rfl rfl (show ¬ ((4 : Int32) < 0 ∨ 108 ≤ ((4 : Int32)).toNatClampNeg) by decide) dX8_join_19 ?_
    refine lv_bipush (v := (8 : Int32)) hx hb dX8_join_20 (by decide) ?_
    refine lv_icmp_ne (tgt := 29) hx hb dX8_join_22 (by decide) (fun c_2 => ?_) (fun c_2 => ?_)
    · have hrun := o_f hrun c_2
      refine lv_aload_n hx hb dX8_join_29 rfl (lv_at hl 0 rfl) ?_
      obtain ⟨σ3, e_4, hrun⟩ := o_bh hrun
      refine cf_vv (As := []) (rest := []) S hK hA hZ Y hl.1 (mX8_record l D cI cC h σ σ3 e_4) kX8_42 (T := TX8) (N := 11) rfl (q0 := 0) rfl ⟨Nat.le_of_ble_eq_true rfl, Nat.le_of_ble_eq_true rfl⟩ rfl rfl (Nat.le_of_ble_eq_true rfl) ⟨Nat.le_of_ble_eq_true rfl, Nat.le_of_ble_eq_true rfl⟩ dX8_join_30 (fun H locs Y => ?_)
      refine lv_iconst (v := (0 : Int32)) hx hb dX8_join_33 (by decide) ?_
      refine lv_istore_n (lv' := [(1, .int (0 : Int32)), (0, .ref (h 0))]) hx hb dX8_join_34 rfl hl (Nat.le_of_ble_eq_true rfl) rfl (fun ls hl => ?_)
      exact lp35 70 (0 : Int32) σ3 hrun _ _ _ Y (lv_sub hl [1, 0] rfl)
    · have hrun := o_t hrun c_2
      refine lv_sipush (v := (-10004 : Int32)) hx hb dX8_join_25 (by decide) ?_
      cases hrun
      exact me_ri S hK Y hr hlk rfl dX8_join_28
  · have hrun := o_f hrun c_1
    refine lv_sipush (v := (-10003 : Int32)) hx hb dX8_join_10 (by decide) ?_
    cases hrun
    exact me_ri S hK Y hr hlk rfl dX8_join_13
def lX8_hidersAt_4 : Nat → Int32 → Int32 → Int32 → (sg_T) → Option (Int32)
  | 0, _, _, _, _ => none
  | n + 1, a1, a2, a3, σ => (if ((σ 1) ((4 : Int32)).toNatClampNeg) ≤ a3 then (some a2) else ((fX8_of a3 (5 : Int32) σ).bind fun r_2 => (if r_2 = a1 then (lX8_hidersAt_4 n a1 (a2 ||| ((1 : Int32) <<< (a3 &&& 31))) (a3 + (1 : Int32)) σ) else (lX8_hidersAt_4 n a1 (a2 ||| (0 : Int32)) (a3 + (1 : Int32)) σ))))
def fX8_hidersAt (p1 : Int32) (σ : sg_T) : Option (Int32) := (lX8_hidersAt_4 70 p1 (0 : Int32) (0 : Int32) σ)
set_option maxRecDepth 100000 in
set_option maxHeartbeats 4000000 in
theorem mX8_hidersAt (l : Launch) (D : va_G) (cI cC : ClassId) (h : Nat → Nat) (σ : sg_T) (p1 : Int32) (r : Int32) (hrun : fX8_hidersAt p1 σ = some r) : me_I l D (tM cI cC) yX8_hidersAt cX8_hidersAt 4 .int 1 22 (wM cI cC h σ) [.ref (h 0), .int p1] r (wM cI cC h σ) := by
  refine me_ofI (plainFor_of_name (by decide)) (Nat.le_of_ble_eq_true rfl) ?_
  intro p e s m args below meth c A ls S hK Y hA hl hr hlk hZ
  have hx := S.1
  have hb := S.2.1
  have hl : lv_has ls 4 [(0, .ref (h 0)), (1, .int p1)] := hl
  have lp4 : ∀ (n : Nat) (a1 : Int32) (a2 : Int32) (a3 : Int32), lX8_hidersAt_4 n a1 a2 a3 σ = some r → ∀ (H : Heap) (locs : List Loc) (ls : Array Slot), dy_ D A s (wM cI cC h σ) H locs → lv_has ls 4 [(0, .ref (h 0)), (1, .int a1), (2, .int a2), (3, .int a3)] → W p l e (rm_ 1 22) s m args below meth c H locs 0 0 (MQ below (me_Qi D (tM cI cC) A r (wM cI cC h σ)) args s 0 0 A) (F0 m 4 ls []) := by
    intro n
    induction n with
    | zero => intro a1 a2 a3 hrun; cases hrun
    | succ n ih =>
      intro a1 a2 a3 hrun H locs ls Y hl
      unfold lX8_hidersAt_4 at hrun
      refine lv_iload_n hx hb dX8_hidersAt_4 rfl (lv_at hl 3 rfl) ?_
      refine lv_aload_n hx hb dX8_hidersAt_5 rfl (lv_at hl 0 rfl) ?_
      refine ig S hK Y fX8_7 0 rfl (v := .ref (h 1)) rfl dX8_hidersAt_6 ?_
      refine lv_iconst (v := (4 : Int32)) hx hb dX8_hidersAt_9 (by decide) ?_
      refine ia S hK Y 1 0 (f := (σ 1)) rfl rfl (show ¬ ((4 : Int32) < 0 ∨ 108 ≤ ((4 : Int32)).toNatClampNeg) by decide) dX8_hidersAt_10 ?_
      refine lv_icmp_ge (tgt := 40) hx hb dX8_hidersAt_11 (by decide) (fun c_1 => ?_) (fun c_1 => ?_)
      · have hrun := o_t hrun c_1
        refine lv_iload_n hx hb dX8_hidersAt_40 rfl (lv_at hl 2 rfl) ?_
        cases hrun
        exact me_ri S hK Y hr hlk rfl dX8_hidersAt_41
      · have hrun := o_f hrun c_1
        refine lv_iload_n hx hb dX8_hidersAt_14 rfl (lv_at hl 2 rfl) ?_
        refine lv_aload_n hx hb dX8_hidersAt_15 rfl (lv_at hl 0 rfl) ?_
        refine lv_iload_n hx hb dX8_hidersAt_16 rfl (lv_at hl 3 rfl) ?_
        refine lv_iconst (v := (5 : Int32)) hx hb dX8_hidersAt_17 (by decide) ?_
        obtain ⟨r_2, e_3, hrun⟩ := o_bh hrun
        refine cf_v (As := [.int a3, .int (5 : Int32)]) (rest := [.int a2]) S hK hA hZ Y hl.1 (mX8_of l D cI cC h σ a3 (5 : Int32) r_2 e_3) kX8_53 (T := TX8) (N := 11) rfl (q0 := 0) rfl ⟨Nat.le_of_ble_eq_true rfl, Nat.le_of_ble_eq_true rfl⟩ rfl rfl (Nat.le_of_ble_eq_true rfl) ⟨Nat.le_of_ble_eq_true rfl, Nat.le_of_ble_eq_true rfl⟩ dX8_hidersAt_18 (fun H locs Y => ?_)
        refine lv_iload_n hx hb dX8_hidersAt_21 rfl (lv_at hl 1 rfl) ?_
        refine lv_icmp_ne (tgt := 31) hx hb dX8_hidersAt_22 (by decide) (fun c_4 => ?_) (fun c_4 => ?_)
        · have hrun := o_f hrun c_4
          refine lv_iconst (v := (0 : Int32)) hx hb dX8_hidersAt_31 (by decide) ?_
          refine lv_ior hx hb dX8_hidersAt_32 ?_
          refine lv_istore_n (lv' := [(2, .int (a2 ||| (0 : Int32))), (0, .ref (h 0)), (1, .int a1), (3, .int a3)]) hx hb dX8_hidersAt_33 rfl hl (Nat.le_of_ble_eq_true rfl) rfl (fun ls hl => ?_)
          refine lv_iinc (v := (a3 + (1 : Int32))) (lv' := [(3, .int (a3 + (1 : Int32))), (2, .int (a2 ||| (0 : Int32))), (0, .ref (h 0)), (1, .int a1)]) hx hb dX8_hidersAt_34 hl (k := 3) rfl (by rfl) (Nat.le_of_ble_eq_true rfl) rfl (fun ls hl => ?_)
          refine lv_goto (tgt := 4) hx hb dX8_hidersAt_37 (by decide) ?_
          exact ih a1 (a2 ||| (0 : Int32)) (a3 + (1 : Int32)) hrun _ _ _ Y (lv_sub hl [2, 3, 1, 0] rfl)
        · have hrun := o_t hrun c_4
          refine lv_iconst (v := (1 : Int32)) hx hb dX8_hidersAt_25 (by decide) ?_
          refine lv_iload_n hx hb dX8_hidersAt_26 rfl (lv_at hl 3 rfl) ?_
          refine lv_ishl hx hb dX8_hidersAt_27 ?_
          refine lv_goto (tgt := 32) hx hb dX8_hidersAt_28 (by decide) ?_
          refine lv_ior hx hb dX8_hidersAt_32 ?_
          refine lv_istore_n (lv' := [(2, .int (a2 ||| ((1 : Int32) <<< (a3 &&& 31)))), (0, .ref (h 0)), (1, .int a1), (3, .int a3)]) hx hb dX8_hidersAt_33 rfl hl (Nat.le_of_ble_eq_true rfl) rfl (fun ls hl => ?_)
          refine lv_iinc (v := (a3 + (1 : Int32))) (lv' := [(3, .int (a3 + (1 : Int32))), (2, .int (a2 ||| ((1 : Int32) <<< (a3 &&& 31)))), (0, .ref (h 0)), (1, .int a1)]) hx hb dX8_hidersAt_34 hl (k := 3) rfl (by rfl) (Nat.le_of_ble_eq_true rfl) rfl (fun ls hl => ?_)
          refine lv_goto (tgt := 4) hx hb dX8_hidersAt_37 (by decide) ?_
          exact ih a1 (a2 ||| ((1 : Int32) <<< (a3 &&& 31))) (a3 + (1 : Int32)) hrun _ _ _ Y (lv_sub hl [2, 3, 1, 0] rfl)
  unfold fX8_hidersAt at hrun
  refine lv_iconst (v := (0 : Int32)) hx hb dX8_hidersAt_0 (by decide) ?_
  refine lv_istore_n (lv' := [(2, .int (0 : Int32)), (0, .ref (h 0)), (1, .int p1)]) hx hb dX8_hidersAt_1 rfl hl (Nat.le_of_ble_eq_true rfl) rfl (fun ls hl => ?_)
  refine lv_iconst (v := (0 : Int32)) hx hb dX8_hidersAt_2 (by decide) ?_
  refine lv_istore_n (lv' := [(3, .int (0 : Int32)), (2, .int (0 : Int32)), (0, .ref (h 0)), (1, .int p1)]) hx hb dX8_hidersAt_3 rfl hl (Nat.le_of_ble_eq_true rfl) rfl (fun ls hl => ?_)
  exact lp4 70 p1 (0 : Int32) (0 : Int32) hrun _ _ _ Y (lv_sub hl [2, 3, 1, 0] rfl)
def lX8_bits_4 : Nat → Int32 → Int32 → Int32 → Option (Int32)
  | 0, _, _, _ => none
  | n + 1, a0, a1, a2 => (if (16 : Int32) ≤ a2 then (some a1) else (lX8_bits_4 n a0 (a1 + ((a0 >>> (a2 &&& 31)) &&& (1 : Int32))) (a2 + (1 : Int32))))
def fX8_bits (p0 : Int32) : Option Int32 := (lX8_bits_4 70 p0 (0 : Int32) (0 : Int32))
set_option maxRecDepth 100000 in
set_option maxHeartbeats 4000000 in
theorem mX8_bits (l : Launch) (D : va_G) (p0 : Int32) (r : Int32) (hrun : fX8_bits p0 = some r) : me_I l D [] yX8_bits cX8_bits 3 .int 0 0 [] [.int p0] r [] := by
  refine me_ofI (plainFor_of_name (by decide)) (Nat.le_of_ble_eq_true rfl) ?_
  intro p e s m args below meth c A ls S hK Y hA hl hr hlk hZ
  have hx := S.1
  have hb := S.2.1
  have hl : lv_has ls 3 [(0, .int p0)] := hl
  have lp4 : ∀ (n : Nat) (a0 : Int32) (a1 : Int32) (a2 : Int32), lX8_bits_4 n a0 a1 a2 = some r → ∀ (H : Heap) (locs : List Loc) (ls : Array Slot), dy_ D A s [] H locs → lv_has ls 3 [(0, .int a0), (1, .int a1), (2, .int a2)] → W p l e (rm_ 0 0) s m args below meth c H locs 0 0 (MQ below (me_Qi D [] A r []) args s 0 0 A) (F0 m 4 ls []) := by
    intro n
    induction n with
    | zero => intro a0 a1 a2 hrun; cases hrun
    | succ n ih =>
      intro a0 a1 a2 hrun H locs ls Y hl
      unfold lX8_bits_4 at hrun
      refine lv_iload_n hx hb dX8_bits_4 rfl (lv_at hl 2 rfl) ?_
      refine lv_bipush (v := (16 : Int32)) hx hb dX8_bits_5 (by decide) ?_
      refine lv_icmp_ge (tgt := 24) hx hb dX8_bits_7 (by decide) (fun c_1 => ?_) (fun c_1 => ?_)
      · have hrun := o_t hrun c_1
        refine lv_iload_n hx hb dX8_bits_24 rfl (lv_at hl 1 rfl) ?_
        cases hrun
        exact me_ri S hK Y hr hlk rfl dX8_bits_25
      · have hrun := o_f hrun c_1
        refine lv_iload_n hx hb dX8_bits_10 rfl (lv_at hl 1 rfl) ?_
        refine lv_iload_n hx hb dX8_bits_11 rfl (lv_at hl 0 rfl) ?_
        refine lv_iload_n hx hb dX8_bits_12 rfl (lv_at hl 2 rfl) ?_
        refine lv_ishr hx hb dX8_bits_13 ?_
        refine lv_iconst (v := (1 : Int32)) hx hb dX8_bits_14 (by decide) ?_
        refine lv_iand hx hb dX8_bits_15 ?_
        refine lv_iadd hx hb dX8_bits_16 ?_
        refine lv_istore_n (lv' := [(1, .int (a1 + ((a0 >>> (a2 &&& 31)) &&& (1 : Int32)))), (0, .int a0), (2, .int a2)]) hx hb dX8_bits_17 rfl hl (Nat.le_of_ble_eq_true rfl) rfl (fun ls hl => ?_)
        refine lv_iinc (v := (a2 + (1 : Int32))) (lv' := [(2, .int (a2 + (1 : Int32))), (1, .int (a1 + ((a0 >>> (a2 &&& 31)) &&& (1 : Int32)))), (0, .int a0)]) hx hb dX8_bits_18 hl (k := 2) rfl (by rfl) (Nat.le_of_ble_eq_true rfl) rfl (fun ls hl => ?_)
        refine lv_goto (tgt := 4) hx hb dX8_bits_21 (by decide) ?_
        exact ih a0 (a1 + ((a0 >>> (a2 &&& 31)) &&& (1 : Int32))) (a2 + (1 : Int32)) hrun _ _ _ Y (lv_sub hl [2, 1, 0] rfl)
  unfold fX8_bits at hrun
  refine lv_iconst (v := (0 : Int32)) hx hb dX8_bits_0 (by decide) ?_
  refine lv_istore_n (lv' := [(1, .int (0 : Int32)), (0, .int p0)]) hx hb dX8_bits_1 rfl hl (Nat.le_of_ble_eq_true rfl) rfl (fun ls hl => ?_)
  refine lv_iconst (v := (0 : Int32)) hx hb dX8_bits_2 (by decide) ?_
  refine lv_istore_n (lv' := [(2, .int (0 : Int32)), (1, .int (0 : Int32)), (0, .int p0)]) hx hb dX8_bits_3 rfl hl (Nat.le_of_ble_eq_true rfl) rfl (fun ls hl => ?_)
  exact lp4 70 p0 (0 : Int32) (0 : Int32) hrun _ _ _ Y (lv_sub hl [2, 1, 0] rfl)
def lX8_hidden_4 : Nat → Int32 → Int32 → (sg_T) → Option (Int32)
  | 0, _, _, _ => none
  | n + 1, a1, a2, σ => (if ((σ 1) ((4 : Int32)).toNatClampNeg) ≤ a2 then (some a1) else ((fX8_of a2 (5 : Int32) σ).bind fun r_2 => (if r_2 = (-10006 : Int32) then (lX8_hidden_4 n (a1 + (0 : Int32)) (a2 + (1 : Int32)) σ) else (lX8_hidden_4 n (a1 + (1 : Int32)) (a2 + (1 : Int32)) σ))))
def fX8_hidden (σ : sg_T) : Option (Int32) := (lX8_hidden_4 70 (0 : Int32) (0 : Int32) σ)
set_option maxRecDepth 100000 in
set_option maxHeartbeats 4000000 in
theorem mX8_hidden (l : Launch) (D : va_G) (cI cC : ClassId) (h : Nat → Nat) (σ : sg_T) (r : Int32) (hrun : fX8_hidden σ = some r) : me_I l D (tM cI cC) yX8_hidden cX8_hidden 3 .int 1 22 (wM cI cC h σ) [.ref (h 0)] r (wM cI cC h σ) := by
  refine me_ofI (plainFor_of_name (by decide)) (Nat.le_of_ble_eq_true rfl) ?_
  intro p e s m args below meth c A ls S hK Y hA hl hr hlk hZ
  have hx := S.1
  have hb := S.2.1
  have hl : lv_has ls 3 [(0, .ref (h 0))] := hl
  have lp4 : ∀ (n : Nat) (a1 : Int32) (a2 : Int32), lX8_hidden_4 n a1 a2 σ = some r → ∀ (H : Heap) (locs : List Loc) (ls : Array Slot), dy_ D A s (wM cI cC h σ) H locs → lv_has ls 3 [(0, .ref (h 0)), (1, .int a1), (2, .int a2)] → W p l e (rm_ 1 22) s m args below meth c H locs 0 0 (MQ below (me_Qi D (tM cI cC) A r (wM cI cC h σ)) args s 0 0 A) (F0 m 4 ls []) := by
    intro n
    induction n with
    | zero => intro a1 a2 hrun; cases hrun
    | succ n ih =>
      intro a1 a2 hrun H locs ls Y hl
      unfold lX8_hidden_4 at hrun
      refine lv_iload_n hx hb dX8_hidden_4 rfl (lv_at hl 2 rfl) ?_
      refine lv_aload_n hx hb dX8_hidden_5 rfl (lv_at hl 0 rfl) ?_
      refine ig S hK Y fX8_7 0 rfl (v := .ref (h 1)) rfl dX8_hidden_6 ?_
      refine lv_iconst (v := (4 : Int32)) hx hb dX8_hidden_9 (by decide) ?_
      refine ia S hK Y 1 0 (f := (σ 1)) rfl rfl (show ¬ ((4 : Int32) < 0 ∨ 108 ≤ ((4 : Int32)).toNatClampNeg) by decide) dX8_hidden_10 ?_
      refine lv_icmp_ge (tgt := 40) hx hb dX8_hidden_11 (by decide) (fun c_1 => ?_) (fun c_1 => ?_)
      · have hrun := o_t hrun c_1
        refine lv_iload_n hx hb dX8_hidden_40 rfl (lv_at hl 1 rfl) ?_
        cases hrun
        exact me_ri S hK Y hr hlk rfl dX8_hidden_41
      · have hrun := o_f hrun c_1
        refine lv_iload_n hx hb dX8_hidden_14 rfl (lv_at hl 1 rfl) ?_
        refine lv_aload_n hx hb dX8_hidden_15 rfl (lv_at hl 0 rfl) ?_
        refine lv_iload_n hx hb dX8_hidden_16 rfl (lv_at hl 2 rfl) ?_
        refine lv_iconst (v := (5 : Int32)) hx hb dX8_hidden_17 (by decide) ?_
        obtain ⟨r_2, e_3, hrun⟩ := o_bh hrun
        refine cf_v (As := [.int a2, .int (5 : Int32)]) (rest := [.int a1]) S hK hA hZ Y hl.1 (mX8_of l D cI cC h σ a2 (5 : Int32) r_2 e_3) kX8_53 (T := TX8) (N := 11) rfl (q0 := 0) rfl ⟨Nat.le_of_ble_eq_true rfl, Nat.le_of_ble_eq_true rfl⟩ rfl rfl (Nat.le_of_ble_eq_true rfl) ⟨Nat.le_of_ble_eq_true rfl, Nat.le_of_ble_eq_true rfl⟩ dX8_hidden_18 (fun H locs Y => ?_)
        refine lv_sipush (v := (-10006 : Int32)) hx hb dX8_hidden_21 (by decide) ?_
        refine lv_icmp_ne (tgt := 31) hx hb dX8_hidden_24 (by decide) (fun c_4 => ?_) (fun c_4 => ?_)
        · have hrun := o_f hrun c_4
          refine lv_iconst (v := (1 : Int32)) hx hb dX8_hidden_31 (by decide) ?_
          refine lv_iadd hx hb dX8_hidden_32 ?_
          refine lv_istore_n (lv' := [(1, .int (a1 + (1 : Int32))), (0, .ref (h 0)), (2, .int a2)]) hx hb dX8_hidden_33 rfl hl (Nat.le_of_ble_eq_true rfl) rfl (fun ls hl => ?_)
          refine lv_iinc (v := (a2 + (1 : Int32))) (lv' := [(2, .int (a2 + (1 : Int32))), (1, .int (a1 + (1 : Int32))), (0, .ref (h 0))]) hx hb dX8_hidden_34 hl (k := 2) rfl (by rfl) (Nat.le_of_ble_eq_true rfl) rfl (fun ls hl => ?_)
          refine lv_goto (tgt := 4) hx hb dX8_hidden_37 (by decide) ?_
          exact ih (a1 + (1 : Int32)) (a2 + (1 : Int32)) hrun _ _ _ Y (lv_sub hl [2, 1, 0] rfl)
        · have hrun := o_t hrun c_4
          refine lv_iconst (v := (0 : Int32)) hx hb dX8_hidden_27 (by decide) ?_
          refine lv_goto (tgt := 32) hx hb dX8_hidden_28 (by decide) ?_
          refine lv_iadd hx hb dX8_hidden_32 ?_
          refine lv_istore_n (lv' := [(1, .int (a1 + (0 : Int32))), (0, .ref (h 0)), (2, .int a2)]) hx hb dX8_hidden_33 rfl hl (Nat.le_of_ble_eq_true rfl) rfl (fun ls hl => ?_)
          refine lv_iinc (v := (a2 + (1 : Int32))) (lv' := [(2, .int (a2 + (1 : Int32))), (1, .int (a1 + (0 : Int32))), (0, .ref (h 0))]) hx hb dX8_hidden_34 hl (k := 2) rfl (by rfl) (Nat.le_of_ble_eq_true rfl) rfl (fun ls hl => ?_)
          refine lv_goto (tgt := 4) hx hb dX8_hidden_37 (by decide) ?_
          exact ih (a1 + (0 : Int32)) (a2 + (1 : Int32)) hrun _ _ _ Y (lv_sub hl [2, 1, 0] rfl)
  unfold fX8_hidden at hrun
  refine lv_iconst (v := (0 : Int32)) hx hb dX8_hidden_0 (by decide) ?_
  refine lv_istore_n (lv' := [(1, .int (0 : Int32)), (0, .ref (h 0))]) hx hb dX8_hidden_1 rfl hl (Nat.le_of_ble_eq_true rfl) rfl (fun ls hl => ?_)
  refine lv_iconst (v := (0 : Int32)) hx hb dX8_hidden_2 (by decide) ?_
  refine lv_istore_n (lv' := [(2, .int (0 : Int32)), (1, .int (0 : Int32)), (0, .ref (h 0))]) hx hb dX8_hidden_3 rfl hl (Nat.le_of_ble_eq_true rfl) rfl (fun ls hl => ?_)
  exact lp4 70 (0 : Int32) (0 : Int32) hrun _ _ _ Y (lv_sub hl [2, 1, 0] rfl)
def fX8_isGood (p1 : Int32) (σ : sg_T) : Option (Int32) := (if p1 ≤ 0 then (some (0 : Int32)) else ((fX8_distance p1 (0 : Int32)).bind fun r_2 => (if ((σ 1) ((8 : Int32)).toNatClampNeg) < r_2 then (some (0 : Int32)) else ((fX8_isRetired p1 σ).bind fun r_5 => (if r_5 = 0 then (some (1 : Int32)) else (some (0 : Int32)))))))
set_option maxRecDepth 100000 in
set_option maxHeartbeats 4000000 in
theorem mX8_isGood (l : Launch) (D : va_G) (cI cC : ClassId) (h : Nat → Nat) (σ : sg_T) (p1 : Int32) (r : Int32) (hrun : fX8_isGood p1 σ = some r) : me_I l D (tM cI cC) yX8_isGood cX8_isGood 2 .boolean 2 43 (wM cI cC h σ) [.ref (h 0), .int p1] r (wM cI cC h σ) := by
  refine me_ofI (plainFor_of_name (by decide)) (Nat.le_of_ble_eq_true rfl) ?_
  intro p e s m args below meth c A ls S hK Y hA hl hr hlk hZ
  have hx := S.1
  have hb := S.2.1
  have hl : lv_has ls 2 [(0, .ref (h 0)), (1, .int p1)] := hl
  unfold fX8_isGood at hrun
  refine lv_iload_n hx hb dX8_isGood_0 rfl (lv_at hl 1 rfl) ?_
  refine lv_if_le (tgt := 31) hx hb dX8_isGood_1 (by decide) (fun c_1 => ?_) (fun c_1 => ?_)
  · have hrun := o_t hrun c_1
    refine lv_iconst (v := (0 : Int32)) hx hb dX8_isGood_31 (by decide) ?_
    cases hrun
    exact me_ri S hK Y hr hlk rfl dX8_isGood_32
  · have hrun := o_f hrun c_1
    refine lv_iload_n hx hb dX8_isGood_4 rfl (lv_at hl 1 rfl) ?_
    refine lv_iconst (v := (0 : Int32)) hx hb dX8_isGood_5 (by decide) ?_
    obtain ⟨r_2, e_3, hrun⟩ := o_bh hrun
    refine cp_s (As := [.int p1, .int (0 : Int32)]) (rest := []) S hK hA hZ Y hl.1 (mX8_distance l D p1 (0 : Int32) r_2 e_3) kX8_56 ⟨Nat.le_of_ble_eq_true rfl, Nat.le_of_ble_eq_true rfl⟩ rfl rfl (Nat.le_of_ble_eq_true rfl) ⟨Nat.le_of_ble_eq_true rfl, Nat.le_of_ble_eq_true rfl⟩ dX8_isGood_6 (fun H locs Y => ?_)
    refine lv_aload_n hx hb dX8_isGood_9 rfl (lv_at hl 0 rfl) ?_
    refine ig S hK Y fX8_7 0 rfl (v := .ref (h 1)) rfl dX8_isGood_10 ?_
    refine lv_bipush (v := (8 : Int32)) hx hb dX8_isGood_13 (by decide) ?_
    refine ia S hK Y 1 0 (f := (σ 1)) rfl rfl (show ¬ ((8 : Int32) < 0 ∨ 108 ≤ ((8 : Int32)).toNatClampNeg) by decide) dX8_isGood_15 ?_
    refine lv_icmp_gt (tgt := 31) hx hb dX8_isGood_16 (by decide) (fun c_4 => ?_) (fun c_4 => ?_)
    · have hrun := o_t hrun c_4
      refine lv_iconst (v := (0 : Int32)) hx hb dX8_isGood_31 (by decide) ?_
      cases hrun
      exact me_ri S hK Y hr hlk rfl dX8_isGood_32
    · have hrun := o_f hrun c_4
      refine lv_aload_n hx hb dX8_isGood_19 rfl (lv_at hl 0 rfl) ?_
      refine lv_iload_n hx hb dX8_isGood_20 rfl (lv_at hl 1 rfl) ?_
      obtain ⟨r_5, e_6, hrun⟩ := o_bh hrun
      refine cf_v (As := [.int p1]) (rest := []) S hK hA hZ Y hl.1 (mX8_isRetired l D cI cC h σ p1 r_5 e_6) kX8_59 (T := TX8) (N := 11) rfl (q0 := 0) rfl ⟨Nat.le_of_ble_eq_true rfl, Nat.le_of_ble_eq_true rfl⟩ rfl rfl (Nat.le_of_ble_eq_true rfl) ⟨Nat.le_of_ble_eq_true rfl, Nat.le_of_ble_eq_true rfl⟩ dX8_isGood_21 (fun H locs Y => ?_)
      refine lv_if_ne (tgt := 31) hx hb dX8_isGood_24 (by decide) (fun c_7 => ?_) (fun c_7 => ?_)
      · have hrun := o_f hrun c_7
        refine lv_iconst (v := (0 : Int32)) hx hb dX8_isGood_31 (by decide) ?_
        cases hrun
        exact me_ri S hK Y hr hlk rfl dX8_isGood_32
      · have hrun := o_t hrun c_7
        refine lv_iconst (v := (1 : Int32)) hx hb dX8_isGood_27 (by decide) ?_
        refine lv_goto (tgt := 32) hx hb dX8_isGood_28 (by decide) ?_
        cases hrun
        exact me_ri S hK Y hr hlk rfl dX8_isGood_32
def fX8_isOpen (p1 : Int32) (σ : sg_T) : Option (Int32) := ((fX8_isGood p1 σ).bind fun r_1 => (if r_1 = 0 then (some (0 : Int32)) else ((fX8_hidersAt p1 σ).bind fun r_4 => ((fX8_bits r_4).bind fun r_6 => (if (2 : Int32) ≤ r_6 then (some (0 : Int32)) else (some (1 : Int32)))))))
set_option maxRecDepth 100000 in
set_option maxHeartbeats 4000000 in
theorem mX8_isOpen (l : Launch) (D : va_G) (cI cC : ClassId) (h : Nat → Nat) (σ : sg_T) (p1 : Int32) (r : Int32) (hrun : fX8_isOpen p1 σ = some r) : me_I l D (tM cI cC) yX8_isOpen cX8_isOpen 2 .boolean 3 64 (wM cI cC h σ) [.ref (h 0), .int p1] r (wM cI cC h σ) := by
  refine me_ofI (plainFor_of_name (by decide)) (Nat.le_of_ble_eq_true rfl) ?_
  intro p e s m args below meth c A ls S hK Y hA hl hr hlk hZ
  have hx := S.1
  have hb := S.2.1
  have hl : lv_has ls 2 [(0, .ref (h 0)), (1, .int p1)] := hl
  unfold fX8_isOpen at hrun
  refine lv_aload_n hx hb dX8_isOpen_0 rfl (lv_at hl 0 rfl) ?_
  refine lv_iload_n hx hb dX8_isOpen_1 rfl (lv_at hl 1 rfl) ?_
  obtain ⟨r_1, e_2, hrun⟩ := o_bh hrun
  refine cf_v (As := [.int p1]) (rest := []) S hK hA hZ Y hl.1 (mX8_isGood l D cI cC h σ p1 r_1 e_2) kX8_63 (T := TX8) (N := 11) rfl (q0 := 0) rfl ⟨Nat.le_of_ble_eq_true rfl, Nat.le_of_ble_eq_true rfl⟩ rfl rfl (Nat.le_of_ble_eq_true rfl) ⟨Nat.le_of_ble_eq_true rfl, Nat.le_of_ble_eq_true rfl⟩ dX8_isOpen_2 (fun H locs Y => ?_)
  refine lv_if_eq (tgt := 24) hx hb dX8_isOpen_5 (by decide) (fun c_3 => ?_) (fun c_3 => ?_)
  · have hrun := o_t hrun c_3
    refine lv_iconst (v := (0 : Int32)) hx hb dX8_isOpen_24 (by decide) ?_
    cases hrun
    exact me_ri S hK Y hr hlk rfl dX8_isOpen_25
  · have hrun := o_f hrun c_3
    refine lv_aload_n hx hb dX8_isOpen_8 rfl (lv_at hl 0 rfl) ?_
    refine lv_iload_n hx hb dX8_isOpen_9 rfl (lv_at hl 1 rfl) ?_
    obtain ⟨r_4, e_5, hrun⟩ := o_bh hrun
    refine cf_v (As := [.int p1]) (rest := []) S hK hA hZ Y hl.1 (mX8_hidersAt l D cI cC h σ p1 r_4 e_5) kX8_66 (T := TX8) (N := 11) rfl (q0 := 0) rfl ⟨Nat.le_of_ble_eq_true rfl, Nat.le_of_ble_eq_true rfl⟩ rfl rfl (Nat.le_of_ble_eq_true rfl) ⟨Nat.le_of_ble_eq_true rfl, Nat.le_of_ble_eq_true rfl⟩ dX8_isOpen_10 (fun H locs Y => ?_)
    obtain ⟨r_6, e_7, hrun⟩ := o_bh hrun
    refine cp_s (As := [.int r_4]) (rest := []) S hK hA hZ Y hl.1 (mX8_bits l D r_4 r_6 e_7) kX8_70 ⟨Nat.le_of_ble_eq_true rfl, Nat.le_of_ble_eq_true rfl⟩ rfl rfl (Nat.le_of_ble_eq_true rfl) ⟨Nat.le_of_ble_eq_true rfl, Nat.le_of_ble_eq_true rfl⟩ dX8_isOpen_13 (fun H locs Y => ?_)
    refine lv_iconst (v := (2 : Int32)) hx hb dX8_isOpen_16 (by decide) ?_
    refine lv_icmp_ge (tgt := 24) hx hb dX8_isOpen_17 (by decide) (fun c_8 => ?_) (fun c_8 => ?_)
    · have hrun := o_t hrun c_8
      refine lv_iconst (v := (0 : Int32)) hx hb dX8_isOpen_24 (by decide) ?_
      cases hrun
      exact me_ri S hK Y hr hlk rfl dX8_isOpen_25
    · have hrun := o_f hrun c_8
      refine lv_iconst (v := (1 : Int32)) hx hb dX8_isOpen_20 (by decide) ?_
      refine lv_goto (tgt := 25) hx hb dX8_isOpen_21 (by decide) ?_
      cases hrun
      exact me_ri S hK Y hr hlk rfl dX8_isOpen_25
def lX8_start_106 : Nat → Int32 → Int32 → Int32 → Int32 → (sg_T) → Option (Int32 × sg_T)
  | 0, _, _, _, _, _ => none
  | n + 1, a1, a2, a3, a4, σ => (if (16 : Int32) ≤ a4 then (some (a3, σ)) else ((fX8_isOpen a4 σ).bind fun r_14 => (if r_14 = 0 then (lX8_start_106 n a1 a2 (a3 + (0 : Int32)) (a4 + (1 : Int32)) σ) else (lX8_start_106 n a1 a2 (a3 + (1 : Int32)) (a4 + (1 : Int32)) σ))))
def fX8_start (p1 p2 : Int32) (σ : sg_T) : Option (Int32 × sg_T) := ((fX8_isPlayer p1 σ).bind fun r_1 => (if r_1 = 0 then (some ((-10001 : Int32), σ)) else ((fX8_in p2 (1 : Int32) (8 : Int32)).bind fun r_4 => (if r_4 = 0 then (some ((-10002 : Int32), σ)) else (if 0 < ((σ 1) ((6 : Int32)).toNatClampNeg) then (some ((-10003 : Int32), σ)) else (if (2 : Int32) ≤ ((σ 1) ((4 : Int32)).toNatClampNeg) then ((fX8_record σ).bind fun σ9 => ((fX8_adds p1 (1 : Int32) (1 : Int32) (sg_a (sg_a (sg_a (sg_a (sg_a σ9 1 (upd (σ9 1) ((6 : Int32)).toNatClampNeg (1 : Int32))) 1 (upd (upd (σ9 1) ((6 : Int32)).toNatClampNeg (1 : Int32)) ((7 : Int32)).toNatClampNeg p1)) 1 (upd (upd (upd (σ9 1) ((6 : Int32)).toNatClampNeg (1 : Int32)) ((7 : Int32)).toNatClampNeg p1) ((8 : Int32)).toNatClampNeg p2)) 1 (upd (upd (upd (upd (σ9 1) ((6 : Int32)).toNatClampNeg (1 : Int32)) ((7 : Int32)).toNatClampNeg p1) ((8 : Int32)).toNatClampNeg p2) ((9 : Int32)).toNatClampNeg (0 : Int32))) 1 (upd (upd (upd (upd (upd (σ9 1) ((6 : Int32)).toNatClampNeg (1 : Int32)) ((7 : Int32)).toNatClampNeg p1) ((8 : Int32)).toNatClampNeg p2) ((9 : Int32)).toNatClampNeg (0 : Int32)) ((10 : Int32)).toNatClampNeg (0 : Int32)))).bind fun σ11 => (lX8_start_106 70 p1 p2 (0 : Int32) (0 : Int32) σ11))) else (some ((-10003 : Int32), σ))))))))
set_option maxRecDepth 100000 in
set_option maxHeartbeats 4000000 in
theorem mX8_start (l : Launch) (D : va_G) (cI cC : ClassId) (h : Nat → Nat) (σ : sg_T) (p1 p2 : Int32) (r : Int32) (σ' : sg_T) (hrun : fX8_start p1 p2 σ = some (r, σ')) : me_I l D (tM cI cC) yX8_start cX8_start 5 .int 4 85 (wM cI cC h σ) [.ref (h 0), .int p1, .int p2] r (wM cI cC h σ') := by
  refine me_ofI (plainFor_of_name (by decide)) (Nat.le_of_ble_eq_true rfl) ?_
  intro p e s m args below meth c A ls S hK Y hA hl hr hlk hZ
  have hx := S.1
  have hb := S.2.1
  have hl : lv_has ls 5 [(0, .ref (h 0)), (1, .int p1), (2, .int p2)] := hl
  have lp106 : ∀ (n : Nat) (a1 : Int32) (a2 : Int32) (a3 : Int32) (a4 : Int32) (σ : sg_T), lX8_start_106 n a1 a2 a3 a4 σ = some (r, σ') → ∀ (H : Heap) (locs : List Loc) (ls : Array Slot), dy_ D A s (wM cI cC h σ) H locs → lv_has ls 5 [(0, .ref (h 0)), (1, .int a1), (2, .int a2), (3, .int a3), (4, .int a4)] → W p l e (rm_ 4 85) s m args below meth c H locs 0 0 (MQ below (me_Qi D (tM cI cC) A r (wM cI cC h σ')) args s 0 0 A) (F0 m 106 ls []) := by
    intro n
    induction n with
    | zero => intro a1 a2 a3 a4 σ hrun; cases hrun
    | succ n ih =>
      intro a1 a2 a3 a4 σ hrun H locs ls Y hl
      unfold lX8_start_106 at hrun
      refine lv_iload hx hb dX8_start_106 (lv_at hl 4 rfl) ?_
      refine lv_bipush (v := (16 : Int32)) hx hb dX8_start_108 (by decide) ?_
      refine lv_icmp_ge (tgt := 136) hx hb dX8_start_110 (by decide) (fun c_13 => ?_) (fun c_13 => ?_)
      · have hrun := o_t hrun c_13
        refine lv_iload_n hx hb dX8_start_136 rfl (lv_at hl 3 rfl) ?_
        cases hrun
        exact me_ri S hK Y hr hlk rfl dX8_start_137
      · have hrun := o_f hrun c_13
        refine lv_iload_n hx hb dX8_start_113 rfl (lv_at hl 3 rfl) ?_
        refine lv_aload_n hx hb dX8_start_114 rfl (lv_at hl 0 rfl) ?_
        refine lv_iload hx hb dX8_start_115 (lv_at hl 4 rfl) ?_
        obtain ⟨r_14, e_15, hrun⟩ := o_bh hrun
        refine cf_v (As := [.int a4]) (rest := [.int a3]) S hK hA hZ Y hl.1 (mX8_isOpen l D cI cC h σ a4 r_14 e_15) kX8_80 (T := TX8) (N := 11) rfl (q0 := 0) rfl ⟨Nat.le_of_ble_eq_true rfl, Nat.le_of_ble_eq_true rfl⟩ rfl rfl (Nat.le_of_ble_eq_true rfl) ⟨Nat.le_of_ble_eq_true rfl, Nat.le_of_ble_eq_true rfl⟩ dX8_start_117 (fun H locs Y => ?_)
        refine lv_if_eq (tgt := 127) hx hb dX8_start_120 (by decide) (fun c_16 => ?_) (fun c_16 => ?_)
        · have hrun := o_t hrun c_16
          refine lv_iconst (v := (0 : Int32)) hx hb dX8_start_127 (by decide) ?_
          refine lv_iadd hx hb dX8_start_128 ?_
          refine lv_istore_n (lv' := [(3, .int (a3 + (0 : Int32))), (0, .ref (h 0)), (1, .int a1), (2, .int a2), (4, .int a4)]) hx hb dX8_start_129 rfl hl (Nat.le_of_ble_eq_true rfl) rfl (fun ls hl => ?_)
          refine lv_iinc (v := (a4 + (1 : Int32))) (lv' := [(4, .int (a4 + (1 : Int32))), (3, .int (a3 + (0 : Int32))), (0, .ref (h 0)), (1, .int a1), (2, .int a2)]) hx hb dX8_start_130 hl (k := 4) rfl (by rfl) (Nat.le_of_ble_eq_true rfl) rfl (fun ls hl => ?_)
          refine lv_goto (tgt := 106) hx hb dX8_start_133 (by decide) ?_
          exact ih a1 a2 (a3 + (0 : Int32)) (a4 + (1 : Int32)) σ hrun _ _ _ Y (lv_sub hl [2, 3, 4, 1, 0] rfl)
        · have hrun := o_f hrun c_16
          refine lv_iconst (v := (1 : Int32)) hx hb dX8_start_123 (by decide) ?_
          refine lv_goto (tgt := 128) hx hb dX8_start_124 (by decide) ?_
          refine lv_iadd hx hb dX8_start_128 ?_
          refine lv_istore_n (lv' := [(3, .int (a3 + (1 : Int32))), (0, .ref (h 0)), (1, .int a1), (2, .int a2), (4, .int a4)]) hx hb dX8_start_129 rfl hl (Nat.le_of_ble_eq_true rfl) rfl (fun ls hl => ?_)
          refine lv_iinc (v := (a4 + (1 : Int32))) (lv' := [(4, .int (a4 + (1 : Int32))), (3, .int (a3 + (1 : Int32))), (0, .ref (h 0)), (1, .int a1), (2, .int a2)]) hx hb dX8_start_130 hl (k := 4) rfl (by rfl) (Nat.le_of_ble_eq_true rfl) rfl (fun ls hl => ?_)
          refine lv_goto (tgt := 106) hx hb dX8_start_133 (by decide) ?_
          exact ih a1 a2 (a3 + (1 : Int32)) (a4 + (1 : Int32)) σ hrun _ _ _ Y (lv_sub hl [2, 3, 4, 1, 0] rfl)
  unfold fX8_start at hrun
  refine lv_aload_n hx hb dX8_start_0 rfl (lv_at hl 0 rfl) ?_
  refine lv_iload_n hx hb dX8_start_1 rfl (lv_at hl 1 rfl) ?_
  obtain ⟨r_1, e_2, hrun⟩ := o_bh hrun
  refine cf_v (As := [.int p1]) (rest := []) S hK hA hZ Y hl.1 (mX8_isPlayer l D cI cC h σ p1 r_1 e_2) kX8_73 (T := TX8) (N := 11) rfl (q0 := 0) rfl ⟨Nat.le_of_ble_eq_true rfl, Nat.le_of_ble_eq_true rfl⟩ rfl rfl (Nat.le_of_ble_eq_true rfl) ⟨Nat.le_of_ble_eq_true rfl, Nat.le_of_ble_eq_true rfl⟩ dX8_start_2 (fun H locs Y => ?_)
  refine lv_if_ne (tgt := 12) hx hb dX8_start_5 (by decide) (fun c_3 => ?_) (fun c_3 => ?_)
  · have hrun := o_f hrun c_3
    refine lv_iload_n hx hb dX8_start_12 rfl (lv_at hl 2 rfl) ?_
    refine lv_iconst (v := (1 : Int32)) hx hb dX8_start_13 (by decide) ?_
    refine lv_bipush (v := (8 : Int32)) hx hb dX8_start_14 (by decide) ?_
    obtain ⟨r_4, e_5, hrun⟩ := o_bh hrun
    refine cp_s (As := [.int p2, .int (1 : Int32), .int (8 : Int32)]) (rest := []) S hK hA hZ Y hl.1 (mX8_in l D p2 (1 : Int32) (8 : Int32) r_4 e_5) kX8_26 ⟨Nat.le_of_ble_eq_true rfl, Nat.le_of_ble_eq_true rfl⟩ rfl rfl (Nat.le_of_ble_eq_true rfl) ⟨Nat.le_of_ble_eq_true rfl, Nat.le_of_ble_eq_true rfl⟩ dX8_start_16 (fun H locs Y => ?_)
    refine lv_if_ne (tgt := 26) hx hb dX8_start_19 (by decide) (fun c_6 => ?_) (fun c_6 => ?_)
    · have hrun := o_f hrun c_6
      refine lv_aload_n hx hb dX8_start_26 rfl (lv_at hl 0 rfl) ?_
      refine ig S hK Y fX8_7 0 rfl (v := .ref (h 1)) rfl dX8_start_27 ?_
      refine lv_bipush (v := (6 : Int32)) hx hb dX8_start_30 (by decide) ?_
      refine ia S hK Y 1 0 (f := (σ 1)) rfl rfl (show ¬ ((6 : Int32) < 0 ∨ 108 ≤ ((6 : Int32)).toNatClampNeg) by decide) dX8_start_32 ?_
      refine lv_if_gt (tgt := 46) hx hb dX8_start_33 (by decide) (fun c_7 => ?_) (fun c_7 => ?_)
      · have hrun := o_t hrun c_7
        refine lv_sipush (v := (-10003 : Int32)) hx hb dX8_start_46 (by decide) ?_
        cases hrun
        exact me_ri S hK Y hr hlk rfl dX8_start_49
      · have hrun := o_f hrun c_7
        refine lv_aload_n hx hb dX8_start_36 rfl (lv_at hl 0 rfl) ?_
        refine ig S hK Y fX8_7 0 rfl (v := .ref (h 1)) rfl dX8_start_37 ?_
        refine lv_iconst (v := (4 : Int32)) hx hb dX8_start_40 (by decide) ?_
        refine ia S hK Y 1 0 (f := (σ 1)) rfl rfl (show ¬ ((4 : Int32) < 0 ∨ 108 ≤ ((4 : Int32)).toNatClampNeg) by decide) dX8_start_41 ?_
        refine lv_iconst (v := (2 : Int32)) hx hb dX8_start_42 (by decide) ?_
        refine lv_icmp_ge (tgt := 50) hx hb dX8_start_43 (by decide) (fun c_8 => ?_) (fun c_8 => ?_)
        · have hrun := o_t hrun c_8
          refine lv_aload_n hx hb dX8_start_50 rfl (lv_at hl 0 rfl) ?_
          obtain ⟨σ9, e_10, hrun⟩ := o_bh hrun
          refine cf_vv (As := []) (rest := []) S hK hA hZ Y hl.1 (mX8_record l D cI cC h σ σ9 e_10) kX8_42 (T := TX8) (N := 11) rfl (q0 := 0) rfl ⟨Nat.le_of_ble_eq_true rfl, Nat.le_of_ble_eq_true rfl⟩ rfl rfl (Nat.le_of_ble_eq_true rfl) ⟨Nat.le_of_ble_eq_true rfl, Nat.le_of_ble_eq_true rfl⟩ dX8_start_51 (fun H locs Y => ?_)
          refine lv_aload_n hx hb dX8_start_54 rfl (lv_at hl 0 rfl) ?_
          refine ig S hK Y fX8_7 0 rfl (v := .ref (h 1)) rfl dX8_start_55 ?_
          refine lv_bipush (v := (6 : Int32)) hx hb dX8_start_58 (by decide) ?_
          refine lv_iconst (v := (1 : Int32)) hx hb dX8_start_60 (by decide) ?_
          refine iw S hK Y 1 0 (f := (σ9 1)) rfl rfl (show ¬ ((6 : Int32) < 0 ∨ 108 ≤ ((6 : Int32)).toNatClampNeg) by decide) (ws' := (wM cI cC h (sg_a σ9 1 (upd (σ9 1) ((6 : Int32)).toNatClampNeg (1 : Int32))))) (wM_a1 _ _ _) dX8_start_61 (fun H locs Y => ?_)
          refine lv_aload_n hx hb dX8_start_62 rfl (lv_at hl 0 rfl) ?_
          refine ig S hK Y fX8_7 0 rfl (v := .ref (h 1)) rfl dX8_start_63 ?_
          refine lv_bipush (v := (7 : Int32)) hx hb dX8_start_66 (by decide) ?_
          refine lv_iload_n hx hb dX8_start_68 rfl (lv_at hl 1 rfl) ?_
          refine iw S hK Y 1 0 (f := (upd (σ9 1) ((6 : Int32)).toNatClampNeg (1 : Int32))) rfl rfl (show ¬ ((7 : Int32) < 0 ∨ 108 ≤ ((7 : Int32)).toNatClampNeg) by decide) (ws' := (wM cI cC h (sg_a (sg_a σ9 1 (upd (σ9 1) ((6 : Int32)).toNatClampNeg (1 : Int32))) 1 (upd (upd (σ9 1) ((6 : Int32)).toNatClampNeg (1 : Int32)) ((7 : Int32)).toNatClampNeg p1)))) (wM_a1 _ _ _) dX8_start_69 (fun H locs Y => ?_)
          refine lv_aload_n hx hb dX8_start_70 rfl (lv_at hl 0 rfl) ?_
          refine ig S hK Y fX8_7 0 rfl (v := .ref (h 1)) rfl dX8_start_71 ?_
          refine lv_bipush (v := (8 : Int32)) hx hb dX8_start_74 (by decide) ?_
          refine lv_iload_n hx hb dX8_start_76 rfl (lv_at hl 2 rfl) ?_
          refine iw S hK Y 1 0 (f := (upd (upd (σ9 1) ((6 : Int32)).toNatClampNeg (1 : Int32)) ((7 : Int32)).toNatClampNeg p1)) rfl rfl (show ¬ ((8 : Int32) < 0 ∨ 108 ≤ ((8 : Int32)).toNatClampNeg) by decide) (ws' := (wM cI cC h (sg_a (sg_a (sg_a σ9 1 (upd (σ9 1) ((6 : Int32)).toNatClampNeg (1 : Int32))) 1 (upd (upd (σ9 1) ((6 : Int32)).toNatClampNeg (1 : Int32)) ((7 : Int32)).toNatClampNeg p1)) 1 (upd (upd (upd (σ9 1) ((6 : Int32)).toNatClampNeg (1 : Int32)) ((7 : Int32)).toNatClampNeg p1) ((8 : Int32)).toNatClampNeg p2)))) (wM_a1 _ _ _) dX8_start_77 (fun H locs Y => ?_)
          refine lv_aload_n hx hb dX8_start_78 rfl (lv_at hl 0 rfl) ?_
          refine ig S hK Y fX8_7 0 rfl (v := .ref (h 1)) rfl dX8_start_79 ?_
          refine lv_bipush (v := (9 : Int32)) hx hb dX8_start_82 (by decide) ?_
          refine lv_iconst (v := (0 : Int32)) hx hb dX8_start_84 (by decide) ?_
          refine iw S hK Y 1 0 (f := (upd (upd (upd (σ9 1) ((6 : Int32)).toNatClampNeg (1 : Int32)) ((7 : Int32)).toNatClampNeg p1) ((8 : Int32)).toNatClampNeg p2)) rfl rfl (show ¬ ((9 : Int32) < 0 ∨ 108 ≤ ((9 : Int32)).toNatClampNeg) by decide) (ws' := (wM cI cC h (sg_a (sg_a (sg_a (sg_a σ9 1 (upd (σ9 1) ((6 : Int32)).toNatClampNeg (1 : Int32))) 1 (upd (upd (σ9 1) ((6 : Int32)).toNatClampNeg (1 : Int32)) ((7 : Int32)).toNatClampNeg p1)) 1 (upd (upd (upd (σ9 1) ((6 : Int32)).toNatClampNeg (1 : Int32)) ((7 : Int32)).toNatClampNeg p1) ((8 : Int32)).toNatClampNeg p2)) 1 (upd (upd (upd (upd (σ9 1) ((6 : Int32)).toNatClampNeg (1 : Int32)) ((7 : Int32)).toNatClampNeg p1) ((8 : Int32)).toNatClampNeg p2) ((9 : Int32)).toNatClampNeg (0 : Int32))))) (wM_a1 _ _ _) dX8_start_85 (fun H locs Y => ?_)
          refine lv_aload_n hx hb dX8_start_86 rfl (lv_at hl 0 rfl) ?_
          refine ig S hK Y fX8_7 0 rfl (v := .ref (h 1)) rfl dX8_start_87 ?_
          refine lv_bipush (v := (10 : Int32)) hx hb dX8_start_90 (by decide) ?_
          refine lv_iconst (v := (0 : Int32)) hx hb dX8_start_92 (by decide) ?_
          refine iw S hK Y 1 0 (f := (upd (upd (upd (upd (σ9 1) ((6 : Int32)).toNatClampNeg (1 : Int32)) ((7 : Int32)).toNatClampNeg p1) ((8 : Int32)).toNatClampNeg p2) ((9 : Int32)).toNatClampNeg (0 : Int32))) rfl rfl (show ¬ ((10 : Int32) < 0 ∨ 108 ≤ ((10 : Int32)).toNatClampNeg) by decide) (ws' := (wM cI cC h (sg_a (sg_a (sg_a (sg_a (sg_a σ9 1 (upd (σ9 1) ((6 : Int32)).toNatClampNeg (1 : Int32))) 1 (upd (upd (σ9 1) ((6 : Int32)).toNatClampNeg (1 : Int32)) ((7 : Int32)).toNatClampNeg p1)) 1 (upd (upd (upd (σ9 1) ((6 : Int32)).toNatClampNeg (1 : Int32)) ((7 : Int32)).toNatClampNeg p1) ((8 : Int32)).toNatClampNeg p2)) 1 (upd (upd (upd (upd (σ9 1) ((6 : Int32)).toNatClampNeg (1 : Int32)) ((7 : Int32)).toNatClampNeg p1) ((8 : Int32)).toNatClampNeg p2) ((9 : Int32)).toNatClampNeg (0 : Int32))) 1 (upd (upd (upd (upd (upd (σ9 1) ((6 : Int32)).toNatClampNeg (1 : Int32)) ((7 : Int32)).toNatClampNeg p1) ((8 : Int32)).toNatClampNeg p2) ((9 : Int32)).toNatClampNeg (0 : Int32)) ((10 : Int32)).toNatClampNeg (0 : Int32))))) (wM_a1 _ _ _) dX8_start_93 (fun H locs Y => ?_)
          refine lv_aload_n hx hb dX8_start_94 rfl (lv_at hl 0 rfl) ?_
          refine lv_iload_n hx hb dX8_start_95 rfl (lv_at hl 1 rfl) ?_
          refine lv_iconst (v := (1 : Int32)) hx hb dX8_start_96 (by decide) ?_
          refine lv_iconst (v := (1 : Int32)) hx hb dX8_start_97 (by decide) ?_
          obtain ⟨σ11, e_12, hrun⟩ := o_bh hrun
          refine cf_vv (As := [.int p1, .int (1 : Int32), .int (1 : Int32)]) (rest := []) S hK hA hZ Y hl.1 (mX8_adds l D cI cC h (sg_a (sg_a (sg_a (sg_a (sg_a σ9 1 (upd (σ9 1) ((6 : Int32)).toNatClampNeg (1 : Int32))) 1 (upd (upd (σ9 1) ((6 : Int32)).toNatClampNeg (1 : Int32)) ((7 : Int32)).toNatClampNeg p1)) 1 (upd (upd (upd (σ9 1) ((6 : Int32)).toNatClampNeg (1 : Int32)) ((7 : Int32)).toNatClampNeg p1) ((8 : Int32)).toNatClampNeg p2)) 1 (upd (upd (upd (upd (σ9 1) ((6 : Int32)).toNatClampNeg (1 : Int32)) ((7 : Int32)).toNatClampNeg p1) ((8 : Int32)).toNatClampNeg p2) ((9 : Int32)).toNatClampNeg (0 : Int32))) 1 (upd (upd (upd (upd (upd (σ9 1) ((6 : Int32)).toNatClampNeg (1 : Int32)) ((7 : Int32)).toNatClampNeg p1) ((8 : Int32)).toNatClampNeg p2) ((9 : Int32)).toNatClampNeg (0 : Int32)) ((10 : Int32)).toNatClampNeg (0 : Int32))) p1 (1 : Int32) (1 : Int32) σ11 e_12) kX8_76 (T := TX8) (N := 11) rfl (q0 := 0) rfl ⟨Nat.le_of_ble_eq_true rfl, Nat.le_of_ble_eq_true rfl⟩ rfl rfl (Nat.le_of_ble_eq_true rfl) ⟨Nat.le_of_ble_eq_true rfl, Nat.le_of_ble_eq_true rfl⟩ dX8_start_98 (fun H locs Y => ?_)
          refine lv_iconst (v := (0 : Int32)) hx hb dX8_start_101 (by decide) ?_
          refine lv_istore_n (lv' := [(3, .int (0 : Int32)), (0, .ref (h 0)), (1, .int p1), (2, .int p2)]) hx hb dX8_start_102 rfl hl (Nat.le_of_ble_eq_true rfl) rfl (fun ls hl => ?_)
          refine lv_iconst (v := (0 : Int32)) hx hb dX8_start_103 (by decide) ?_
          refine lv_istore (lv' := [(4, .int (0 : Int32)), (3, .int (0 : Int32)), (0, .ref (h 0)), (1, .int p1), (2, .int p2)]) hx hb dX8_start_104 hl (Nat.le_of_ble_eq_true rfl) rfl (fun ls hl => ?_)
          exact lp106 70 p1 p2 (0 : Int32) (0 : Int32) σ11 hrun _ _ _ Y (lv_sub hl [2, 3, 4, 1, 0] rfl)
        · have hrun := o_f hrun c_8
          refine lv_sipush (v := (-10003 : Int32)) hx hb dX8_start_46 (by decide) ?_
          cases hrun
          exact me_ri S hK Y hr hlk rfl dX8_start_49
    · have hrun := o_t hrun c_6
      refine lv_sipush (v := (-10002 : Int32)) hx hb dX8_start_22 (by decide) ?_
      cases hrun
      exact me_ri S hK Y hr hlk rfl dX8_start_25
  · have hrun := o_t hrun c_3
    refine lv_sipush (v := (-10001 : Int32)) hx hb dX8_start_8 (by decide) ?_
    cases hrun
    exact me_ri S hK Y hr hlk rfl dX8_start_11
def fX8_whyNotHide (p1 p2 : Int32) (σ : sg_T) : Option (Int32) := ((fX8_isPlayer p1 σ).bind fun r_1 => (if r_1 = 0 then (some (-10001 : Int32)) else ((fX8_isSpot p2).bind fun r_4 => (if r_4 = 0 then (some (-10001 : Int32)) else (if ((σ 1) ((6 : Int32)).toNatClampNeg) = (1 : Int32) then (if p1 = ((σ 1) ((7 : Int32)).toNatClampNeg) then (some (-10003 : Int32)) else ((fX8_of p1 (5 : Int32) σ).bind fun r_9 => (if r_9 = (-10006 : Int32) then ((fX8_isGood p2 σ).bind fun r_12 => (if r_12 = 0 then (some (-10003 : Int32)) else ((fX8_hidersAt p2 σ).bind fun r_15 => ((fX8_bits r_15).bind fun r_17 => (if r_17 = (2 : Int32) then (some (-10004 : Int32)) else (some (0 : Int32))))))) else (some (-10003 : Int32))))) else (some (-10003 : Int32)))))))
set_option maxRecDepth 100000 in
set_option maxHeartbeats 4000000 in
theorem mX8_whyNotHide (l : Launch) (D : va_G) (cI cC : ClassId) (h : Nat → Nat) (σ : sg_T) (p1 p2 : Int32) (r : Int32) (hrun : fX8_whyNotHide p1 p2 σ = some r) : me_I l D (tM cI cC) yX8_whyNotHide cX8_whyNotHide 3 .int 3 64 (wM cI cC h σ) [.ref (h 0), .int p1, .int p2] r (wM cI cC h σ) := by
  refine me_ofI (plainFor_of_name (by decide)) (Nat.le_of_ble_eq_true rfl) ?_
  intro p e s m args below meth c A ls S hK Y hA hl hr hlk hZ
  have hx := S.1
  have hb := S.2.1
  have hl : lv_has ls 3 [(0, .ref (h 0)), (1, .int p1), (2, .int p2)] := hl
  unfold fX8_whyNotHide at hrun
  refine lv_aload_n hx hb dX8_whyNotHide_0 rfl (lv_at hl 0 rfl) ?_
  refine lv_iload_n hx hb dX8_whyNotHide_1 rfl (lv_at hl 1 rfl) ?_
  obtain ⟨r_1, e_2, hrun⟩ := o_bh hrun
  refine cf_v (As := [.int p1]) (rest := []) S hK hA hZ Y hl.1 (mX8_isPlayer l D cI cC h σ p1 r_1 e_2) kX8_73 (T := TX8) (N := 11) rfl (q0 := 0) rfl ⟨Nat.le_of_ble_eq_true rfl, Nat.le_of_ble_eq_true rfl⟩ rfl rfl (Nat.le_of_ble_eq_true rfl) ⟨Nat.le_of_ble_eq_true rfl, Nat.le_of_ble_eq_true rfl⟩ dX8_whyNotHide_2 (fun H locs Y => ?_)
  refine lv_if_eq (tgt := 15) hx hb dX8_whyNotHide_5 (by decide) (fun c_3 => ?_) (fun c_3 => ?_)
  · have hrun := o_t hrun c_3
    refine lv_sipush (v := (-10001 : Int32)) hx hb dX8_whyNotHide_15 (by decide) ?_
    cases hrun
    exact me_ri S hK Y hr hlk rfl dX8_whyNotHide_18
  · have hrun := o_f hrun c_3
    refine lv_iload_n hx hb dX8_whyNotHide_8 rfl (lv_at hl 2 rfl) ?_
    obtain ⟨r_4, e_5, hrun⟩ := o_bh hrun
    refine cp_s (As := [.int p2]) (rest := []) S hK hA hZ Y hl.1 (mX8_isSpot l D p2 r_4 e_5) kX8_83 ⟨Nat.le_of_ble_eq_true rfl, Nat.le_of_ble_eq_true rfl⟩ rfl rfl (Nat.le_of_ble_eq_true rfl) ⟨Nat.le_of_ble_eq_true rfl, Nat.le_of_ble_eq_true rfl⟩ dX8_whyNotHide_9 (fun H locs Y => ?_)
    refine lv_if_ne (tgt := 19) hx hb dX8_whyNotHide_12 (by decide) (fun c_6 => ?_) (fun c_6 => ?_)
    · have hrun := o_f hrun c_6
      refine lv_aload_n hx hb dX8_whyNotHide_19 rfl (lv_at hl 0 rfl) ?_
      refine ig S hK Y fX8_7 0 rfl (v := .ref (h 1)) rfl dX8_whyNotHide_20 ?_
      refine lv_bipush (v := (6 : Int32)) hx hb dX8_whyNotHide_23 (by decide) ?_
      refine ia S hK Y 1 0 (f := (σ 1)) rfl rfl (show ¬ ((6 : Int32) < 0 ∨ 108 ≤ ((6 : Int32)).toNatClampNeg) by decide) dX8_whyNotHide_25 ?_
      refine lv_iconst (v := (1 : Int32)) hx hb dX8_whyNotHide_26 (by decide) ?_
      refine lv_icmp_ne (tgt := 61) hx hb dX8_whyNotHide_27 (by decide) (fun c_7 => ?_) (fun c_7 => ?_)
      · have hrun := o_f hrun c_7
        refine lv_sipush (v := (-10003 : Int32)) hx hb dX8_whyNotHide_61 (by decide) ?_
        cases hrun
        exact me_ri S hK Y hr hlk rfl dX8_whyNotHide_64
      · have hrun := o_t hrun c_7
        refine lv_iload_n hx hb dX8_whyNotHide_30 rfl (lv_at hl 1 rfl) ?_
        refine lv_aload_n hx hb dX8_whyNotHide_31 rfl (lv_at hl 0 rfl) ?_
        refine ig S hK Y fX8_7 0 rfl (v := .ref (h 1)) rfl dX8_whyNotHide_32 ?_
        refine lv_bipush (v := (7 : Int32)) hx hb dX8_whyNotHide_35 (by decide) ?_
        refine ia S hK Y 1 0 (f := (σ 1)) rfl rfl (show ¬ ((7 : Int32) < 0 ∨ 108 ≤ ((7 : Int32)).toNatClampNeg) by decide) dX8_whyNotHide_37 ?_
        refine lv_icmp_eq (tgt := 61) hx hb dX8_whyNotHide_38 (by decide) (fun c_8 => ?_) (fun c_8 => ?_)
        · have hrun := o_t hrun c_8
          refine lv_sipush (v := (-10003 : Int32)) hx hb dX8_whyNotHide_61 (by decide) ?_
          cases hrun
          exact me_ri S hK Y hr hlk rfl dX8_whyNotHide_64
        · have hrun := o_f hrun c_8
          refine lv_aload_n hx hb dX8_whyNotHide_41 rfl (lv_at hl 0 rfl) ?_
          refine lv_iload_n hx hb dX8_whyNotHide_42 rfl (lv_at hl 1 rfl) ?_
          refine lv_iconst (v := (5 : Int32)) hx hb dX8_whyNotHide_43 (by decide) ?_
          obtain ⟨r_9, e_10, hrun⟩ := o_bh hrun
          refine cf_v (As := [.int p1, .int (5 : Int32)]) (rest := []) S hK hA hZ Y hl.1 (mX8_of l D cI cC h σ p1 (5 : Int32) r_9 e_10) kX8_53 (T := TX8) (N := 11) rfl (q0 := 0) rfl ⟨Nat.le_of_ble_eq_true rfl, Nat.le_of_ble_eq_true rfl⟩ rfl rfl (Nat.le_of_ble_eq_true rfl) ⟨Nat.le_of_ble_eq_true rfl, Nat.le_of_ble_eq_true rfl⟩ dX8_whyNotHide_44 (fun H locs Y => ?_)
          refine lv_sipush (v := (-10006 : Int32)) hx hb dX8_whyNotHide_47 (by decide) ?_
          refine lv_icmp_ne (tgt := 61) hx hb dX8_whyNotHide_50 (by decide) (fun c_11 => ?_) (fun c_11 => ?_)
          · have hrun := o_f hrun c_11
            refine lv_sipush (v := (-10003 : Int32)) hx hb dX8_whyNotHide_61 (by decide) ?_
            cases hrun
            exact me_ri S hK Y hr hlk rfl dX8_whyNotHide_64
          · have hrun := o_t hrun c_11
            refine lv_aload_n hx hb dX8_whyNotHide_53 rfl (lv_at hl 0 rfl) ?_
            refine lv_iload_n hx hb dX8_whyNotHide_54 rfl (lv_at hl 2 rfl) ?_
            obtain ⟨r_12, e_13, hrun⟩ := o_bh hrun
            refine cf_v (As := [.int p2]) (rest := []) S hK hA hZ Y hl.1 (mX8_isGood l D cI cC h σ p2 r_12 e_13) kX8_63 (T := TX8) (N := 11) rfl (q0 := 0) rfl ⟨Nat.le_of_ble_eq_true rfl, Nat.le_of_ble_eq_true rfl⟩ rfl rfl (Nat.le_of_ble_eq_true rfl) ⟨Nat.le_of_ble_eq_true rfl, Nat.le_of_ble_eq_true rfl⟩ dX8_whyNotHide_55 (fun H locs Y => ?_)
            refine lv_if_ne (tgt := 65) hx hb dX8_whyNotHide_58 (by decide) (fun c_14 => ?_) (fun c_14 => ?_)
            · have hrun := o_f hrun c_14
              refine lv_aload_n hx hb dX8_whyNotHide_65 rfl (lv_at hl 0 rfl) ?_
              refine lv_iload_n hx hb dX8_whyNotHide_66 rfl (lv_at hl 2 rfl) ?_
              obtain ⟨r_15, e_16, hrun⟩ := o_bh hrun
              refine cf_v (As := [.int p2]) (rest := []) S hK hA hZ Y hl.1 (mX8_hidersAt l D cI cC h σ p2 r_15 e_16) kX8_66 (T := TX8) (N := 11) rfl (q0 := 0) rfl ⟨Nat.le_of_ble_eq_true rfl, Nat.le_of_ble_eq_true rfl⟩ rfl rfl (Nat.le_of_ble_eq_true rfl) ⟨Nat.le_of_ble_eq_true rfl, Nat.le_of_ble_eq_true rfl⟩ dX8_whyNotHide_67 (fun H locs Y => ?_)
              obtain ⟨r_17, e_18, hrun⟩ := o_bh hrun
              refine cp_s (As := [.int r_15]) (rest := []) S hK hA hZ Y hl.1 (mX8_bits l D r_15 r_17 e_18) kX8_70 ⟨Nat.le_of_ble_eq_true rfl, Nat.le_of_ble_eq_true rfl⟩ rfl rfl (Nat.le_of_ble_eq_true rfl) ⟨Nat.le_of_ble_eq_true rfl, Nat.le_of_ble_eq_true rfl⟩ dX8_whyNotHide_70 (fun H locs Y => ?_)
              refine lv_iconst (v := (2 : Int32)) hx hb dX8_whyNotHide_73 (by decide) ?_
              refine lv_icmp_ne (tgt := 83) hx hb dX8_whyNotHide_74 (by decide) (fun c_19 => ?_) (fun c_19 => ?_)
              · have hrun := o_f hrun c_19
                refine lv_iconst (v := (0 : Int32)) hx hb dX8_whyNotHide_83 (by decide) ?_
                cases hrun
                exact me_ri S hK Y hr hlk rfl dX8_whyNotHide_84
              · have hrun := o_t hrun c_19
                refine lv_sipush (v := (-10004 : Int32)) hx hb dX8_whyNotHide_77 (by decide) ?_
                refine lv_goto (tgt := 84) hx hb dX8_whyNotHide_80 (by decide) ?_
                cases hrun
                exact me_ri S hK Y hr hlk rfl dX8_whyNotHide_84
            · have hrun := o_t hrun c_14
              refine lv_sipush (v := (-10003 : Int32)) hx hb dX8_whyNotHide_61 (by decide) ?_
              cases hrun
              exact me_ri S hK Y hr hlk rfl dX8_whyNotHide_64
    · have hrun := o_t hrun c_6
      refine lv_sipush (v := (-10001 : Int32)) hx hb dX8_whyNotHide_15 (by decide) ?_
      cases hrun
      exact me_ri S hK Y hr hlk rfl dX8_whyNotHide_18
def fX8_hide (p1 p2 : Int32) (σ : sg_T) : Option (Int32 × sg_T) := ((fX8_whyNotHide p1 p2 σ).bind fun r_1 => (if 0 ≤ r_1 then ((fX8_record σ).bind fun σ4 => ((fX8_hides p1 p2 σ4).bind fun σ6 => ((fX8_distance p2 (0 : Int32)).bind fun r_8 => (some (r_8, σ6))))) else (some (r_1, σ))))
set_option maxRecDepth 100000 in
set_option maxHeartbeats 4000000 in
theorem mX8_hide (l : Launch) (D : va_G) (cI cC : ClassId) (h : Nat → Nat) (σ : sg_T) (p1 p2 : Int32) (r : Int32) (σ' : sg_T) (hrun : fX8_hide p1 p2 σ = some (r, σ')) : me_I l D (tM cI cC) yX8_hide cX8_hide 4 .int 4 86 (wM cI cC h σ) [.ref (h 0), .int p1, .int p2] r (wM cI cC h σ') := by
  refine me_ofI (plainFor_of_name (by decide)) (Nat.le_of_ble_eq_true rfl) ?_
  intro p e s m args below meth c A ls S hK Y hA hl hr hlk hZ
  have hx := S.1
  have hb := S.2.1
  have hl : lv_has ls 4 [(0, .ref (h 0)), (1, .int p1), (2, .int p2)] := hl
  unfold fX8_hide at hrun
  refine lv_aload_n hx hb dX8_hide_0 rfl (lv_at hl 0 rfl) ?_
  refine lv_iload_n hx hb dX8_hide_1 rfl (lv_at hl 1 rfl) ?_
  refine lv_iload_n hx hb dX8_hide_2 rfl (lv_at hl 2 rfl) ?_
  obtain ⟨r_1, e_2, hrun⟩ := o_bh hrun
  refine cf_v (As := [.int p1, .int p2]) (rest := []) S hK hA hZ Y hl.1 (mX8_whyNotHide l D cI cC h σ p1 p2 r_1 e_2) kX8_86 (T := TX8) (N := 11) rfl (q0 := 0) rfl ⟨Nat.le_of_ble_eq_true rfl, Nat.le_of_ble_eq_true rfl⟩ rfl rfl (Nat.le_of_ble_eq_true rfl) ⟨Nat.le_of_ble_eq_true rfl, Nat.le_of_ble_eq_true rfl⟩ dX8_hide_3 (fun H locs Y => ?_)
  refine lv_istore_n (lv' := [(3, .int r_1), (0, .ref (h 0)), (1, .int p1), (2, .int p2)]) hx hb dX8_hide_6 rfl hl (Nat.le_of_ble_eq_true rfl) rfl (fun ls hl => ?_)
  refine lv_iload_n hx hb dX8_hide_7 rfl (lv_at hl 0 rfl) ?_
  refine lv_if_ge (tgt := 13) hx hb dX8_hide_8 (by decide) (fun c_3 => ?_) (fun c_3 => ?_)
  · have hrun := o_t hrun c_3
    refine lv_aload_n hx hb dX8_hide_13 rfl (lv_at hl 1 rfl) ?_
    obtain ⟨σ4, e_5, hrun⟩ := o_bh hrun
    refine cf_vv (As := []) (rest := []) S hK hA hZ Y hl.1 (mX8_record l D cI cC h σ σ4 e_5) kX8_42 (T := TX8) (N := 11) rfl (q0 := 0) rfl ⟨Nat.le_of_ble_eq_true rfl, Nat.le_of_ble_eq_true rfl⟩ rfl rfl (Nat.le_of_ble_eq_true rfl) ⟨Nat.le_of_ble_eq_true rfl, Nat.le_of_ble_eq_true rfl⟩ dX8_hide_14 (fun H locs Y => ?_)
    refine lv_aload_n hx hb dX8_hide_17 rfl (lv_at hl 1 rfl) ?_
    refine lv_iload_n hx hb dX8_hide_18 rfl (lv_at hl 2 rfl) ?_
    refine lv_iload_n hx hb dX8_hide_19 rfl (lv_at hl 3 rfl) ?_
    obtain ⟨σ6, e_7, hrun⟩ := o_bh hrun
    refine cf_vv (As := [.int p1, .int p2]) (rest := []) S hK hA hZ Y hl.1 (mX8_hides l D cI cC h σ4 p1 p2 σ6 e_7) kX8_49 (T := TX8) (N := 11) rfl (q0 := 0) rfl ⟨Nat.le_of_ble_eq_true rfl, Nat.le_of_ble_eq_true rfl⟩ rfl rfl (Nat.le_of_ble_eq_true rfl) ⟨Nat.le_of_ble_eq_true rfl, Nat.le_of_ble_eq_true rfl⟩ dX8_hide_20 (fun H locs Y => ?_)
    refine lv_iload_n hx hb dX8_hide_23 rfl (lv_at hl 3 rfl) ?_
    refine lv_iconst (v := (0 : Int32)) hx hb dX8_hide_24 (by decide) ?_
    obtain ⟨r_8, e_9, hrun⟩ := o_bh hrun
    refine cp_s (As := [.int p2, .int (0 : Int32)]) (rest := []) S hK hA hZ Y hl.1 (mX8_distance l D p2 (0 : Int32) r_8 e_9) kX8_56 ⟨Nat.le_of_ble_eq_true rfl, Nat.le_of_ble_eq_true rfl⟩ rfl rfl (Nat.le_of_ble_eq_true rfl) ⟨Nat.le_of_ble_eq_true rfl, Nat.le_of_ble_eq_true rfl⟩ dX8_hide_25 (fun H locs Y => ?_)
    cases hrun
    exact me_ri S hK Y hr hlk rfl dX8_hide_28
  · have hrun := o_f hrun c_3
    refine lv_iload_n hx hb dX8_hide_11 rfl (lv_at hl 0 rfl) ?_
    cases hrun
    exact me_ri S hK Y hr hlk rfl dX8_hide_12
def lX8_ends_54 : Nat → Int32 → (sg_T) → Option (sg_T)
  | 0, _, _ => none
  | n + 1, a1, σ => (if (16 : Int32) ≤ a1 then (some (σ)) else ((fX8_isRetired a1 σ).bind fun r_3 => (if r_3 = 0 then (lX8_ends_54 n (a1 + (1 : Int32)) σ) else (if ((σ 1) ((2 : Int32)).toNatClampNeg) ≤ 0 then (lX8_ends_54 n (a1 + (1 : Int32)) σ) else ((fX8_ofSpot a1 (2 : Int32) σ).bind fun r_7 => (if (((σ 1) ((5 : Int32)).toNatClampNeg) - r_7) < ((σ 1) ((2 : Int32)).toNatClampNeg) then (lX8_ends_54 n (a1 + (1 : Int32)) σ) else (o_x ((60 : Int32) + ((3 : Int32) * a1)) 108 (o_x (((60 : Int32) + ((3 : Int32) * a1)) + (1 : Int32)) 108 (lX8_ends_54 n (a1 + (1 : Int32)) (sg_a (sg_a σ 1 (upd (σ 1) (((60 : Int32) + ((3 : Int32) * a1))).toNatClampNeg (0 : Int32))) 1 (upd (upd (σ 1) (((60 : Int32) + ((3 : Int32) * a1))).toNatClampNeg (0 : Int32)) ((((60 : Int32) + ((3 : Int32) * a1)) + (1 : Int32))).toNatClampNeg (0 : Int32))))))))))))
def lX8_ends_28 : Nat → Int32 → (sg_T) → Option (sg_T)
  | 0, _, _ => none
  | n + 1, a1, σ => (if ((σ 1) ((4 : Int32)).toNatClampNeg) ≤ a1 then (lX8_ends_54 70 (0 : Int32) σ) else ((fX8_hides a1 (-10006 : Int32) σ).bind fun σ12 => (lX8_ends_28 n (a1 + (1 : Int32)) σ12)))
def fX8_ends (σ : sg_T) : Option (sg_T) := (lX8_ends_28 70 (0 : Int32) (sg_a (sg_a (sg_a σ 1 (upd (σ 1) ((6 : Int32)).toNatClampNeg (0 : Int32))) 1 (upd (upd (σ 1) ((6 : Int32)).toNatClampNeg (0 : Int32)) ((10 : Int32)).toNatClampNeg (0 : Int32))) 1 (upd (upd (upd (σ 1) ((6 : Int32)).toNatClampNeg (0 : Int32)) ((10 : Int32)).toNatClampNeg (0 : Int32)) ((5 : Int32)).toNatClampNeg (((upd (upd (σ 1) ((6 : Int32)).toNatClampNeg (0 : Int32)) ((10 : Int32)).toNatClampNeg (0 : Int32)) ((5 : Int32)).toNatClampNeg) + (1 : Int32)))))
set_option maxRecDepth 100000 in
set_option maxHeartbeats 4000000 in
theorem mX8_ends (l : Launch) (D : va_G) (cI cC : ClassId) (h : Nat → Nat) (σ : sg_T) (σ' : sg_T) (hrun : fX8_ends σ = some σ') : me_V l D (tM cI cC) yX8_ends cX8_ends 2 2 43 (wM cI cC h σ) [.ref (h 0)] (wM cI cC h σ') := by
  refine me_ofV (plainFor_of_name (by decide)) (Nat.le_of_ble_eq_true rfl) ?_
  intro p e s m args below meth c A ls S hK Y hA hl hr hlk hZ
  have hx := S.1
  have hb := S.2.1
  have hl : lv_has ls 2 [(0, .ref (h 0))] := hl
  have lp54 : ∀ (n : Nat) (a1 : Int32) (σ : sg_T), lX8_ends_54 n a1 σ = some σ' → ∀ (H : Heap) (locs : List Loc) (ls : Array Slot), dy_ D A s (wM cI cC h σ) H locs → lv_has ls 2 [(0, .ref (h 0)), (1, .int a1)] → W p l e (rm_ 2 43) s m args below meth c H locs 0 0 (MQ below (me_Qv D (tM cI cC) A (wM cI cC h σ')) args s 0 0 A) (F0 m 54 ls []) := by
    intro n
    induction n with
    | zero => intro a1 σ hrun; cases hrun
    | succ n ih =>
      intro a1 σ hrun H locs ls Y hl
      unfold lX8_ends_54 at hrun
      refine lv_iload_n hx hb dX8_ends_54 rfl (lv_at hl 1 rfl) ?_
      refine lv_bipush (v := (16 : Int32)) hx hb dX8_ends_55 (by decide) ?_
      refine lv_icmp_ge (tgt := 131) hx hb dX8_ends_57 (by decide) (fun c_2 => ?_) (fun c_2 => ?_)
      · have hrun := o_t hrun c_2
        cases hrun
        exact me_rv S hK Y hr hlk dX8_ends_131
      · have hrun := o_f hrun c_2
        refine lv_aload_n hx hb dX8_ends_60 rfl (lv_at hl 0 rfl) ?_
        refine lv_iload_n hx hb dX8_ends_61 rfl (lv_at hl 1 rfl) ?_
        obtain ⟨r_3, e_4, hrun⟩ := o_bh hrun
        refine cf_v (As := [.int a1]) (rest := []) S hK hA hZ Y hl.1 (mX8_isRetired l D cI cC h σ a1 r_3 e_4) kX8_59 (T := TX8) (N := 11) rfl (q0 := 0) rfl ⟨Nat.le_of_ble_eq_true rfl, Nat.le_of_ble_eq_true rfl⟩ rfl rfl (Nat.le_of_ble_eq_true rfl) ⟨Nat.le_of_ble_eq_true rfl, Nat.le_of_ble_eq_true rfl⟩ dX8_ends_62 (fun H locs Y => ?_)
        refine lv_if_eq (tgt := 125) hx hb dX8_ends_65 (by decide) (fun c_5 => ?_) (fun c_5 => ?_)
        · have hrun := o_t hrun c_5
          refine lv_iinc (v := (a1 + (1 : Int32))) (lv' := [(1, .int (a1 + (1 : Int32))), (0, .ref (h 0))]) hx hb dX8_ends_125 hl (k := 1) rfl (by rfl) (Nat.le_of_ble_eq_true rfl) rfl (fun ls hl => ?_)
          refine lv_goto (tgt := 54) hx hb dX8_ends_128 (by decide) ?_
          exact ih (a1 + (1 : Int32)) σ hrun _ _ _ Y (lv_sub hl [1, 0] rfl)
        · have hrun := o_f hrun c_5
          refine lv_aload_n hx hb dX8_ends_68 rfl (lv_at hl 0 rfl) ?_
          refine ig S hK Y fX8_7 0 rfl (v := .ref (h 1)) rfl dX8_ends_69 ?_
          refine lv_iconst (v := (2 : Int32)) hx hb dX8_ends_72 (by decide) ?_
          refine ia S hK Y 1 0 (f := (σ 1)) rfl rfl (show ¬ ((2 : Int32) < 0 ∨ 108 ≤ ((2 : Int32)).toNatClampNeg) by decide) dX8_ends_73 ?_
          refine lv_if_le (tgt := 125) hx hb dX8_ends_74 (by decide) (fun c_6 => ?_) (fun c_6 => ?_)
          · have hrun := o_t hrun c_6
            refine lv_iinc (v := (a1 + (1 : Int32))) (lv' := [(1, .int (a1 + (1 : Int32))), (0, .ref (h 0))]) hx hb dX8_ends_125 hl (k := 1) rfl (by rfl) (Nat.le_of_ble_eq_true rfl) rfl (fun ls hl => ?_)
            refine lv_goto (tgt := 54) hx hb dX8_ends_128 (by decide) ?_
            exact ih (a1 + (1 : Int32)) σ hrun _ _ _ Y (lv_sub hl [1, 0] rfl)
          · have hrun := o_f hrun c_6
            refine lv_aload_n hx hb dX8_ends_77 rfl (lv_at hl 0 rfl) ?_
            refine ig S hK Y fX8_7 0 rfl (v := .ref (h 1)) rfl dX8_ends_78 ?_
            refine lv_iconst (v := (5 : Int32)) hx hb dX8_ends_81 (by decide) ?_
            refine ia S hK Y 1 0 (f := (σ 1)) rfl rfl (show ¬ ((5 : Int32) < 0 ∨ 108 ≤ ((5 : Int32)).toNatClampNeg) by decide) dX8_ends_82 ?_
            refine lv_aload_n hx hb dX8_ends_83 rfl (lv_at hl 0 rfl) ?_
            refine lv_iload_n hx hb dX8_ends_84 rfl (lv_at hl 1 rfl) ?_
            refine lv_iconst (v := (2 : Int32)) hx hb dX8_ends_85 (by decide) ?_
            obtain ⟨r_7, e_8, hrun⟩ := o_bh hrun
            refine cf_v (As := [.int a1, .int (2 : Int32)]) (rest := [.int ((σ 1) ((5 : Int32)).toNatClampNeg)]) S hK hA hZ Y hl.1 (mX8_ofSpot l D cI cC h σ a1 (2 : Int32) r_7 e_8) kX8_30 (T := TX8) (N := 11) rfl (q0 := 0) rfl ⟨Nat.le_of_ble_eq_true rfl, Nat.le_of_ble_eq_true rfl⟩ rfl rfl (Nat.le_of_ble_eq_true rfl) ⟨Nat.le_of_ble_eq_true rfl, Nat.le_of_ble_eq_true rfl⟩ dX8_ends_86 (fun H locs Y => ?_)
            refine lv_isub hx hb dX8_ends_89 ?_
            refine lv_aload_n hx hb dX8_ends_90 rfl (lv_at hl 0 rfl) ?_
            refine ig S hK Y fX8_7 0 rfl (v := .ref (h 1)) rfl dX8_ends_91 ?_
            refine lv_iconst (v := (2 : Int32)) hx hb dX8_ends_94 (by decide) ?_
            refine ia S hK Y 1 0 (f := (σ 1)) rfl rfl (show ¬ ((2 : Int32) < 0 ∨ 108 ≤ ((2 : Int32)).toNatClampNeg) by decide) dX8_ends_95 ?_
            refine lv_icmp_lt (tgt := 125) hx hb dX8_ends_96 (by decide) (fun c_9 => ?_) (fun c_9 => ?_)
            · have hrun := o_t hrun c_9
              refine lv_iinc (v := (a1 + (1 : Int32))) (lv' := [(1, .int (a1 + (1 : Int32))), (0, .ref (h 0))]) hx hb dX8_ends_125 hl (k := 1) rfl (by rfl) (Nat.le_of_ble_eq_true rfl) rfl (fun ls hl => ?_)
              refine lv_goto (tgt := 54) hx hb dX8_ends_128 (by decide) ?_
              exact ih (a1 + (1 : Int32)) σ hrun _ _ _ Y (lv_sub hl [1, 0] rfl)
            · have hrun := o_f hrun c_9
              refine lv_aload_n hx hb dX8_ends_99 rfl (lv_at hl 0 rfl) ?_
              refine ig S hK Y fX8_7 0 rfl (v := .ref (h 1)) rfl dX8_ends_100 ?_
              refine lv_bipush (v := (60 : Int32)) hx hb dX8_ends_103 (by decide) ?_
              refine lv_iconst (v := (3 : Int32)) hx hb dX8_ends_105 (by decide) ?_
              refine lv_iload_n hx hb dX8_ends_106 rfl (lv_at hl 1 rfl) ?_
              refine lv_imul hx hb dX8_ends_107 ?_
              refine lv_iadd hx hb dX8_ends_108 ?_
              refine lv_iconst (v := (0 : Int32)) hx hb dX8_ends_109 (by decide) ?_
              obtain ⟨b_10, hrun⟩ := o_xh hrun
              refine iw S hK Y 1 0 (f := (σ 1)) rfl rfl b_10 (ws' := (wM cI cC h (sg_a σ 1 (upd (σ 1) (((60 : Int32) + ((3 : Int32) * a1))).toNatClampNeg (0 : Int32))))) (wM_a1 _ _ _) dX8_ends_110 (fun H locs Y => ?_)
              refine lv_aload_n hx hb dX8_ends_111 rfl (lv_at hl 0 rfl) ?_
              refine ig S hK Y fX8_7 0 rfl (v := .ref (h 1)) rfl dX8_ends_112 ?_
              refine lv_bipush (v := (60 : Int32)) hx hb dX8_ends_115 (by decide) ?_
              refine lv_iconst (v := (3 : Int32)) hx hb dX8_ends_117 (by decide) ?_
              refine lv_iload_n hx hb dX8_ends_118 rfl (lv_at hl 1 rfl) ?_
              refine lv_imul hx hb dX8_ends_119 ?_
              refine lv_iadd hx hb dX8_ends_120 ?_
              refine lv_iconst (v := (1 : Int32)) hx hb dX8_ends_121 (by decide) ?_
              refine lv_iadd hx hb dX8_ends_122 ?_
              refine lv_iconst (v := (0 : Int32)) hx hb dX8_ends_123 (by decide) ?_
              obtain ⟨b_11, hrun⟩ := o_xh hrun
              refine iw S hK Y 1 0 (f := (upd (σ 1) (((60 : Int32) + ((3 : Int32) * a1))).toNatClampNeg (0 : Int32))) rfl rfl b_11 (ws' := (wM cI cC h (sg_a (sg_a σ 1 (upd (σ 1) (((60 : Int32) + ((3 : Int32) * a1))).toNatClampNeg (0 : Int32))) 1 (upd (upd (σ 1) (((60 : Int32) + ((3 : Int32) * a1))).toNatClampNeg (0 : Int32)) ((((60 : Int32) + ((3 : Int32) * a1)) + (1 : Int32))).toNatClampNeg (0 : Int32))))) (wM_a1 _ _ _) dX8_ends_124 (fun H locs Y => ?_)
              refine lv_iinc (v := (a1 + (1 : Int32))) (lv' := [(1, .int (a1 + (1 : Int32))), (0, .ref (h 0))]) hx hb dX8_ends_125 hl (k := 1) rfl (by rfl) (Nat.le_of_ble_eq_true rfl) rfl (fun ls hl => ?_)
              refine lv_goto (tgt := 54) hx hb dX8_ends_128 (by decide) ?_
              exact ih (a1 + (1 : Int32)) (sg_a (sg_a σ 1 (upd (σ 1) (((60 : Int32) + ((3 : Int32) * a1))).toNatClampNeg (0 : Int32))) 1 (upd (upd (σ 1) (((60 : Int32) + ((3 : Int32) * a1))).toNatClampNeg (0 : Int32)) ((((60 : Int32) + ((3 : Int32) * a1)) + (1 : Int32))).toNatClampNeg (0 : Int32))) hrun _ _ _ Y (lv_sub hl [1, 0] rfl)
  have lp28 : ∀ (n : Nat) (a1 : Int32) (σ : sg_T), lX8_ends_28 n a1 σ = some σ' → ∀ (H : Heap) (locs : List Loc) (ls : Array Slot), dy_ D A s (wM cI cC h σ) H locs → lv_has ls 2 [(0, .ref (h 0)), (1, .int a1)] → W p l e (rm_ 2 43) s m args below meth c H locs 0 0 (MQ below (me_Qv D (tM cI cC) A (wM cI cC h σ')) args s 0 0 A) (F0 m 28 ls []) := by
    intro n
    induction n with
    | zero => intro a1 σ hrun; cases hrun
    | succ n ih =>
      intro a1 σ hrun H locs ls Y hl
      unfold lX8_ends_28 at hrun
      refine lv_iload_n hx hb dX8_ends_28 rfl (lv_at hl 1 rfl) ?_
      refine lv_aload_n hx hb dX8_ends_29 rfl (lv_at hl 0 rfl) ?_
      refine ig S hK Y fX8_7 0 rfl (v := .ref (h 1)) rfl dX8_ends_30 ?_
      refine lv_iconst (v := (4 : Int32)) hx hb dX8_ends_33 (by decide) ?_
      refine ia S hK Y 1 0 (f := (σ 1)) rfl rfl (show ¬ ((4 : Int32) < 0 ∨ 108 ≤ ((4 : Int32)).toNatClampNeg) by decide) dX8_ends_34 ?_
      refine lv_icmp_ge (tgt := 52) hx hb dX8_ends_35 (by decide) (fun c_1 => ?_) (fun c_1 => ?_)
      · have hrun := o_t hrun c_1
        refine lv_iconst (v := (0 : Int32)) hx hb dX8_ends_52 (by decide) ?_
        refine lv_istore_n (lv' := [(1, .int (0 : Int32)), (0, .ref (h 0))]) hx hb dX8_ends_53 rfl hl (Nat.le_of_ble_eq_true rfl) rfl (fun ls hl => ?_)
        exact lp54 70 (0 : Int32) σ hrun _ _ _ Y (lv_sub hl [1, 0] rfl)
      · have hrun := o_f hrun c_1
        refine lv_aload_n hx hb dX8_ends_38 rfl (lv_at hl 0 rfl) ?_
        refine lv_iload_n hx hb dX8_ends_39 rfl (lv_at hl 1 rfl) ?_
        refine lv_sipush (v := (-10006 : Int32)) hx hb dX8_ends_40 (by decide) ?_
        obtain ⟨σ12, e_13, hrun⟩ := o_bh hrun
        refine cf_vv (As := [.int a1, .int (-10006 : Int32)]) (rest := []) S hK hA hZ Y hl.1 (mX8_hides l D cI cC h σ a1 (-10006 : Int32) σ12 e_13) kX8_49 (T := TX8) (N := 11) rfl (q0 := 0) rfl ⟨Nat.le_of_ble_eq_true rfl, Nat.le_of_ble_eq_true rfl⟩ rfl rfl (Nat.le_of_ble_eq_true rfl) ⟨Nat.le_of_ble_eq_true rfl, Nat.le_of_ble_eq_true rfl⟩ dX8_ends_43 (fun H locs Y => ?_)
        refine lv_iinc (v := (a1 + (1 : Int32))) (lv' := [(1, .int (a1 + (1 : Int32))), (0, .ref (h 0))]) hx hb dX8_ends_46 hl (k := 1) rfl (by rfl) (Nat.le_of_ble_eq_true rfl) rfl (fun ls hl => ?_)
        refine lv_goto (tgt := 28) hx hb dX8_ends_49 (by decide) ?_
        exact ih (a1 + (1 : Int32)) σ12 hrun _ _ _ Y (lv_sub hl [1, 0] rfl)
  unfold fX8_ends at hrun
  refine lv_aload_n hx hb dX8_ends_0 rfl (lv_at hl 0 rfl) ?_
  refine ig S hK Y fX8_7 0 rfl (v := .ref (h 1)) rfl dX8_ends_1 ?_
  refine lv_bipush (v := (6 : Int32)) hx hb dX8_ends_4 (by decide) ?_
  refine lv_iconst (v := (0 : Int32)) hx hb dX8_ends_6 (by decide) ?_
  refine iw S hK Y 1 0 (f := (σ 1)) rfl rfl (show ¬ ((6 : Int32) < 0 ∨ 108 ≤ ((6 : Int32)).toNatClampNeg) by decide) (ws' := (wM cI cC h (sg_a σ 1 (upd (σ 1) ((6 : Int32)).toNatClampNeg (0 : Int32))))) (wM_a1 _ _ _) dX8_ends_7 (fun H locs Y => ?_)
  refine lv_aload_n hx hb dX8_ends_8 rfl (lv_at hl 0 rfl) ?_
  refine ig S hK Y fX8_7 0 rfl (v := .ref (h 1)) rfl dX8_ends_9 ?_
  refine lv_bipush (v := (10 : Int32)) hx hb dX8_ends_12 (by decide) ?_
  refine lv_iconst (v := (0 : Int32)) hx hb dX8_ends_14 (by decide) ?_
  refine iw S hK Y 1 0 (f := (upd (σ 1) ((6 : Int32)).toNatClampNeg (0 : Int32))) rfl rfl (show ¬ ((10 : Int32) < 0 ∨ 108 ≤ ((10 : Int32)).toNatClampNeg) by decide) (ws' := (wM cI cC h (sg_a (sg_a σ 1 (upd (σ 1) ((6 : Int32)).toNatClampNeg (0 : Int32))) 1 (upd (upd (σ 1) ((6 : Int32)).toNatClampNeg (0 : Int32)) ((10 : Int32)).toNatClampNeg (0 : Int32))))) (wM_a1 _ _ _) dX8_ends_15 (fun H locs Y => ?_)
  refine lv_aload_n hx hb dX8_ends_16 rfl (lv_at hl 0 rfl) ?_
  refine ig S hK Y fX8_7 0 rfl (v := .ref (h 1)) rfl dX8_ends_17 ?_
  refine lv_iconst (v := (5 : Int32)) hx hb dX8_ends_20 (by decide) ?_
  refine lv_dup2_11 hx hb dX8_ends_21 rfl rfl ?_
  refine ia S hK Y 1 0 (f := (upd (upd (σ 1) ((6 : Int32)).toNatClampNeg (0 : Int32)) ((10 : Int32)).toNatClampNeg (0 : Int32))) rfl rfl (show ¬ ((5 : Int32) < 0 ∨ 108 ≤ ((5 : Int32)).toNatClampNeg) by decide) dX8_ends_22 ?_
  refine lv_iconst (v := (1 : Int32)) hx hb dX8_ends_23 (by decide) ?_
  refine lv_iadd hx hb dX8_ends_24 ?_
  refine iw S hK Y 1 0 (f := (upd (upd (σ 1) ((6 : Int32)).toNatClampNeg (0 : Int32)) ((10 : Int32)).toNatClampNeg (0 : Int32))) rfl rfl (show ¬ ((5 : Int32) < 0 ∨ 108 ≤ ((5 : Int32)).toNatClampNeg) by decide) (ws' := (wM cI cC h (sg_a (sg_a (sg_a σ 1 (upd (σ 1) ((6 : Int32)).toNatClampNeg (0 : Int32))) 1 (upd (upd (σ 1) ((6 : Int32)).toNatClampNeg (0 : Int32)) ((10 : Int32)).toNatClampNeg (0 : Int32))) 1 (upd (upd (upd (σ 1) ((6 : Int32)).toNatClampNeg (0 : Int32)) ((10 : Int32)).toNatClampNeg (0 : Int32)) ((5 : Int32)).toNatClampNeg (((upd (upd (σ 1) ((6 : Int32)).toNatClampNeg (0 : Int32)) ((10 : Int32)).toNatClampNeg (0 : Int32)) ((5 : Int32)).toNatClampNeg) + (1 : Int32)))))) (wM_a1 _ _ _) dX8_ends_25 (fun H locs Y => ?_)
  refine lv_iconst (v := (0 : Int32)) hx hb dX8_ends_26 (by decide) ?_
  refine lv_istore_n (lv' := [(1, .int (0 : Int32)), (0, .ref (h 0))]) hx hb dX8_ends_27 rfl hl (Nat.le_of_ble_eq_true rfl) rfl (fun ls hl => ?_)
  exact lp28 70 (0 : Int32) (sg_a (sg_a (sg_a σ 1 (upd (σ 1) ((6 : Int32)).toNatClampNeg (0 : Int32))) 1 (upd (upd (σ 1) ((6 : Int32)).toNatClampNeg (0 : Int32)) ((10 : Int32)).toNatClampNeg (0 : Int32))) 1 (upd (upd (upd (σ 1) ((6 : Int32)).toNatClampNeg (0 : Int32)) ((10 : Int32)).toNatClampNeg (0 : Int32)) ((5 : Int32)).toNatClampNeg (((upd (upd (σ 1) ((6 : Int32)).toNatClampNeg (0 : Int32)) ((10 : Int32)).toNatClampNeg (0 : Int32)) ((5 : Int32)).toNatClampNeg) + (1 : Int32)))) hrun _ _ _ Y (lv_sub hl [1, 0] rfl)
def fX8_endsIfEmpty (σ : sg_T) : Option (sg_T) := ((fX8_hidden σ).bind fun r_1 => (if r_1 = 0 then ((fX8_ends σ).bind fun σ4 => (some (σ4))) else (some (σ))))
set_option maxRecDepth 100000 in
set_option maxHeartbeats 4000000 in
theorem mX8_endsIfEmpty (l : Launch) (D : va_G) (cI cC : ClassId) (h : Nat → Nat) (σ : sg_T) (σ' : sg_T) (hrun : fX8_endsIfEmpty σ = some σ') : me_V l D (tM cI cC) yX8_endsIfEmpty cX8_endsIfEmpty 1 3 64 (wM cI cC h σ) [.ref (h 0)] (wM cI cC h σ') := by
  refine me_ofV (plainFor_of_name (by decide)) (Nat.le_of_ble_eq_true rfl) ?_
  intro p e s m args below meth c A ls S hK Y hA hl hr hlk hZ
  have hx := S.1
  have hb := S.2.1
  have hl : lv_has ls 1 [(0, .ref (h 0))] := hl
  unfold fX8_endsIfEmpty at hrun
  refine lv_aload_n hx hb dX8_endsIfEmpty_0 rfl (lv_at hl 0 rfl) ?_
  obtain ⟨r_1, e_2, hrun⟩ := o_bh hrun
  refine cf_v (As := []) (rest := []) S hK hA hZ Y hl.1 (mX8_hidden l D cI cC h σ r_1 e_2) kX8_89 (T := TX8) (N := 11) rfl (q0 := 0) rfl ⟨Nat.le_of_ble_eq_true rfl, Nat.le_of_ble_eq_true rfl⟩ rfl rfl (Nat.le_of_ble_eq_true rfl) ⟨Nat.le_of_ble_eq_true rfl, Nat.le_of_ble_eq_true rfl⟩ dX8_endsIfEmpty_1 (fun H locs Y => ?_)
  refine lv_if_ne (tgt := 11) hx hb dX8_endsIfEmpty_4 (by decide) (fun c_3 => ?_) (fun c_3 => ?_)
  · have hrun := o_f hrun c_3
    cases hrun
    exact me_rv S hK Y hr hlk dX8_endsIfEmpty_11
  · have hrun := o_t hrun c_3
    refine lv_aload_n hx hb dX8_endsIfEmpty_7 rfl (lv_at hl 0 rfl) ?_
    obtain ⟨σ4, e_5, hrun⟩ := o_bh hrun
    refine cf_vv (As := []) (rest := []) S hK hA hZ Y hl.1 (mX8_ends l D cI cC h σ σ4 e_5) kX8_93 (T := TX8) (N := 11) rfl (q0 := 0) rfl ⟨Nat.le_of_ble_eq_true rfl, Nat.le_of_ble_eq_true rfl⟩ rfl rfl (Nat.le_of_ble_eq_true rfl) ⟨Nat.le_of_ble_eq_true rfl, Nat.le_of_ble_eq_true rfl⟩ dX8_endsIfEmpty_8 (fun H locs Y => ?_)
    cases hrun
    exact me_rv S hK Y hr hlk dX8_endsIfEmpty_11
def fX8_seeks (σ : sg_T) : Option (Int32 × sg_T) := ((fX8_hidden σ).bind fun r_1 => ((fX8_endsIfEmpty (sg_a σ 1 (upd (σ 1) ((6 : Int32)).toNatClampNeg (2 : Int32)))).bind fun σ3 => (some (r_1, σ3))))
set_option maxRecDepth 100000 in
set_option maxHeartbeats 4000000 in
theorem mX8_seeks (l : Launch) (D : va_G) (cI cC : ClassId) (h : Nat → Nat) (σ : sg_T) (r : Int32) (σ' : sg_T) (hrun : fX8_seeks σ = some (r, σ')) : me_I l D (tM cI cC) yX8_seeks cX8_seeks 2 .int 4 84 (wM cI cC h σ) [.ref (h 0)] r (wM cI cC h σ') := by
  refine me_ofI (plainFor_of_name (by decide)) (Nat.le_of_ble_eq_true rfl) ?_
  intro p e s m args below meth c A ls S hK Y hA hl hr hlk hZ
  have hx := S.1
  have hb := S.2.1
  have hl : lv_has ls 2 [(0, .ref (h 0))] := hl
  unfold fX8_seeks at hrun
  refine lv_aload_n hx hb dX8_seeks_0 rfl (lv_at hl 0 rfl) ?_
  obtain ⟨r_1, e_2, hrun⟩ := o_bh hrun
  refine cf_v (As := []) (rest := []) S hK hA hZ Y hl.1 (mX8_hidden l D cI cC h σ r_1 e_2) kX8_89 (T := TX8) (N := 11) rfl (q0 := 0) rfl ⟨Nat.le_of_ble_eq_true rfl, Nat.le_of_ble_eq_true rfl⟩ rfl rfl (Nat.le_of_ble_eq_true rfl) ⟨Nat.le_of_ble_eq_true rfl, Nat.le_of_ble_eq_true rfl⟩ dX8_seeks_1 (fun H locs Y => ?_)
  refine lv_istore_n (lv' := [(1, .int r_1), (0, .ref (h 0))]) hx hb dX8_seeks_4 rfl hl (Nat.le_of_ble_eq_true rfl) rfl (fun ls hl => ?_)
  refine lv_aload_n hx hb dX8_seeks_5 rfl (lv_at hl 1 rfl) ?_
  refine ig S hK Y fX8_7 0 rfl (v := .ref (h 1)) rfl dX8_seeks_6 ?_
  refine lv_bipush (v := (6 : Int32)) hx hb dX8_seeks_9 (by decide) ?_
  refine lv_iconst (v := (2 : Int32)) hx hb dX8_seeks_11 (by decide) ?_
  refine iw S hK Y 1 0 (f := (σ 1)) rfl rfl (show ¬ ((6 : Int32) < 0 ∨ 108 ≤ ((6 : Int32)).toNatClampNeg) by decide) (ws' := (wM cI cC h (sg_a σ 1 (upd (σ 1) ((6 : Int32)).toNatClampNeg (2 : Int32))))) (wM_a1 _ _ _) dX8_seeks_12 (fun H locs Y => ?_)
  refine lv_aload_n hx hb dX8_seeks_13 rfl (lv_at hl 1 rfl) ?_
  obtain ⟨σ3, e_4, hrun⟩ := o_bh hrun
  refine cf_vv (As := []) (rest := []) S hK hA hZ Y hl.1 (mX8_endsIfEmpty l D cI cC h (sg_a σ 1 (upd (σ 1) ((6 : Int32)).toNatClampNeg (2 : Int32))) σ3 e_4) kX8_96 (T := TX8) (N := 11) rfl (q0 := 0) rfl ⟨Nat.le_of_ble_eq_true rfl, Nat.le_of_ble_eq_true rfl⟩ rfl rfl (Nat.le_of_ble_eq_true rfl) ⟨Nat.le_of_ble_eq_true rfl, Nat.le_of_ble_eq_true rfl⟩ dX8_seeks_14 (fun H locs Y => ?_)
  refine lv_iload_n hx hb dX8_seeks_17 rfl (lv_at hl 0 rfl) ?_
  cases hrun
  exact me_ri S hK Y hr hlk rfl dX8_seeks_18
def fX8_seek (σ : sg_T) : Option (Int32 × sg_T) := (if ((σ 1) ((6 : Int32)).toNatClampNeg) = (1 : Int32) then ((fX8_record σ).bind fun σ2 => ((fX8_seeks σ2).bind fun q_6 => (some (q_6.1, q_6.2)))) else (some ((-10003 : Int32), σ)))
set_option maxRecDepth 100000 in
set_option maxHeartbeats 4000000 in
theorem mX8_seek (l : Launch) (D : va_G) (cI cC : ClassId) (h : Nat → Nat) (σ : sg_T) (r : Int32) (σ' : sg_T) (hrun : fX8_seek σ = some (r, σ')) : me_I l D (tM cI cC) yX8_seek cX8_seek 1 .int 5 105 (wM cI cC h σ) [.ref (h 0)] r (wM cI cC h σ') := by
  refine me_ofI (plainFor_of_name (by decide)) (Nat.le_of_ble_eq_true rfl) ?_
  intro p e s m args below meth c A ls S hK Y hA hl hr hlk hZ
  have hx := S.1
  have hb := S.2.1
  have hl : lv_has ls 1 [(0, .ref (h 0))] := hl
  unfold fX8_seek at hrun
  refine lv_aload_n hx hb dX8_seek_0 rfl (lv_at hl 0 rfl) ?_
  refine ig S hK Y fX8_7 0 rfl (v := .ref (h 1)) rfl dX8_seek_1 ?_
  refine lv_bipush (v := (6 : Int32)) hx hb dX8_seek_4 (by decide) ?_
  refine ia S hK Y 1 0 (f := (σ 1)) rfl rfl (show ¬ ((6 : Int32) < 0 ∨ 108 ≤ ((6 : Int32)).toNatClampNeg) by decide) dX8_seek_6 ?_
  refine lv_iconst (v := (1 : Int32)) hx hb dX8_seek_7 (by decide) ?_
  refine lv_icmp_eq (tgt := 15) hx hb dX8_seek_8 (by decide) (fun c_1 => ?_) (fun c_1 => ?_)
  · have hrun := o_t hrun c_1
    refine lv_aload_n hx hb dX8_seek_15 rfl (lv_at hl 0 rfl) ?_
    obtain ⟨σ2, e_3, hrun⟩ := o_bh hrun
    refine cf_vv (As := []) (rest := []) S hK hA hZ Y hl.1 (mX8_record l D cI cC h σ σ2 e_3) kX8_42 (T := TX8) (N := 11) rfl (q0 := 0) rfl ⟨Nat.le_of_ble_eq_true rfl, Nat.le_of_ble_eq_true rfl⟩ rfl rfl (Nat.le_of_ble_eq_true rfl) ⟨Nat.le_of_ble_eq_true rfl, Nat.le_of_ble_eq_true rfl⟩ dX8_seek_16 (fun H locs Y => ?_)
    refine lv_aload_n hx hb dX8_seek_19 rfl (lv_at hl 0 rfl) ?_
    obtain ⟨q_6, e_5, hrun⟩ := o_bh hrun
    refine cf_v (As := []) (rest := []) S hK hA hZ Y hl.1 (mX8_seeks l D cI cC h σ2 q_6.1 q_6.2 e_5) kX8_99 (T := TX8) (N := 11) rfl (q0 := 0) rfl ⟨Nat.le_of_ble_eq_true rfl, Nat.le_of_ble_eq_true rfl⟩ rfl rfl (Nat.le_of_ble_eq_true rfl) ⟨Nat.le_of_ble_eq_true rfl, Nat.le_of_ble_eq_true rfl⟩ dX8_seek_20 (fun H locs Y => ?_)
    cases hrun
    exact me_ri S hK Y hr hlk rfl dX8_seek_23
  · have hrun := o_f hrun c_1
    refine lv_sipush (v := (-10003 : Int32)) hx hb dX8_seek_11 (by decide) ?_
    cases hrun
    exact me_ri S hK Y hr hlk rfl dX8_seek_14
def fX8_walks (p1 : Int32) (σ : sg_T) : Option (Int32 × sg_T) := (some (((upd (σ 1) ((9 : Int32)).toNatClampNeg (((((σ 1) ((9 : Int32)).toNatClampNeg) + p1) + (16 : Int32)) - ((((σ 1) ((9 : Int32)).toNatClampNeg) + p1) + (16 : Int32)) / (16 : Int32) * (16 : Int32))) ((9 : Int32)).toNatClampNeg), (sg_a σ 1 (upd (σ 1) ((9 : Int32)).toNatClampNeg (((((σ 1) ((9 : Int32)).toNatClampNeg) + p1) + (16 : Int32)) - ((((σ 1) ((9 : Int32)).toNatClampNeg) + p1) + (16 : Int32)) / (16 : Int32) * (16 : Int32))))))
set_option maxRecDepth 100000 in
set_option maxHeartbeats 4000000 in
theorem mX8_walks (l : Launch) (D : va_G) (cI cC : ClassId) (h : Nat → Nat) (σ : sg_T) (p1 : Int32) (r : Int32) (σ' : sg_T) (hrun : fX8_walks p1 σ = some (r, σ')) : me_I l D (tM cI cC) yX8_walks cX8_walks 2 .int 0 0 (wM cI cC h σ) [.ref (h 0), .int p1] r (wM cI cC h σ') := by
  refine me_ofI (plainFor_of_name (by decide)) (Nat.le_of_ble_eq_true rfl) ?_
  intro p e s m args below meth c A ls S hK Y hA hl hr hlk hZ
  have hx := S.1
  have hb := S.2.1
  have hl : lv_has ls 2 [(0, .ref (h 0)), (1, .int p1)] := hl
  unfold fX8_walks at hrun
  refine lv_aload_n hx hb dX8_walks_0 rfl (lv_at hl 0 rfl) ?_
  refine ig S hK Y fX8_7 0 rfl (v := .ref (h 1)) rfl dX8_walks_1 ?_
  refine lv_bipush (v := (9 : Int32)) hx hb dX8_walks_4 (by decide) ?_
  refine lv_aload_n hx hb dX8_walks_6 rfl (lv_at hl 0 rfl) ?_
  refine ig S hK Y fX8_7 0 rfl (v := .ref (h 1)) rfl dX8_walks_7 ?_
  refine lv_bipush (v := (9 : Int32)) hx hb dX8_walks_10 (by decide) ?_
  refine ia S hK Y 1 0 (f := (σ 1)) rfl rfl (show ¬ ((9 : Int32) < 0 ∨ 108 ≤ ((9 : Int32)).toNatClampNeg) by decide) dX8_walks_12 ?_
  refine lv_iload_n hx hb dX8_walks_13 rfl (lv_at hl 1 rfl) ?_
  refine lv_iadd hx hb dX8_walks_14 ?_
  refine lv_bipush (v := (16 : Int32)) hx hb dX8_walks_15 (by decide) ?_
  refine lv_iadd hx hb dX8_walks_17 ?_
  refine lv_bipush (v := (16 : Int32)) hx hb dX8_walks_18 (by decide) ?_
  refine lv_irem hx hb dX8_walks_20 (by decide) ?_
  refine iw S hK Y 1 0 (f := (σ 1)) rfl rfl (show ¬ ((9 : Int32) < 0 ∨ 108 ≤ ((9 : Int32)).toNatClampNeg) by decide) (ws' := (wM cI cC h (sg_a σ 1 (upd (σ 1) ((9 : Int32)).toNatClampNeg (((((σ 1) ((9 : Int32)).toNatClampNeg) + p1) + (16 : Int32)) - ((((σ 1) ((9 : Int32)).toNatClampNeg) + p1) + (16 : Int32)) / (16 : Int32) * (16 : Int32)))))) (wM_a1 _ _ _) dX8_walks_21 (fun H locs Y => ?_)
  refine lv_aload_n hx hb dX8_walks_22 rfl (lv_at hl 0 rfl) ?_
  refine ig S hK Y fX8_7 0 rfl (v := .ref (h 1)) rfl dX8_walks_23 ?_
  refine lv_bipush (v := (9 : Int32)) hx hb dX8_walks_26 (by decide) ?_
  refine ia S hK Y 1 0 (f := (upd (σ 1) ((9 : Int32)).toNatClampNeg (((((σ 1) ((9 : Int32)).toNatClampNeg) + p1) + (16 : Int32)) - ((((σ 1) ((9 : Int32)).toNatClampNeg) + p1) + (16 : Int32)) / (16 : Int32) * (16 : Int32)))) rfl rfl (show ¬ ((9 : Int32) < 0 ∨ 108 ≤ ((9 : Int32)).toNatClampNeg) by decide) dX8_walks_28 ?_
  cases hrun
  exact me_ri S hK Y hr hlk rfl dX8_walks_29
def fX8_walk (p1 : Int32) (σ : sg_T) : Option (Int32 × sg_T) := ((fX8_in p1 (-1 : Int32) (1 : Int32)).bind fun r_1 => (if r_1 = 0 then (some ((-10002 : Int32), σ)) else (if ((σ 1) ((6 : Int32)).toNatClampNeg) = (2 : Int32) then ((fX8_record σ).bind fun σ5 => ((fX8_walks p1 σ5).bind fun q_9 => (some (q_9.1, q_9.2)))) else (some ((-10003 : Int32), σ)))))
set_option maxRecDepth 100000 in
set_option maxHeartbeats 4000000 in
theorem mX8_walk (l : Launch) (D : va_G) (cI cC : ClassId) (h : Nat → Nat) (σ : sg_T) (p1 : Int32) (r : Int32) (σ' : sg_T) (hrun : fX8_walk p1 σ = some (r, σ')) : me_I l D (tM cI cC) yX8_walk cX8_walk 2 .int 1 22 (wM cI cC h σ) [.ref (h 0), .int p1] r (wM cI cC h σ') := by
  refine me_ofI (plainFor_of_name (by decide)) (Nat.le_of_ble_eq_true rfl) ?_
  intro p e s m args below meth c A ls S hK Y hA hl hr hlk hZ
  have hx := S.1
  have hb := S.2.1
  have hl : lv_has ls 2 [(0, .ref (h 0)), (1, .int p1)] := hl
  unfold fX8_walk at hrun
  refine lv_iload_n hx hb dX8_walk_0 rfl (lv_at hl 1 rfl) ?_
  refine lv_iconst (v := (-1 : Int32)) hx hb dX8_walk_1 (by decide) ?_
  refine lv_iconst (v := (1 : Int32)) hx hb dX8_walk_2 (by decide) ?_
  obtain ⟨r_1, e_2, hrun⟩ := o_bh hrun
  refine cp_s (As := [.int p1, .int (-1 : Int32), .int (1 : Int32)]) (rest := []) S hK hA hZ Y hl.1 (mX8_in l D p1 (-1 : Int32) (1 : Int32) r_1 e_2) kX8_26 ⟨Nat.le_of_ble_eq_true rfl, Nat.le_of_ble_eq_true rfl⟩ rfl rfl (Nat.le_of_ble_eq_true rfl) ⟨Nat.le_of_ble_eq_true rfl, Nat.le_of_ble_eq_true rfl⟩ dX8_walk_3 (fun H locs Y => ?_)
  refine lv_if_ne (tgt := 13) hx hb dX8_walk_6 (by decide) (fun c_3 => ?_) (fun c_3 => ?_)
  · have hrun := o_f hrun c_3
    refine lv_aload_n hx hb dX8_walk_13 rfl (lv_at hl 0 rfl) ?_
    refine ig S hK Y fX8_7 0 rfl (v := .ref (h 1)) rfl dX8_walk_14 ?_
    refine lv_bipush (v := (6 : Int32)) hx hb dX8_walk_17 (by decide) ?_
    refine ia S hK Y 1 0 (f := (σ 1)) rfl rfl (show ¬ ((6 : Int32) < 0 ∨ 108 ≤ ((6 : Int32)).toNatClampNeg) by decide) dX8_walk_19 ?_
    refine lv_iconst (v := (2 : Int32)) hx hb dX8_walk_20 (by decide) ?_
    refine lv_icmp_eq (tgt := 28) hx hb dX8_walk_21 (by decide) (fun c_4 => ?_) (fun c_4 => ?_)
    · have hrun := o_t hrun c_4
      refine lv_aload_n hx hb dX8_walk_28 rfl (lv_at hl 0 rfl) ?_
      obtain ⟨σ5, e_6, hrun⟩ := o_bh hrun
      refine cf_vv (As := []) (rest := []) S hK hA hZ Y hl.1 (mX8_record l D cI cC h σ σ5 e_6) kX8_42 (T := TX8) (N := 11) rfl (q0 := 0) rfl ⟨Nat.le_of_ble_eq_true rfl, Nat.le_of_ble_eq_true rfl⟩ rfl rfl (Nat.le_of_ble_eq_true rfl) ⟨Nat.le_of_ble_eq_true rfl, Nat.le_of_ble_eq_true rfl⟩ dX8_walk_29 (fun H locs Y => ?_)
      refine lv_aload_n hx hb dX8_walk_32 rfl (lv_at hl 0 rfl) ?_
      refine lv_iload_n hx hb dX8_walk_33 rfl (lv_at hl 1 rfl) ?_
      obtain ⟨q_9, e_8, hrun⟩ := o_bh hrun
      refine cf_v (As := [.int p1]) (rest := []) S hK hA hZ Y hl.1 (mX8_walks l D cI cC h σ5 p1 q_9.1 q_9.2 e_8) kX8_102 (T := TX8) (N := 11) rfl (q0 := 0) rfl ⟨Nat.le_of_ble_eq_true rfl, Nat.le_of_ble_eq_true rfl⟩ rfl rfl (Nat.le_of_ble_eq_true rfl) ⟨Nat.le_of_ble_eq_true rfl, Nat.le_of_ble_eq_true rfl⟩ dX8_walk_34 (fun H locs Y => ?_)
      cases hrun
      exact me_ri S hK Y hr hlk rfl dX8_walk_37
    · have hrun := o_f hrun c_4
      refine lv_sipush (v := (-10003 : Int32)) hx hb dX8_walk_24 (by decide) ?_
      cases hrun
      exact me_ri S hK Y hr hlk rfl dX8_walk_27
  · have hrun := o_t hrun c_3
    refine lv_sipush (v := (-10002 : Int32)) hx hb dX8_walk_9 (by decide) ?_
    cases hrun
    exact me_ri S hK Y hr hlk rfl dX8_walk_12
def fX8_whyNotCry (p1 p2 : Int32) (σ : sg_T) : Option (Int32) := ((fX8_isPlayer p1 σ).bind fun r_1 => (if r_1 = 0 then (some (-10001 : Int32)) else ((fX8_isSpot p2).bind fun r_4 => (if r_4 = 0 then (some (-10001 : Int32)) else (if ((σ 1) ((6 : Int32)).toNatClampNeg) = (2 : Int32) then (if p1 = ((σ 1) ((7 : Int32)).toNatClampNeg) then (some (-10003 : Int32)) else ((fX8_distance p2 ((σ 1) ((9 : Int32)).toNatClampNeg)).bind fun r_9 => (if r_9 ≤ ((σ 1) ((0 : Int32)).toNatClampNeg) then (some (0 : Int32)) else (some (-10003 : Int32))))) else (some (-10003 : Int32)))))))
set_option maxRecDepth 100000 in
set_option maxHeartbeats 4000000 in
theorem mX8_whyNotCry (l : Launch) (D : va_G) (cI cC : ClassId) (h : Nat → Nat) (σ : sg_T) (p1 p2 : Int32) (r : Int32) (hrun : fX8_whyNotCry p1 p2 σ = some r) : me_I l D (tM cI cC) yX8_whyNotCry cX8_whyNotCry 3 .int 2 43 (wM cI cC h σ) [.ref (h 0), .int p1, .int p2] r (wM cI cC h σ) := by
  refine me_ofI (plainFor_of_name (by decide)) (Nat.le_of_ble_eq_true rfl) ?_
  intro p e s m args below meth c A ls S hK Y hA hl hr hlk hZ
  have hx := S.1
  have hb := S.2.1
  have hl : lv_has ls 3 [(0, .ref (h 0)), (1, .int p1), (2, .int p2)] := hl
  unfold fX8_whyNotCry at hrun
  refine lv_aload_n hx hb dX8_whyNotCry_0 rfl (lv_at hl 0 rfl) ?_
  refine lv_iload_n hx hb dX8_whyNotCry_1 rfl (lv_at hl 1 rfl) ?_
  obtain ⟨r_1, e_2, hrun⟩ := o_bh hrun
  refine cf_v (As := [.int p1]) (rest := []) S hK hA hZ Y hl.1 (mX8_isPlayer l D cI cC h σ p1 r_1 e_2) kX8_73 (T := TX8) (N := 11) rfl (q0 := 0) rfl ⟨Nat.le_of_ble_eq_true rfl, Nat.le_of_ble_eq_true rfl⟩ rfl rfl (Nat.le_of_ble_eq_true rfl) ⟨Nat.le_of_ble_eq_true rfl, Nat.le_of_ble_eq_true rfl⟩ dX8_whyNotCry_2 (fun H locs Y => ?_)
  refine lv_if_eq (tgt := 15) hx hb dX8_whyNotCry_5 (by decide) (fun c_3 => ?_) (fun c_3 => ?_)
  · have hrun := o_t hrun c_3
    refine lv_sipush (v := (-10001 : Int32)) hx hb dX8_whyNotCry_15 (by decide) ?_
    cases hrun
    exact me_ri S hK Y hr hlk rfl dX8_whyNotCry_18
  · have hrun := o_f hrun c_3
    refine lv_iload_n hx hb dX8_whyNotCry_8 rfl (lv_at hl 2 rfl) ?_
    obtain ⟨r_4, e_5, hrun⟩ := o_bh hrun
    refine cp_s (As := [.int p2]) (rest := []) S hK hA hZ Y hl.1 (mX8_isSpot l D p2 r_4 e_5) kX8_83 ⟨Nat.le_of_ble_eq_true rfl, Nat.le_of_ble_eq_true rfl⟩ rfl rfl (Nat.le_of_ble_eq_true rfl) ⟨Nat.le_of_ble_eq_true rfl, Nat.le_of_ble_eq_true rfl⟩ dX8_whyNotCry_9 (fun H locs Y => ?_)
    refine lv_if_ne (tgt := 19) hx hb dX8_whyNotCry_12 (by decide) (fun c_6 => ?_) (fun c_6 => ?_)
    · have hrun := o_f hrun c_6
      refine lv_aload_n hx hb dX8_whyNotCry_19 rfl (lv_at hl 0 rfl) ?_
      refine ig S hK Y fX8_7 0 rfl (v := .ref (h 1)) rfl dX8_whyNotCry_20 ?_
      refine lv_bipush (v := (6 : Int32)) hx hb dX8_whyNotCry_23 (by decide) ?_
      refine ia S hK Y 1 0 (f := (σ 1)) rfl rfl (show ¬ ((6 : Int32) < 0 ∨ 108 ≤ ((6 : Int32)).toNatClampNeg) by decide) dX8_whyNotCry_25 ?_
      refine lv_iconst (v := (2 : Int32)) hx hb dX8_whyNotCry_26 (by decide) ?_
      refine lv_icmp_ne (tgt := 61) hx hb dX8_whyNotCry_27 (by decide) (fun c_7 => ?_) (fun c_7 => ?_)
      · have hrun := o_f hrun c_7
        refine lv_sipush (v := (-10003 : Int32)) hx hb dX8_whyNotCry_61 (by decide) ?_
        refine lv_goto (tgt := 68) hx hb dX8_whyNotCry_64 (by decide) ?_
        cases hrun
        exact me_ri S hK Y hr hlk rfl dX8_whyNotCry_68
      · have hrun := o_t hrun c_7
        refine lv_iload_n hx hb dX8_whyNotCry_30 rfl (lv_at hl 1 rfl) ?_
        refine lv_aload_n hx hb dX8_whyNotCry_31 rfl (lv_at hl 0 rfl) ?_
        refine ig S hK Y fX8_7 0 rfl (v := .ref (h 1)) rfl dX8_whyNotCry_32 ?_
        refine lv_bipush (v := (7 : Int32)) hx hb dX8_whyNotCry_35 (by decide) ?_
        refine ia S hK Y 1 0 (f := (σ 1)) rfl rfl (show ¬ ((7 : Int32) < 0 ∨ 108 ≤ ((7 : Int32)).toNatClampNeg) by decide) dX8_whyNotCry_37 ?_
        refine lv_icmp_eq (tgt := 61) hx hb dX8_whyNotCry_38 (by decide) (fun c_8 => ?_) (fun c_8 => ?_)
        · have hrun := o_t hrun c_8
          refine lv_sipush (v := (-10003 : Int32)) hx hb dX8_whyNotCry_61 (by decide) ?_
          refine lv_goto (tgt := 68) hx hb dX8_whyNotCry_64 (by decide) ?_
          cases hrun
          exact me_ri S hK Y hr hlk rfl dX8_whyNotCry_68
        · have hrun := o_f hrun c_8
          refine lv_iload_n hx hb dX8_whyNotCry_41 rfl (lv_at hl 2 rfl) ?_
          refine lv_aload_n hx hb dX8_whyNotCry_42 rfl (lv_at hl 0 rfl) ?_
          refine ig S hK Y fX8_7 0 rfl (v := .ref (h 1)) rfl dX8_whyNotCry_43 ?_
          refine lv_bipush (v := (9 : Int32)) hx hb dX8_whyNotCry_46 (by decide) ?_
          refine ia S hK Y 1 0 (f := (σ 1)) rfl rfl (show ¬ ((9 : Int32) < 0 ∨ 108 ≤ ((9 : Int32)).toNatClampNeg) by decide) dX8_whyNotCry_48 ?_
          obtain ⟨r_9, e_10, hrun⟩ := o_bh hrun
          refine cp_s (As := [.int p2, .int ((σ 1) ((9 : Int32)).toNatClampNeg)]) (rest := []) S hK hA hZ Y hl.1 (mX8_distance l D p2 ((σ 1) ((9 : Int32)).toNatClampNeg) r_9 e_10) kX8_56 ⟨Nat.le_of_ble_eq_true rfl, Nat.le_of_ble_eq_true rfl⟩ rfl rfl (Nat.le_of_ble_eq_true rfl) ⟨Nat.le_of_ble_eq_true rfl, Nat.le_of_ble_eq_true rfl⟩ dX8_whyNotCry_49 (fun H locs Y => ?_)
          refine lv_aload_n hx hb dX8_whyNotCry_52 rfl (lv_at hl 0 rfl) ?_
          refine ig S hK Y fX8_7 0 rfl (v := .ref (h 1)) rfl dX8_whyNotCry_53 ?_
          refine lv_iconst (v := (0 : Int32)) hx hb dX8_whyNotCry_56 (by decide) ?_
          refine ia S hK Y 1 0 (f := (σ 1)) rfl rfl (show ¬ ((0 : Int32) < 0 ∨ 108 ≤ ((0 : Int32)).toNatClampNeg) by decide) dX8_whyNotCry_57 ?_
          refine lv_icmp_le (tgt := 67) hx hb dX8_whyNotCry_58 (by decide) (fun c_11 => ?_) (fun c_11 => ?_)
          · have hrun := o_t hrun c_11
            refine lv_iconst (v := (0 : Int32)) hx hb dX8_whyNotCry_67 (by decide) ?_
            cases hrun
            exact me_ri S hK Y hr hlk rfl dX8_whyNotCry_68
          · have hrun := o_f hrun c_11
            refine lv_sipush (v := (-10003 : Int32)) hx hb dX8_whyNotCry_61 (by decide) ?_
            refine lv_goto (tgt := 68) hx hb dX8_whyNotCry_64 (by decide) ?_
            cases hrun
            exact me_ri S hK Y hr hlk rfl dX8_whyNotCry_68
    · have hrun := o_t hrun c_6
      refine lv_sipush (v := (-10001 : Int32)) hx hb dX8_whyNotCry_15 (by decide) ?_
      cases hrun
      exact me_ri S hK Y hr hlk rfl dX8_whyNotCry_18
def fX8_finds (p1 : Int32) (σ : sg_T) : Option (sg_T) := (o_x ((60 : Int32) + ((3 : Int32) * p1)) 108 ((fX8_isRetired p1 (sg_a σ 1 (upd (σ 1) (((60 : Int32) + ((3 : Int32) * p1))).toNatClampNeg (((σ 1) (((60 : Int32) + ((3 : Int32) * p1))).toNatClampNeg) + (1 : Int32))))).bind fun r_2 => (if r_2 = 0 then ((fX8_ofSpot p1 (0 : Int32) (sg_a σ 1 (upd (σ 1) (((60 : Int32) + ((3 : Int32) * p1))).toNatClampNeg (((σ 1) (((60 : Int32) + ((3 : Int32) * p1))).toNatClampNeg) + (1 : Int32))))).bind fun r_5 => (if r_5 < ((upd (σ 1) (((60 : Int32) + ((3 : Int32) * p1))).toNatClampNeg (((σ 1) (((60 : Int32) + ((3 : Int32) * p1))).toNatClampNeg) + (1 : Int32))) ((1 : Int32)).toNatClampNeg) then (some ((sg_a σ 1 (upd (σ 1) (((60 : Int32) + ((3 : Int32) * p1))).toNatClampNeg (((σ 1) (((60 : Int32) + ((3 : Int32) * p1))).toNatClampNeg) + (1 : Int32)))))) else (o_x (((60 : Int32) + ((3 : Int32) * p1)) + (1 : Int32)) 108 (o_x (((60 : Int32) + ((3 : Int32) * p1)) + (2 : Int32)) 108 (some ((sg_a (sg_a (sg_a σ 1 (upd (σ 1) (((60 : Int32) + ((3 : Int32) * p1))).toNatClampNeg (((σ 1) (((60 : Int32) + ((3 : Int32) * p1))).toNatClampNeg) + (1 : Int32)))) 1 (upd (upd (σ 1) (((60 : Int32) + ((3 : Int32) * p1))).toNatClampNeg (((σ 1) (((60 : Int32) + ((3 : Int32) * p1))).toNatClampNeg) + (1 : Int32))) ((((60 : Int32) + ((3 : Int32) * p1)) + (1 : Int32))).toNatClampNeg (1 : Int32))) 1 (upd (upd (upd (σ 1) (((60 : Int32) + ((3 : Int32) * p1))).toNatClampNeg (((σ 1) (((60 : Int32) + ((3 : Int32) * p1))).toNatClampNeg) + (1 : Int32))) ((((60 : Int32) + ((3 : Int32) * p1)) + (1 : Int32))).toNatClampNeg (1 : Int32)) ((((60 : Int32) + ((3 : Int32) * p1)) + (2 : Int32))).toNatClampNeg ((upd (upd (σ 1) (((60 : Int32) + ((3 : Int32) * p1))).toNatClampNeg (((σ 1) (((60 : Int32) + ((3 : Int32) * p1))).toNatClampNeg) + (1 : Int32))) ((((60 : Int32) + ((3 : Int32) * p1)) + (1 : Int32))).toNatClampNeg (1 : Int32)) ((5 : Int32)).toNatClampNeg))))))))) else (some ((sg_a σ 1 (upd (σ 1) (((60 : Int32) + ((3 : Int32) * p1))).toNatClampNeg (((σ 1) (((60 : Int32) + ((3 : Int32) * p1))).toNatClampNeg) + (1 : Int32)))))))))
set_option maxRecDepth 100000 in
set_option maxHeartbeats 4000000 in
theorem mX8_finds (l : Launch) (D : va_G) (cI cC : ClassId) (h : Nat → Nat) (σ : sg_T) (p1 : Int32) (σ' : sg_T) (hrun : fX8_finds p1 σ = some σ') : me_V l D (tM cI cC) yX8_finds cX8_finds 2 2 43 (wM cI cC h σ) [.ref (h 0), .int p1] (wM cI cC h σ') := by
  refine me_ofV (plainFor_of_name (by decide)) (Nat.le_of_ble_eq_true rfl) ?_
  intro p e s m args below meth c A ls S hK Y hA hl hr hlk hZ
  have hx := S.1
  have hb := S.2.1
  have hl : lv_has ls 2 [(0, .ref (h 0)), (1, .int p1)] := hl
  unfold fX8_finds at hrun
  refine lv_aload_n hx hb dX8_finds_0 rfl (lv_at hl 0 rfl) ?_
  refine ig S hK Y fX8_7 0 rfl (v := .ref (h 1)) rfl dX8_finds_1 ?_
  refine lv_bipush (v := (60 : Int32)) hx hb dX8_finds_4 (by decide) ?_
  refine lv_iconst (v := (3 : Int32)) hx hb dX8_finds_6 (by decide) ?_
  refine lv_iload_n hx hb dX8_finds_7 rfl (lv_at hl 1 rfl) ?_
  refine lv_imul hx hb dX8_finds_8 ?_
  refine lv_iadd hx hb dX8_finds_9 ?_
  refine lv_dup2_11 hx hb dX8_finds_10 rfl rfl ?_
  obtain ⟨b_1, hrun⟩ := o_xh hrun
  refine ia S hK Y 1 0 (f := (σ 1)) rfl rfl b_1 dX8_finds_11 ?_
  refine lv_iconst (v := (1 : Int32)) hx hb dX8_finds_12 (by decide) ?_
  refine lv_iadd hx hb dX8_finds_13 ?_
  refine iw S hK Y 1 0 (f := (σ 1)) rfl rfl b_1 (ws' := (wM cI cC h (sg_a σ 1 (upd (σ 1) (((60 : Int32) + ((3 : Int32) * p1))).toNatClampNeg (((σ 1) (((60 : Int32) + ((3 : Int32) * p1))).toNatClampNeg) + (1 : Int32)))))) (wM_a1 _ _ _) dX8_finds_14 (fun H locs Y => ?_)
  refine lv_aload_n hx hb dX8_finds_15 rfl (lv_at hl 0 rfl) ?_
  refine lv_iload_n hx hb dX8_finds_16 rfl (lv_at hl 1 rfl) ?_
  obtain ⟨r_2, e_3, hrun⟩ := o_bh hrun
  refine cf_v (As := [.int p1]) (rest := []) S hK hA hZ Y hl.1 (mX8_isRetired l D cI cC h (sg_a σ 1 (upd (σ 1) (((60 : Int32) + ((3 : Int32) * p1))).toNatClampNeg (((σ 1) (((60 : Int32) + ((3 : Int32) * p1))).toNatClampNeg) + (1 : Int32)))) p1 r_2 e_3) kX8_59 (T := TX8) (N := 11) rfl (q0 := 0) rfl ⟨Nat.le_of_ble_eq_true rfl, Nat.le_of_ble_eq_true rfl⟩ rfl rfl (Nat.le_of_ble_eq_true rfl) ⟨Nat.le_of_ble_eq_true rfl, Nat.le_of_ble_eq_true rfl⟩ dX8_finds_17 (fun H locs Y => ?_)
  refine lv_if_ne (tgt := 71) hx hb dX8_finds_20 (by decide) (fun c_4 => ?_) (fun c_4 => ?_)
  · have hrun := o_f hrun c_4
    cases hrun
    exact me_rv S hK Y hr hlk dX8_finds_71
  · have hrun := o_t hrun c_4
    refine lv_aload_n hx hb dX8_finds_23 rfl (lv_at hl 0 rfl) ?_
    refine lv_iload_n hx hb dX8_finds_24 rfl (lv_at hl 1 rfl) ?_
    refine lv_iconst (v := (0 : Int32)) hx hb dX8_finds_25 (by decide) ?_
    obtain ⟨r_5, e_6, hrun⟩ := o_bh hrun
    refine cf_v (As := [.int p1, .int (0 : Int32)]) (rest := []) S hK hA hZ Y hl.1 (mX8_ofSpot l D cI cC h (sg_a σ 1 (upd (σ 1) (((60 : Int32) + ((3 : Int32) * p1))).toNatClampNeg (((σ 1) (((60 : Int32) + ((3 : Int32) * p1))).toNatClampNeg) + (1 : Int32)))) p1 (0 : Int32) r_5 e_6) kX8_30 (T := TX8) (N := 11) rfl (q0 := 0) rfl ⟨Nat.le_of_ble_eq_true rfl, Nat.le_of_ble_eq_true rfl⟩ rfl rfl (Nat.le_of_ble_eq_true rfl) ⟨Nat.le_of_ble_eq_true rfl, Nat.le_of_ble_eq_true rfl⟩ dX8_finds_26 (fun H locs Y => ?_)
    refine lv_aload_n hx hb dX8_finds_29 rfl (lv_at hl 0 rfl) ?_
    refine ig S hK Y fX8_7 0 rfl (v := .ref (h 1)) rfl dX8_finds_30 ?_
    refine lv_iconst (v := (1 : Int32)) hx hb dX8_finds_33 (by decide) ?_
    refine ia S hK Y 1 0 (f := (upd (σ 1) (((60 : Int32) + ((3 : Int32) * p1))).toNatClampNeg (((σ 1) (((60 : Int32) + ((3 : Int32) * p1))).toNatClampNeg) + (1 : Int32)))) rfl rfl (show ¬ ((1 : Int32) < 0 ∨ 108 ≤ ((1 : Int32)).toNatClampNeg) by decide) dX8_finds_34 ?_
    refine lv_icmp_lt (tgt := 71) hx hb dX8_finds_35 (by decide) (fun c_7 => ?_) (fun c_7 => ?_)
    · have hrun := o_t hrun c_7
      cases hrun
      exact me_rv S hK Y hr hlk dX8_finds_71
    · have hrun := o_f hrun c_7
      refine lv_aload_n hx hb dX8_finds_38 rfl (lv_at hl 0 rfl) ?_
      refine ig S hK Y fX8_7 0 rfl (v := .ref (h 1)) rfl dX8_finds_39 ?_
      refine lv_bipush (v := (60 : Int32)) hx hb dX8_finds_42 (by decide) ?_
      refine lv_iconst (v := (3 : Int32)) hx hb dX8_finds_44 (by decide) ?_
      refine lv_iload_n hx hb dX8_finds_45 rfl (lv_at hl 1 rfl) ?_
      refine lv_imul hx hb dX8_finds_46 ?_
      refine lv_iadd hx hb dX8_finds_47 ?_
      refine lv_iconst (v := (1 : Int32)) hx hb dX8_finds_48 (by decide) ?_
      refine lv_iadd hx hb dX8_finds_49 ?_
      refine lv_iconst (v := (1 : Int32)) hx hb dX8_finds_50 (by decide) ?_
      obtain ⟨b_8, hrun⟩ := o_xh hrun
      refine iw S hK Y 1 0 (f := (upd (σ 1) (((60 : Int32) + ((3 : Int32) * p1))).toNatClampNeg (((σ 1) (((60 : Int32) + ((3 : Int32) * p1))).toNatClampNeg) + (1 : Int32)))) rfl rfl b_8 (ws' := (wM cI cC h (sg_a (sg_a σ 1 (upd (σ 1) (((60 : Int32) + ((3 : Int32) * p1))).toNatClampNeg (((σ 1) (((60 : Int32) + ((3 : Int32) * p1))).toNatClampNeg) + (1 : Int32)))) 1 (upd (upd (σ 1) (((60 : Int32) + ((3 : Int32) * p1))).toNatClampNeg (((σ 1) (((60 : Int32) + ((3 : Int32) * p1))).toNatClampNeg) + (1 : Int32))) ((((60 : Int32) + ((3 : Int32) * p1)) + (1 : Int32))).toNatClampNeg (1 : Int32))))) (wM_a1 _ _ _) dX8_finds_51 (fun H locs Y => ?_)
      refine lv_aload_n hx hb dX8_finds_52 rfl (lv_at hl 0 rfl) ?_
      refine ig S hK Y fX8_7 0 rfl (v := .ref (h 1)) rfl dX8_finds_53 ?_
      refine lv_bipush (v := (60 : Int32)) hx hb dX8_finds_56 (by decide) ?_
      refine lv_iconst (v := (3 : Int32)) hx hb dX8_finds_58 (by decide) ?_
      refine lv_iload_n hx hb dX8_finds_59 rfl (lv_at hl 1 rfl) ?_
      refine lv_imul hx hb dX8_finds_60 ?_
      refine lv_iadd hx hb dX8_finds_61 ?_
      refine lv_iconst (v := (2 : Int32)) hx hb dX8_finds_62 (by decide) ?_
      refine lv_iadd hx hb dX8_finds_63 ?_
      refine lv_aload_n hx hb dX8_finds_64 rfl (lv_at hl 0 rfl) ?_
      refine ig S hK Y fX8_7 0 rfl (v := .ref (h 1)) rfl dX8_finds_65 ?_
      refine lv_iconst (v := (5 : Int32)) hx hb dX8_finds_68 (by decide) ?_
      refine ia S hK Y 1 0 (f := (upd (upd (σ 1) (((60 : Int32) + ((3 : Int32) * p1))).toNatClampNeg (((σ 1) (((60 : Int32) + ((3 : Int32) * p1))).toNatClampNeg) + (1 : Int32))) ((((60 : Int32) + ((3 : Int32) * p1)) + (1 : Int32))).toNatClampNeg (1 : Int32))) rfl rfl (show ¬ ((5 : Int32) < 0 ∨ 108 ≤ ((5 : Int32)).toNatClampNeg) by decide) dX8_finds_69 ?_
      obtain ⟨b_9, hrun⟩ := o_xh hrun
      refine iw S hK Y 1 0 (f := (upd (upd (σ 1) (((60 : Int32) + ((3 : Int32) * p1))).toNatClampNeg (((σ 1) (((60 : Int32) + ((3 : Int32) * p1))).toNatClampNeg) + (1 : Int32))) ((((60 : Int32) + ((3 : Int32) * p1)) + (1 : Int32))).toNatClampNeg (1 : Int32))) rfl rfl b_9 (ws' := (wM cI cC h (sg_a (sg_a (sg_a σ 1 (upd (σ 1) (((60 : Int32) + ((3 : Int32) * p1))).toNatClampNeg (((σ 1) (((60 : Int32) + ((3 : Int32) * p1))).toNatClampNeg) + (1 : Int32)))) 1 (upd (upd (σ 1) (((60 : Int32) + ((3 : Int32) * p1))).toNatClampNeg (((σ 1) (((60 : Int32) + ((3 : Int32) * p1))).toNatClampNeg) + (1 : Int32))) ((((60 : Int32) + ((3 : Int32) * p1)) + (1 : Int32))).toNatClampNeg (1 : Int32))) 1 (upd (upd (upd (σ 1) (((60 : Int32) + ((3 : Int32) * p1))).toNatClampNeg (((σ 1) (((60 : Int32) + ((3 : Int32) * p1))).toNatClampNeg) + (1 : Int32))) ((((60 : Int32) + ((3 : Int32) * p1)) + (1 : Int32))).toNatClampNeg (1 : Int32)) ((((60 : Int32) + ((3 : Int32) * p1)) + (2 : Int32))).toNatClampNeg ((upd (upd (σ 1) (((60 : Int32) + ((3 : Int32) * p1))).toNatClampNeg (((σ 1) (((60 : Int32) + ((3 : Int32) * p1))).toNatClampNeg) + (1 : Int32))) ((((60 : Int32) + ((3 : Int32) * p1)) + (1 : Int32))).toNatClampNeg (1 : Int32)) ((5 : Int32)).toNatClampNeg))))) (wM_a1 _ _ _) dX8_finds_70 (fun H locs Y => ?_)
      cases hrun
      exact me_rv S hK Y hr hlk dX8_finds_71
def fX8_escapes (p1 p2 : Int32) (σ : sg_T) : Option (sg_T) := ((fX8_hides p1 (-10006 : Int32) σ).bind fun σ1 => ((fX8_adds p1 (0 : Int32) p2 σ1).bind fun σ3 => ((fX8_adds p1 (4 : Int32) (1 : Int32) σ3).bind fun σ5 => (some (σ5)))))
set_option maxRecDepth 100000 in
set_option maxHeartbeats 4000000 in
theorem mX8_escapes (l : Launch) (D : va_G) (cI cC : ClassId) (h : Nat → Nat) (σ : sg_T) (p1 p2 : Int32) (σ' : sg_T) (hrun : fX8_escapes p1 p2 σ = some σ') : me_V l D (tM cI cC) yX8_escapes cX8_escapes 3 1 23 (wM cI cC h σ) [.ref (h 0), .int p1, .int p2] (wM cI cC h σ') := by
  refine me_ofV (plainFor_of_name (by decide)) (Nat.le_of_ble_eq_true rfl) ?_
  intro p e s m args below meth c A ls S hK Y hA hl hr hlk hZ
  have hx := S.1
  have hb := S.2.1
  have hl : lv_has ls 3 [(0, .ref (h 0)), (1, .int p1), (2, .int p2)] := hl
  unfold fX8_escapes at hrun
  refine lv_aload_n hx hb dX8_escapes_0 rfl (lv_at hl 0 rfl) ?_
  refine lv_iload_n hx hb dX8_escapes_1 rfl (lv_at hl 1 rfl) ?_
  refine lv_sipush (v := (-10006 : Int32)) hx hb dX8_escapes_2 (by decide) ?_
  obtain ⟨σ1, e_2, hrun⟩ := o_bh hrun
  refine cf_vv (As := [.int p1, .int (-10006 : Int32)]) (rest := []) S hK hA hZ Y hl.1 (mX8_hides l D cI cC h σ p1 (-10006 : Int32) σ1 e_2) kX8_49 (T := TX8) (N := 11) rfl (q0 := 0) rfl ⟨Nat.le_of_ble_eq_true rfl, Nat.le_of_ble_eq_true rfl⟩ rfl rfl (Nat.le_of_ble_eq_true rfl) ⟨Nat.le_of_ble_eq_true rfl, Nat.le_of_ble_eq_true rfl⟩ dX8_escapes_5 (fun H locs Y => ?_)
  refine lv_aload_n hx hb dX8_escapes_8 rfl (lv_at hl 0 rfl) ?_
  refine lv_iload_n hx hb dX8_escapes_9 rfl (lv_at hl 1 rfl) ?_
  refine lv_iconst (v := (0 : Int32)) hx hb dX8_escapes_10 (by decide) ?_
  refine lv_iload_n hx hb dX8_escapes_11 rfl (lv_at hl 2 rfl) ?_
  obtain ⟨σ3, e_4, hrun⟩ := o_bh hrun
  refine cf_vv (As := [.int p1, .int (0 : Int32), .int p2]) (rest := []) S hK hA hZ Y hl.1 (mX8_adds l D cI cC h σ1 p1 (0 : Int32) p2 σ3 e_4) kX8_76 (T := TX8) (N := 11) rfl (q0 := 0) rfl ⟨Nat.le_of_ble_eq_true rfl, Nat.le_of_ble_eq_true rfl⟩ rfl rfl (Nat.le_of_ble_eq_true rfl) ⟨Nat.le_of_ble_eq_true rfl, Nat.le_of_ble_eq_true rfl⟩ dX8_escapes_12 (fun H locs Y => ?_)
  refine lv_aload_n hx hb dX8_escapes_15 rfl (lv_at hl 0 rfl) ?_
  refine lv_iload_n hx hb dX8_escapes_16 rfl (lv_at hl 1 rfl) ?_
  refine lv_iconst (v := (4 : Int32)) hx hb dX8_escapes_17 (by decide) ?_
  refine lv_iconst (v := (1 : Int32)) hx hb dX8_escapes_18 (by decide) ?_
  obtain ⟨σ5, e_6, hrun⟩ := o_bh hrun
  refine cf_vv (As := [.int p1, .int (4 : Int32), .int (1 : Int32)]) (rest := []) S hK hA hZ Y hl.1 (mX8_adds l D cI cC h σ3 p1 (4 : Int32) (1 : Int32) σ5 e_6) kX8_76 (T := TX8) (N := 11) rfl (q0 := 0) rfl ⟨Nat.le_of_ble_eq_true rfl, Nat.le_of_ble_eq_true rfl⟩ rfl rfl (Nat.le_of_ble_eq_true rfl) ⟨Nat.le_of_ble_eq_true rfl, Nat.le_of_ble_eq_true rfl⟩ dX8_escapes_19 (fun H locs Y => ?_)
  cases hrun
  exact me_rv S hK Y hr hlk dX8_escapes_22
