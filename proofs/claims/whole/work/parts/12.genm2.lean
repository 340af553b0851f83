def lX8_fewestSteps_28 : Nat → Int32 → Int32 → Int32 → (sg_T) → Option (Int32 × Int32 × Int32)
  | 0, _, _, _, _ => none
  | n + 1, a1, a2, a3, σ => (if (16 : Int32) ≤ (a2 + a3) then (some (a1, a2, a3)) else (if a3 ≤ a2 then (if a1 ≤ ((a2 + a3) + a3) then (lX8_fewestSteps_28 n a1 a2 (a3 + (1 : Int32)) σ) else ((fX8_seesAll a2 a3 σ).bind fun r_6 => (if r_6 = 0 then (lX8_fewestSteps_28 n a1 a2 (a3 + (1 : Int32)) σ) else (lX8_fewestSteps_28 n ((a2 + a3) + a3) a2 (a3 + (1 : Int32)) σ)))) else (if a1 ≤ ((a2 + a3) + a2) then (lX8_fewestSteps_28 n a1 a2 (a3 + (1 : Int32)) σ) else ((fX8_seesAll a2 a3 σ).bind fun r_10 => (if r_10 = 0 then (lX8_fewestSteps_28 n a1 a2 (a3 + (1 : Int32)) σ) else (lX8_fewestSteps_28 n ((a2 + a3) + a2) a2 (a3 + (1 : Int32)) σ))))))
def lX8_fewestSteps_20 : Nat → Int32 → Int32 → (sg_T) → Option (Int32)
  | 0, _, _, _ => none
  | n + 1, a1, a2, σ => (if (16 : Int32) ≤ a2 then (some a1) else ((lX8_fewestSteps_28 70 a1 a2 (0 : Int32) σ).bind fun q_13 => (lX8_fewestSteps_20 n q_13.1 (q_13.2.1 + (1 : Int32)) σ)))
def fX8_fewestSteps (σ : sg_T) : Option (Int32) := (if ((σ 1) ((6 : Int32)).toNatClampNeg) = (2 : Int32) then (lX8_fewestSteps_20 70 (32 : Int32) (0 : Int32) σ) else (some (-10003 : Int32)))
set_option maxRecDepth 100000 in
set_option maxHeartbeats 4000000 in
theorem mX8_fewestSteps (l : Launch) (D : va_G) (cI cC : ClassId) (h : Nat → Nat) (σ : sg_T) (r : Int32) (hrun : fX8_fewestSteps σ = some r) : me_I l D (tM cI cC) yX8_fewestSteps cX8_fewestSteps 5 .int 2 48 (wM cI cC h σ) [.ref (h 0)] r (wM cI cC h σ) := by
  refine me_ofI (plainFor_of_name (by decide)) (Nat.le_of_ble_eq_true rfl) ?_
  intro p e s m args below meth c A ls S hK Y hA hl hr hlk hZ
  have hx := S.1
  have hb := S.2.1
  have hl : lv_has ls 5 [(0, .ref (h 0))] := hl
  have lp28 : ∀ (n : Nat) (a1 : Int32) (a2 : Int32) (a3 : Int32) (q_x : Int32 × Int32 × Int32), lX8_fewestSteps_28 n a1 a2 a3 σ = some q_x → (∀ (H : Heap) (locs : List Loc) (ls : Array Slot), dy_ D A s (wM cI cC h σ) H locs → lv_has ls 5 [(0, .ref (h 0)), (1, .int q_x.1), (2, .int q_x.2.1), (3, .int q_x.2.2)] → W p l e (rm_ 2 48) s m args below meth c H locs 0 0 (MQ below (me_Qi D (tM cI cC) A r (wM cI cC h σ)) args s 0 0 A) (F0 m 80 ls [])) → ∀ (H : Heap) (locs : List Loc) (ls : Array Slot), dy_ D A s (wM cI cC h σ) H locs → lv_has ls 5 [(0, .ref (h 0)), (1, .int a1), (2, .int a2), (3, .int a3)] → W p l e (rm_ 2 48) s m args below meth c H locs 0 0 (MQ below (me_Qi D (tM cI cC) A r (wM cI cC h σ)) args s 0 0 A) (F0 m 28 ls []) := by
    intro n
    induction n with
    | zero => intro a1 a2 a3 q_x hrun; cases hrun
    | succ n ih =>
      intro a1 a2 a3 q_x hrun kx H locs ls Y hl
      unfold lX8_fewestSteps_28 at hrun
      refine lv_iload_n hx hb dX8_fewestSteps_28 rfl (lv_at hl 2 rfl) ?_
      refine lv_iload_n hx hb dX8_fewestSteps_29 rfl (lv_at hl 3 rfl) ?_
      refine lv_iadd hx hb dX8_fewestSteps_30 ?_
      refine lv_bipush (v := (16 : Int32)) hx hb dX8_fewestSteps_31 (by decide) ?_
      refine lv_icmp_ge (tgt := 80) hx hb dX8_fewestSteps_33 (by decide) (fun c_3 => ?_) (fun c_3 => ?_)
      · have hrun := o_t hrun c_3
        cases hrun
        exact kx _ _ _ Y (lv_sub hl [0, 1, 2, 3] rfl)
      · have hrun := o_f hrun c_3
        refine lv_iload_n hx hb dX8_fewestSteps_36 rfl (lv_at hl 2 rfl) ?_
        refine lv_iload_n hx hb dX8_fewestSteps_37 rfl (lv_at hl 3 rfl) ?_
        refine lv_iadd hx hb dX8_fewestSteps_38 ?_
        refine lv_iload_n hx hb dX8_fewestSteps_39 rfl (lv_at hl 2 rfl) ?_
        refine lv_iload_n hx hb dX8_fewestSteps_40 rfl (lv_at hl 3 rfl) ?_
        refine lv_icmp_ge (tgt := 48) hx hb dX8_fewestSteps_41 (by decide) (fun c_4 => ?_) (fun c_4 => ?_)
        · have hrun := o_t hrun c_4
          refine lv_iload_n hx hb dX8_fewestSteps_48 rfl (lv_at hl 3 rfl) ?_
          refine lv_iadd hx hb dX8_fewestSteps_49 ?_
          refine lv_istore (lv' := [(4, .int ((a2 + a3) + a3)), (0, .ref (h 0)), (1, .int a1), (2, .int a2), (3, .int a3)]) hx hb dX8_fewestSteps_50 hl (Nat.le_of_ble_eq_true rfl) rfl (fun ls hl => ?_)
          refine lv_iload hx hb dX8_fewestSteps_52 (lv_at hl 0 rfl) ?_
          refine lv_iload_n hx hb dX8_fewestSteps_54 rfl (lv_at hl 2 rfl) ?_
          refine lv_icmp_ge (tgt := 72) hx hb dX8_fewestSteps_55 (by decide) (fun c_5 => ?_) (fun c_5 => ?_)
          · have hrun := o_t hrun c_5
            refine lv_iload_n hx hb dX8_fewestSteps_72 rfl (lv_at hl 2 rfl) ?_
            refine lv_istore_n (lv' := [(1, .int a1), (4, .int ((a2 + a3) + a3)), (0, .ref (h 0)), (2, .int a2), (3, .int a3)]) hx hb dX8_fewestSteps_73 rfl hl (Nat.le_of_ble_eq_true rfl) rfl (fun ls hl => ?_)
            refine lv_iinc (v := (a3 + (1 : Int32))) (lv' := [(3, .int (a3 + (1 : Int32))), (1, .int a1), (4, .int ((a2 + a3) + a3)), (0, .ref (h 0)), (2, .int a2)]) hx hb dX8_fewestSteps_74 hl (k := 4) rfl (by rfl) (Nat.le_of_ble_eq_true rfl) rfl (fun ls hl => ?_)
            refine lv_goto (tgt := 28) hx hb dX8_fewestSteps_77 (by decide) ?_
            exact ih a1 a2 (a3 + (1 : Int32)) q_x hrun kx _ _ _ Y (lv_sub hl [3, 1, 4, 0] rfl)
          · have hrun := o_f hrun c_5
            refine lv_aload_n hx hb dX8_fewestSteps_58 rfl (lv_at hl 1 rfl) ?_
            refine lv_iload_n hx hb dX8_fewestSteps_59 rfl (lv_at hl 3 rfl) ?_
            refine lv_iload_n hx hb dX8_fewestSteps_60 rfl (lv_at hl 4 rfl) ?_
            obtain ⟨r_6, e_7, hrun⟩ := o_bh hrun
            refine cf_v (As := [.int a2, .int a3]) (rest := []) S hK hA hZ Y hl.1 (mX8_seesAll l D cI cC h σ a2 a3 r_6 e_7) kX8_142 (T := TX8) (N := 11) rfl (q0 := 0) rfl ⟨Nat.le_of_ble_eq_true rfl, Nat.le_of_ble_eq_true rfl⟩ rfl rfl (Nat.le_of_ble_eq_true rfl) ⟨Nat.le_of_ble_eq_true rfl, Nat.le_of_ble_eq_true rfl⟩ dX8_fewestSteps_61 (fun H locs Y => ?_)
            refine lv_if_eq (tgt := 72) hx hb dX8_fewestSteps_64 (by decide) (fun c_8 => ?_) (fun c_8 => ?_)
            · have hrun := o_t hrun c_8
              refine lv_iload_n hx hb dX8_fewestSteps_72 rfl (lv_at hl 2 rfl) ?_
              refine lv_istore_n (lv' := [(1, .int a1), (4, .int ((a2 + a3) + a3)), (0, .ref (h 0)), (2, .int a2), (3, .int a3)]) hx hb dX8_fewestSteps_73 rfl hl (Nat.le_of_ble_eq_true rfl) rfl (fun ls hl => ?_)
              refine lv_iinc (v := (a3 + (1 : Int32))) (lv' := [(3, .int (a3 + (1 : Int32))), (1, .int a1), (4, .int ((a2 + a3) + a3)), (0, .ref (h 0)), (2, .int a2)]) hx hb dX8_fewestSteps_74 hl (k := 4) rfl (by rfl) (Nat.le_of_ble_eq_true rfl) rfl (fun ls hl => ?_)
              refine lv_goto (tgt := 28) hx hb dX8_fewestSteps_77 (by decide) ?_
              exact ih a1 a2 (a3 + (1 : Int32)) q_x hrun kx _ _ _ Y (lv_sub hl [3, 1, 4, 0] rfl)
            · have hrun := o_f hrun c_8
              refine lv_iload hx hb dX8_fewestSteps_67 (lv_at hl 0 rfl) ?_
              refine lv_goto (tgt := 73) hx hb dX8_fewestSteps_69 (by decide) ?_
              refine lv_istore_n (lv' := [(1, .int ((a2 + a3) + a3)), (4, .int ((a2 + a3) + a3)), (0, .ref (h 0)), (2, .int a2), (3, .int a3)]) hx hb dX8_fewestSteps_73 rfl hl (Nat.le_of_ble_eq_true rfl) rfl (fun ls hl => ?_)
              refine lv_iinc (v := (a3 + (1 : Int32))) (lv' := [(3, .int (a3 + (1 : Int32))), (1, .int ((a2 + a3) + a3)), (4, .int ((a2 + a3) + a3)), (0, .ref (h 0)), (2, .int a2)]) hx hb dX8_fewestSteps_74 hl (k := 4) rfl (by rfl) (Nat.le_of_ble_eq_true rfl) rfl (fun ls hl => ?_)
              refine lv_goto (tgt := 28) hx hb dX8_fewestSteps_77 (by decide) ?_
              exact ih ((a2 + a3) + a3) a2 (a3 + (1 : Int32)) q_x hrun kx _ _ _ Y (lv_sub hl [3, 1, 4, 0] rfl)
        · have hrun := o_f hrun c_4
          refine lv_iload_n hx hb dX8_fewestSteps_44 rfl (lv_at hl 2 rfl) ?_
          refine lv_goto (tgt := 49) hx hb dX8_fewestSteps_45 (by decide) ?_
          refine lv_iadd hx hb dX8_fewestSteps_49 ?_
          refine lv_istore (lv' := [(4, .int ((a2 + a3) + a2)), (0, .ref (h 0)), (1, .int a1), (2, .int a2), (3, .int a3)]) hx hb dX8_fewestSteps_50 hl (Nat.le_of_ble_eq_true rfl) rfl (fun ls hl => ?_)
          refine lv_iload hx hb dX8_fewestSteps_52 (lv_at hl 0 rfl) ?_
          refine lv_iload_n hx hb dX8_fewestSteps_54 rfl (lv_at hl 2 rfl) ?_
          refine lv_icmp_ge (tgt := 72) hx hb dX8_fewestSteps_55 (by decide) (fun c_9 => ?_) (fun c_9 => ?_)
          · have hrun := o_t hrun c_9
            refine lv_iload_n hx hb dX8_fewestSteps_72 rfl (lv_at hl 2 rfl) ?_
            refine lv_istore_n (lv' := [(1, .int a1), (4, .int ((a2 + a3) + a2)), (0, .ref (h 0)), (2, .int a2), (3, .int a3)]) hx hb dX8_fewestSteps_73 rfl hl (Nat.le_of_ble_eq_true rfl) rfl (fun ls hl => ?_)
            refine lv_iinc (v := (a3 + (1 : Int32))) (lv' := [(3, .int (a3 + (1 : Int32))), (1, .int a1), (4, .int ((a2 + a3) + a2)), (0, .ref (h 0)), (2, .int a2)]) hx hb dX8_fewestSteps_74 hl (k := 4) rfl (by rfl) (Nat.le_of_ble_eq_true rfl) rfl (fun ls hl => ?_)
            refine lv_goto (tgt := 28) hx hb dX8_fewestSteps_77 (by decide) ?_
            exact ih a1 a2 (a3 + (1 : Int32)) q_x hrun kx _ _ _ Y (lv_sub hl [3, 1, 4, 0] rfl)
          · have hrun := o_f hrun c_9
            refine lv_aload_n hx hb dX8_fewestSteps_58 rfl (lv_at hl 1 rfl) ?_
            refine lv_iload_n hx hb dX8_fewestSteps_59 rfl (lv_at hl 3 rfl) ?_
            refine lv_iload_n hx hb dX8_fewestSteps_60 rfl (lv_at hl 4 rfl) ?_
            obtain ⟨r_10, e_11, hrun⟩ := o_bh hrun
            refine cf_v (As := [.int a2, .int a3]) (rest := []) S hK hA hZ Y hl.1 (mX8_seesAll l D cI cC h σ a2 a3 r_10 e_11) kX8_142 (T := TX8) (N := 11) rfl (q0 := 0) rfl ⟨Nat.le_of_ble_eq_true rfl, Nat.le_of_ble_eq_true rfl⟩ rfl rfl (Nat.le_of_ble_eq_true rfl) ⟨Nat.le_of_ble_eq_true rfl, Nat.le_of_ble_eq_true rfl⟩ dX8_fewestSteps_61 (fun H locs Y => ?_)
            refine lv_if_eq (tgt := 72) hx hb dX8_fewestSteps_64 (by decide) (fun c_12 => ?_) (fun c_12 => ?_)
            · have hrun := o_t hrun c_12
              refine lv_iload_n hx hb dX8_fewestSteps_72 rfl (lv_at hl 2 rfl) ?_
              refine lv_istore_n (lv' := [(1, .int a1), (4, .int ((a2 + a3) + a2)), (0, .ref (h 0)), (2, .int a2), (3, .int a3)]) hx hb dX8_fewestSteps_73 rfl hl (Nat.le_of_ble_eq_true rfl) rfl (fun ls hl => ?_)
              refine lv_iinc (v := (a3 + (1 : Int32))) (lv' := [(3, .int (a3 + (1 : Int32))), (1, .int a1), (4, .int ((a2 + a3) + a2)), (0, .ref (h 0)), (2, .int a2)]) hx hb dX8_fewestSteps_74 hl (k := 4) rfl (by rfl) (Nat.le_of_ble_eq_true rfl) rfl (fun ls hl => ?_)
              refine lv_goto (tgt := 28) hx hb dX8_fewestSteps_77 (by decide) ?_
              exact ih a1 a2 (a3 + (1 : Int32)) q_x hrun kx _ _ _ Y (lv_sub hl [3, 1, 4, 0] rfl)
            · have hrun := o_f hrun c_12
              refine lv_iload hx hb dX8_fewestSteps_67 (lv_at hl 0 rfl) ?_
              refine lv_goto (tgt := 73) hx hb dX8_fewestSteps_69 (by decide) ?_
              refine lv_istore_n (lv' := [(1, .int ((a2 + a3) + a2)), (4, .int ((a2 + a3) + a2)), (0, .ref (h 0)), (2, .int a2), (3, .int a3)]) hx hb dX8_fewestSteps_73 rfl hl (Nat.le_of_ble_eq_true rfl) rfl (fun ls hl => ?_)
              refine lv_iinc (v := (a3 + (1 : Int32))) (lv' := [(3, .int (a3 + (1 : Int32))), (1, .int ((a2 + a3) + a2)), (4, .int ((a2 + a3) + a2)), (0, .ref (h 0)), (2, .int a2)]) hx hb dX8_fewestSteps_74 hl (k := 4) rfl (by rfl) (Nat.le_of_ble_eq_true rfl) rfl (fun ls hl => ?_)
              refine lv_goto (tgt := 28) hx hb dX8_fewestSteps_77 (by decide) ?_
              exact ih ((a2 + a3) + a2) a2 (a3 + (1 : Int32)) q_x hrun kx _ _ _ Y (lv_sub hl [3, 1, 4, 0] rfl)
  have lp20 : ∀ (n : Nat) (a1 : Int32) (a2 : Int32), lX8_fewestSteps_20 n a1 a2 σ = some r → ∀ (H : Heap) (locs : List Loc) (ls : Array Slot), dy_ D A s (wM cI cC h σ) H locs → lv_has ls 5 [(0, .ref (h 0)), (1, .int a1), (2, .int a2)] → W p l e (rm_ 2 48) s m args below meth c H locs 0 0 (MQ below (me_Qi D (tM cI cC) A r (wM cI cC h σ)) args s 0 0 A) (F0 m 20 ls []) := by
    intro n
    induction n with
    | zero => intro a1 a2 hrun; cases hrun
    | succ n ih =>
      intro a1 a2 hrun H locs ls Y hl
      unfold lX8_fewestSteps_20 at hrun
      refine lv_iload_n hx hb dX8_fewestSteps_20 rfl (lv_at hl 2 rfl) ?_
      refine lv_bipush (v := (16 : Int32)) hx hb dX8_fewestSteps_21 (by decide) ?_
      refine lv_icmp_ge (tgt := 86) hx hb dX8_fewestSteps_23 (by decide) (fun c_2 => ?_) (fun c_2 => ?_)
      · have hrun := o_t hrun c_2
        refine lv_iload_n hx hb dX8_fewestSteps_86 rfl (lv_at hl 1 rfl) ?_
        cases hrun
        exact me_ri S hK Y hr hlk rfl dX8_fewestSteps_87
      · have hrun := o_f hrun c_2
        refine lv_iconst (v := (0 : Int32)) hx hb dX8_fewestSteps_26 (by decide) ?_
        refine lv_istore_n (lv' := [(3, .int (0 : Int32)), (0, .ref (h 0)), (1, .int a1), (2, .int a2)]) hx hb dX8_fewestSteps_27 rfl hl (Nat.le_of_ble_eq_true rfl) rfl (fun ls hl => ?_)
        obtain ⟨q_13, e_14, hrun⟩ := o_bh hrun
        refine lp28 70 a1 a2 (0 : Int32) q_13 e_14 (fun H locs ls Y hl => ?_) _ _ _ Y (lv_sub hl [1, 2, 3, 0] rfl)
        refine lv_iinc (v := (q_13.2.1 + (1 : Int32))) (lv' := [(2, .int (q_13.2.1 + (1 : Int32))), (0, .ref (h 0)), (1, .int q_13.1), (3, .int q_13.2.2)]) hx hb dX8_fewestSteps_80 hl (k := 2) rfl (by rfl) (Nat.le_of_ble_eq_true rfl) rfl (fun ls hl => ?_)
        refine lv_goto (tgt := 20) hx hb dX8_fewestSteps_83 (by decide) ?_
        exact ih q_13.1 (q_13.2.1 + (1 : Int32)) hrun _ _ _ Y (lv_sub hl [1, 2, 0] rfl)
  unfold fX8_fewestSteps at hrun
  refine lv_aload_n hx hb dX8_fewestSteps_0 rfl (lv_at hl 0 rfl) ?_
  refine ig S hK Y fX8_7 0 rfl (v := .ref (h 1)) rfl dX8_fewestSteps_1 ?_
  refine lv_bipush (v := (6 : Int32)) hx hb dX8_fewestSteps_4 (by decide) ?_
  refine ia S hK Y 1 0 (f := (σ 1)) rfl rfl (show ¬ ((6 : Int32) < 0 ∨ 108 ≤ ((6 : Int32)).toNatClampNeg) by decide) dX8_fewestSteps_6 ?_
  refine lv_iconst (v := (2 : Int32)) hx hb dX8_fewestSteps_7 (by decide) ?_
  refine lv_icmp_eq (tgt := 15) hx hb dX8_fewestSteps_8 (by decide) (fun c_1 => ?_) (fun c_1 => ?_)
  · have hrun := o_t hrun c_1
    refine lv_bipush (v := (32 : Int32)) hx hb dX8_fewestSteps_15 (by decide) ?_
    refine lv_istore_n (lv' := [(1, .int (32 : Int32)), (0, .ref (h 0))]) hx hb dX8_fewestSteps_17 rfl hl (Nat.le_of_ble_eq_true rfl) rfl (fun ls hl => ?_)
    refine lv_iconst (v := (0 : Int32)) hx hb dX8_fewestSteps_18 (by decide) ?_
    refine lv_istore_n (lv' := [(2, .int (0 : Int32)), (1, .int (32 : Int32)), (0, .ref (h 0))]) hx hb dX8_fewestSteps_19 rfl hl (Nat.le_of_ble_eq_true rfl) rfl (fun ls hl => ?_)
    exact lp20 70 (32 : Int32) (0 : Int32) hrun _ _ _ Y (lv_sub hl [2, 1, 0] rfl)
  · have hrun := o_f hrun c_1
    refine lv_sipush (v := (-10003 : Int32)) hx hb dX8_fewestSteps_11 (by decide) ?_
    cases hrun
    exact me_ri S hK Y hr hlk rfl dX8_fewestSteps_14
def fX8_append (p1 : Int32) (σ : sg_T) : Option (Int32 × sg_T) := ((fX8_in p1 (33 : Int32) (126 : Int32)).bind fun r_1 => (if r_1 = 0 then (some ((-10002 : Int32), σ)) else (if (σ 0 2) = (60 : Int32) then (some ((-10004 : Int32), σ)) else (o_x (σ 0 2) 60 (some (((σ 0 2) + (1 : Int32)), (sg_a (sg_a σ 4 (upd (σ 4) ((σ 0 2)).toNatClampNeg (vp_nar .char (p1.toUInt32 % 65536).toInt32))) 0 (sg_u (σ 0) 2 ((σ 0 2) + (1 : Int32))))))))))
set_option maxRecDepth 100000 in
set_option maxHeartbeats 4000000 in
theorem mX8_append (l : Launch) (D : va_G) (cI cC : ClassId) (h : Nat → Nat) (σ : sg_T) (p1 : Int32) (r : Int32) (σ' : sg_T) (hrun : fX8_append p1 σ = some (r, σ')) : me_I l D (tM cI cC) yX8_append cX8_append 2 .int 1 22 (wM cI cC h σ) [.ref (h 0), .int p1] r (wM cI cC h σ') := by
  refine me_ofI (plainFor_of_name (by decide)) (Nat.le_of_ble_eq_true rfl) ?_
  intro p e s m args below meth c A ls S hK Y hA hl hr hlk hZ
  have hx := S.1
  have hb := S.2.1
  have hl : lv_has ls 2 [(0, .ref (h 0)), (1, .int p1)] := hl
  unfold fX8_append at hrun
  refine lv_iload_n hx hb dX8_append_0 rfl (lv_at hl 1 rfl) ?_
  refine lv_bipush (v := (33 : Int32)) hx hb dX8_append_1 (by decide) ?_
  refine lv_bipush (v := (126 : Int32)) hx hb dX8_append_3 (by decide) ?_
  obtain ⟨r_1, e_2, hrun⟩ := o_bh hrun
  refine cp_s (As := [.int p1, .int (33 : Int32), .int (126 : Int32)]) (rest := []) S hK hA hZ Y hl.1 (mX8_in l D p1 (33 : Int32) (126 : Int32) r_1 e_2) kX8_26 ⟨Nat.le_of_ble_eq_true rfl, Nat.le_of_ble_eq_true rfl⟩ rfl rfl (Nat.le_of_ble_eq_true rfl) ⟨Nat.le_of_ble_eq_true rfl, Nat.le_of_ble_eq_true rfl⟩ dX8_append_5 (fun H locs Y => ?_)
  refine lv_if_ne (tgt := 15) hx hb dX8_append_8 (by decide) (fun c_3 => ?_) (fun c_3 => ?_)
  · have hrun := o_f hrun c_3
    refine lv_aload_n hx hb dX8_append_15 rfl (lv_at hl 0 rfl) ?_
    refine ig S hK Y fX8_145 0 rfl (v := .int (σ 0 2)) rfl dX8_append_16 ?_
    refine lv_bipush (v := (60 : Int32)) hx hb dX8_append_19 (by decide) ?_
    refine lv_icmp_ne (tgt := 28) hx hb dX8_append_21 (by decide) (fun c_4 => ?_) (fun c_4 => ?_)
    · have hrun := o_f hrun c_4
      refine lv_aload_n hx hb dX8_append_28 rfl (lv_at hl 0 rfl) ?_
      refine ig S hK Y fX8_19 0 rfl (v := .ref (h 4)) rfl dX8_append_29 ?_
      refine lv_aload_n hx hb dX8_append_32 rfl (lv_at hl 0 rfl) ?_
      refine ig S hK Y fX8_145 0 rfl (v := .int (σ 0 2)) rfl dX8_append_33 ?_
      refine lv_iload_n hx hb dX8_append_36 rfl (lv_at hl 1 rfl) ?_
      refine lv_i2c (v := (p1.toUInt32 % 65536).toInt32) hx hb dX8_append_37 rfl ?_
      obtain ⟨b_5, hrun⟩ := o_xh hrun
      refine icw S hK Y 4 1 (f := (σ 4)) rfl rfl b_5 (ws' := (wM cI cC h (sg_a σ 4 (upd (σ 4) ((σ 0 2)).toNatClampNeg (vp_nar .char (p1.toUInt32 % 65536).toInt32))))) (wM_a4 _ _ _) dX8_append_38 (fun H locs Y => ?_)
      refine lv_aload_n hx hb dX8_append_39 rfl (lv_at hl 0 rfl) ?_
      refine lv_dup hx hb dX8_append_40 rfl ?_
      refine ig S hK Y fX8_145 0 rfl (v := .int (σ 0 2)) rfl dX8_append_41 ?_
      refine lv_iconst (v := (1 : Int32)) hx hb dX8_append_44 (by decide) ?_
      refine lv_iadd hx hb dX8_append_45 ?_
      refine ip S hK Y fX8_145 fpX8 rfl 0 (fs := vM h (σ 0)) rfl rfl rfl (Nat.le_of_ble_eq_true rfl) (ws' := (wM cI cC h (sg_a (sg_a σ 4 (upd (σ 4) ((σ 0 2)).toNatClampNeg (vp_nar .char (p1.toUInt32 % 65536).toInt32))) 0 (sg_u (σ 0) 2 ((σ 0 2) + (1 : Int32)))))) (wM_f2 _ _ _ _) dX8_append_46 (fun H locs Y => ?_)
      refine lv_aload_n hx hb dX8_append_49 rfl (lv_at hl 0 rfl) ?_
      refine ig S hK Y fX8_145 0 rfl (v := .int ((σ 0 2) + (1 : Int32))) rfl dX8_append_50 ?_
      cases hrun
      exact me_ri S hK Y hr hlk rfl dX8_append_53
    · have hrun := o_t hrun c_4
      refine lv_sipush (v := (-10004 : Int32)) hx hb dX8_append_24 (by decide) ?_
      cases hrun
      exact me_ri S hK Y hr hlk rfl dX8_append_27
  · have hrun := o_t hrun c_3
    refine lv_sipush (v := (-10002 : Int32)) hx hb dX8_append_11 (by decide) ?_
    cases hrun
    exact me_ri S hK Y hr hlk rfl dX8_append_14
def fX8_clearText (σ : sg_T) : Option (Int32 × sg_T) := (some ((σ 0 2), (sg_a σ 0 (sg_u (σ 0) 2 (0 : Int32)))))
set_option maxRecDepth 100000 in
set_option maxHeartbeats 4000000 in
theorem mX8_clearText (l : Launch) (D : va_G) (cI cC : ClassId) (h : Nat → Nat) (σ : sg_T) (r : Int32) (σ' : sg_T) (hrun : fX8_clearText σ = some (r, σ')) : me_I l D (tM cI cC) yX8_clearText cX8_clearText 2 .int 0 0 (wM cI cC h σ) [.ref (h 0)] r (wM cI cC h σ') := by
  refine me_ofI (plainFor_of_name (by decide)) (Nat.le_of_ble_eq_true rfl) ?_
  intro p e s m args below meth c A ls S hK Y hA hl hr hlk hZ
  have hx := S.1
  have hb := S.2.1
  have hl : lv_has ls 2 [(0, .ref (h 0))] := hl
  unfold fX8_clearText at hrun
  refine lv_aload_n hx hb dX8_clearText_0 rfl (lv_at hl 0 rfl) ?_
  refine ig S hK Y fX8_145 0 rfl (v := .int (σ 0 2)) rfl dX8_clearText_1 ?_
  refine lv_istore_n (lv' := [(1, .int (σ 0 2)), (0, .ref (h 0))]) hx hb dX8_clearText_4 rfl hl (Nat.le_of_ble_eq_true rfl) rfl (fun ls hl => ?_)
  refine lv_aload_n hx hb dX8_clearText_5 rfl (lv_at hl 1 rfl) ?_
  refine lv_iconst (v := (0 : Int32)) hx hb dX8_clearText_6 (by decide) ?_
  refine ip S hK Y fX8_145 fpX8 rfl 0 (fs := vM h (σ 0)) rfl rfl rfl (Nat.le_of_ble_eq_true rfl) (ws' := (wM cI cC h (sg_a σ 0 (sg_u (σ 0) 2 (0 : Int32))))) (wM_f2 _ _ _ _) dX8_clearText_7 (fun H locs Y => ?_)
  refine lv_iload_n hx hb dX8_clearText_10 rfl (lv_at hl 0 rfl) ?_
  cases hrun
  exact me_ri S hK Y hr hlk rfl dX8_clearText_11
def fX8_letter (σ : sg_T) : Option (Int32) := (if (σ 0 2) ≤ (σ 0 4) then (some (-10006 : Int32)) else (o_x (σ 0 4) 60 (some ((σ 4) ((σ 0 4)).toNatClampNeg))))
set_option maxRecDepth 100000 in
set_option maxHeartbeats 4000000 in
theorem mX8_letter (l : Launch) (D : va_G) (cI cC : ClassId) (h : Nat → Nat) (σ : sg_T) (r : Int32) (hrun : fX8_letter σ = some r) : me_I l D (tM cI cC) yX8_letter cX8_letter 1 .int 0 0 (wM cI cC h σ) [.ref (h 0)] r (wM cI cC h σ) := by
  refine me_ofI (plainFor_of_name (by decide)) (Nat.le_of_ble_eq_true rfl) ?_
  intro p e s m args below meth c A ls S hK Y hA hl hr hlk hZ
  have hx := S.1
  have hb := S.2.1
  have hl : lv_has ls 1 [(0, .ref (h 0))] := hl
  unfold fX8_letter at hrun
  refine lv_aload_n hx hb dX8_letter_0 rfl (lv_at hl 0 rfl) ?_
  refine ig S hK Y fX8_148 0 rfl (v := .int (σ 0 4)) rfl dX8_letter_1 ?_
  refine lv_aload_n hx hb dX8_letter_4 rfl (lv_at hl 0 rfl) ?_
  refine ig S hK Y fX8_145 0 rfl (v := .int (σ 0 2)) rfl dX8_letter_5 ?_
  refine lv_icmp_ge (tgt := 23) hx hb dX8_letter_8 (by decide) (fun c_1 => ?_) (fun c_1 => ?_)
  · have hrun := o_t hrun c_1
    refine lv_sipush (v := (-10006 : Int32)) hx hb dX8_letter_23 (by decide) ?_
    cases hrun
    exact me_ri S hK Y hr hlk rfl dX8_letter_26
  · have hrun := o_f hrun c_1
    refine lv_aload_n hx hb dX8_letter_11 rfl (lv_at hl 0 rfl) ?_
    refine ig S hK Y fX8_19 0 rfl (v := .ref (h 4)) rfl dX8_letter_12 ?_
    refine lv_aload_n hx hb dX8_letter_15 rfl (lv_at hl 0 rfl) ?_
    refine ig S hK Y fX8_148 0 rfl (v := .int (σ 0 4)) rfl dX8_letter_16 ?_
    obtain ⟨b_2, hrun⟩ := o_xh hrun
    refine ica S hK Y 4 1 (f := (σ 4)) rfl rfl b_2 dX8_letter_19 ?_
    refine lv_goto (tgt := 26) hx hb dX8_letter_20 (by decide) ?_
    cases hrun
    exact me_ri S hK Y hr hlk rfl dX8_letter_26
def fX8_wants (p1 : Int32) (σ : sg_T) : Option (sg_T) := (if (σ 0 5) = (-10006 : Int32) then (if p1 = 0 then (some ((sg_a (sg_a σ 0 (sg_u (σ 0) 5 (σ 0 4))) 0 (sg_u (sg_u (σ 0) 5 (σ 0 4)) 4 ((σ 0 4) + (1 : Int32)))))) else (some ((sg_a (sg_a σ 0 (sg_u (σ 0) 5 (-10006 : Int32))) 0 (sg_u (sg_u (σ 0) 5 (-10006 : Int32)) 4 ((σ 0 4) + (1 : Int32))))))) else (some (σ)))
set_option maxRecDepth 100000 in
set_option maxHeartbeats 4000000 in
theorem mX8_wants (l : Launch) (D : va_G) (cI cC : ClassId) (h : Nat → Nat) (σ : sg_T) (p1 : Int32) (σ' : sg_T) (hrun : fX8_wants p1 σ = some σ') : me_V l D (tM cI cC) yX8_wants cX8_wants 2 0 0 (wM cI cC h σ) [.ref (h 0), .int p1] (wM cI cC h σ') := by
  refine me_ofV (plainFor_of_name (by decide)) (Nat.le_of_ble_eq_true rfl) ?_
  intro p e s m args below meth c A ls S hK Y hA hl hr hlk hZ
  have hx := S.1
  have hb := S.2.1
  have hl : lv_has ls 2 [(0, .ref (h 0)), (1, .int p1)] := hl
  unfold fX8_wants at hrun
  refine lv_aload_n hx hb dX8_wants_0 rfl (lv_at hl 0 rfl) ?_
  refine ig S hK Y fX8_151 0 rfl (v := .int (σ 0 5)) rfl dX8_wants_1 ?_
  refine lv_sipush (v := (-10006 : Int32)) hx hb dX8_wants_4 (by decide) ?_
  refine lv_icmp_ne (tgt := 38) hx hb dX8_wants_7 (by decide) (fun c_1 => ?_) (fun c_1 => ?_)
  · have hrun := o_f hrun c_1
    cases hrun
    exact me_rv S hK Y hr hlk dX8_wants_38
  · have hrun := o_t hrun c_1
    refine lv_aload_n hx hb dX8_wants_10 rfl (lv_at hl 0 rfl) ?_
    refine lv_iload_n hx hb dX8_wants_11 rfl (lv_at hl 1 rfl) ?_
    refine lv_if_eq (tgt := 21) hx hb dX8_wants_12 (by decide) (fun c_2 => ?_) (fun c_2 => ?_)
    · have hrun := o_t hrun c_2
      refine lv_aload_n hx hb dX8_wants_21 rfl (lv_at hl 0 rfl) ?_
      refine ig S hK Y fX8_148 0 rfl (v := .int (σ 0 4)) rfl dX8_wants_22 ?_
      refine ip S hK Y fX8_151 fpX8 rfl 0 (fs := vM h (σ 0)) rfl rfl rfl (Nat.le_of_ble_eq_true rfl) (ws' := (wM cI cC h (sg_a σ 0 (sg_u (σ 0) 5 (σ 0 4))))) (wM_f5 _ _ _ _) dX8_wants_25 (fun H locs Y => ?_)
      refine lv_aload_n hx hb dX8_wants_28 rfl (lv_at hl 0 rfl) ?_
      refine lv_dup hx hb dX8_wants_29 rfl ?_
      refine ig S hK Y fX8_148 0 rfl (v := .int (σ 0 4)) rfl dX8_wants_30 ?_
      refine lv_iconst (v := (1 : Int32)) hx hb dX8_wants_33 (by decide) ?_
      refine lv_iadd hx hb dX8_wants_34 ?_
      refine ip S hK Y fX8_148 fpX8 rfl 0 (fs := vM h (sg_u (σ 0) 5 (σ 0 4))) rfl rfl rfl (Nat.le_of_ble_eq_true rfl) (ws' := (wM cI cC h (sg_a (sg_a σ 0 (sg_u (σ 0) 5 (σ 0 4))) 0 (sg_u (sg_u (σ 0) 5 (σ 0 4)) 4 ((σ 0 4) + (1 : Int32)))))) (wM_f4 _ _ _ _) dX8_wants_35 (fun H locs Y => ?_)
      cases hrun
      exact me_rv S hK Y hr hlk dX8_wants_38
    · have hrun := o_f hrun c_2
      refine lv_sipush (v := (-10006 : Int32)) hx hb dX8_wants_15 (by decide) ?_
      refine lv_goto (tgt := 25) hx hb dX8_wants_18 (by decide) ?_
      refine ip S hK Y fX8_151 fpX8 rfl 0 (fs := vM h (σ 0)) rfl rfl rfl (Nat.le_of_ble_eq_true rfl) (ws' := (wM cI cC h (sg_a σ 0 (sg_u (σ 0) 5 (-10006 : Int32))))) (wM_f5 _ _ _ _) dX8_wants_25 (fun H locs Y => ?_)
      refine lv_aload_n hx hb dX8_wants_28 rfl (lv_at hl 0 rfl) ?_
      refine lv_dup hx hb dX8_wants_29 rfl ?_
      refine ig S hK Y fX8_148 0 rfl (v := .int (σ 0 4)) rfl dX8_wants_30 ?_
      refine lv_iconst (v := (1 : Int32)) hx hb dX8_wants_33 (by decide) ?_
      refine lv_iadd hx hb dX8_wants_34 ?_
      refine ip S hK Y fX8_148 fpX8 rfl 0 (fs := vM h (sg_u (σ 0) 5 (-10006 : Int32))) rfl rfl rfl (Nat.le_of_ble_eq_true rfl) (ws' := (wM cI cC h (sg_a (sg_a σ 0 (sg_u (σ 0) 5 (-10006 : Int32))) 0 (sg_u (sg_u (σ 0) 5 (-10006 : Int32)) 4 ((σ 0 4) + (1 : Int32)))))) (wM_f4 _ _ _ _) dX8_wants_35 (fun H locs Y => ?_)
      cases hrun
      exact me_rv S hK Y hr hlk dX8_wants_38
def fX8_readMove (σ : sg_T) : Option (sg_T) := ((fX8_letter σ).bind fun r_1 => (if r_1 = (104 : Int32) then ((fX8_wants (1 : Int32) σ).bind fun σ4 => (o_x ((3 : Int32) * (σ4 0 3)) 93 ((fX8_letter (sg_a σ4 5 (upd (σ4 5) (((3 : Int32) * (σ4 0 3))).toNatClampNeg r_1))).bind fun r_7 => (o_x (((3 : Int32) * (σ4 0 3)) + (1 : Int32)) 93 ((fX8_letter (sg_a (sg_a σ4 5 (upd (σ4 5) (((3 : Int32) * (σ4 0 3))).toNatClampNeg r_1)) 5 (upd (upd (σ4 5) (((3 : Int32) * (σ4 0 3))).toNatClampNeg r_1) ((((3 : Int32) * (σ4 0 3)) + (1 : Int32))).toNatClampNeg (r_7 - (48 : Int32))))).bind fun r_10 => ((fX8_in r_10 (48 : Int32) (55 : Int32)).bind fun r_12 => ((fX8_wants r_12 (sg_a (sg_a σ4 5 (upd (σ4 5) (((3 : Int32) * (σ4 0 3))).toNatClampNeg r_1)) 5 (upd (upd (σ4 5) (((3 : Int32) * (σ4 0 3))).toNatClampNeg r_1) ((((3 : Int32) * (σ4 0 3)) + (1 : Int32))).toNatClampNeg (r_7 - (48 : Int32))))).bind fun σ14 => ((fX8_letter σ14).bind fun r_16 => (o_x (((3 : Int32) * (σ4 0 3)) + (2 : Int32)) 93 ((fX8_letter (sg_a σ14 5 (upd (σ14 5) ((((3 : Int32) * (σ4 0 3)) + (2 : Int32))).toNatClampNeg (r_16 - (97 : Int32))))).bind fun r_19 => ((fX8_in r_19 (97 : Int32) (112 : Int32)).bind fun r_21 => ((fX8_wants r_21 (sg_a σ14 5 (upd (σ14 5) ((((3 : Int32) * (σ4 0 3)) + (2 : Int32))).toNatClampNeg (r_16 - (97 : Int32))))).bind fun σ23 => (some ((sg_a σ23 0 (sg_u (σ23 0) 3 ((σ23 0 3) + (1 : Int32)))))))))))))))))) else (if r_1 = (98 : Int32) then ((fX8_wants (1 : Int32) σ).bind fun σ26 => (o_x ((3 : Int32) * (σ26 0 3)) 93 (some ((sg_a (sg_a σ26 5 (upd (σ26 5) (((3 : Int32) * (σ26 0 3))).toNatClampNeg r_1)) 0 (sg_u (σ26 0) 3 ((σ26 0 3) + (1 : Int32)))))))) else (if r_1 = (43 : Int32) then ((fX8_wants (1 : Int32) σ).bind fun σ30 => (o_x ((3 : Int32) * (σ30 0 3)) 93 (some ((sg_a (sg_a σ30 5 (upd (σ30 5) (((3 : Int32) * (σ30 0 3))).toNatClampNeg r_1)) 0 (sg_u (σ30 0) 3 ((σ30 0 3) + (1 : Int32)))))))) else (if r_1 = (45 : Int32) then ((fX8_wants (1 : Int32) σ).bind fun σ34 => (o_x ((3 : Int32) * (σ34 0 3)) 93 (some ((sg_a (sg_a σ34 5 (upd (σ34 5) (((3 : Int32) * (σ34 0 3))).toNatClampNeg r_1)) 0 (sg_u (σ34 0) 3 ((σ34 0 3) + (1 : Int32)))))))) else (if r_1 = (99 : Int32) then ((fX8_wants (1 : Int32) σ).bind fun σ38 => (o_x ((3 : Int32) * (σ38 0 3)) 93 ((fX8_letter (sg_a σ38 5 (upd (σ38 5) (((3 : Int32) * (σ38 0 3))).toNatClampNeg r_1))).bind fun r_41 => (o_x (((3 : Int32) * (σ38 0 3)) + (1 : Int32)) 93 ((fX8_letter (sg_a (sg_a σ38 5 (upd (σ38 5) (((3 : Int32) * (σ38 0 3))).toNatClampNeg r_1)) 5 (upd (upd (σ38 5) (((3 : Int32) * (σ38 0 3))).toNatClampNeg r_1) ((((3 : Int32) * (σ38 0 3)) + (1 : Int32))).toNatClampNeg (r_41 - (48 : Int32))))).bind fun r_44 => ((fX8_in r_44 (48 : Int32) (55 : Int32)).bind fun r_46 => ((fX8_wants r_46 (sg_a (sg_a σ38 5 (upd (σ38 5) (((3 : Int32) * (σ38 0 3))).toNatClampNeg r_1)) 5 (upd (upd (σ38 5) (((3 : Int32) * (σ38 0 3))).toNatClampNeg r_1) ((((3 : Int32) * (σ38 0 3)) + (1 : Int32))).toNatClampNeg (r_41 - (48 : Int32))))).bind fun σ48 => ((fX8_letter σ48).bind fun r_50 => (o_x (((3 : Int32) * (σ38 0 3)) + (2 : Int32)) 93 ((fX8_letter (sg_a σ48 5 (upd (σ48 5) ((((3 : Int32) * (σ38 0 3)) + (2 : Int32))).toNatClampNeg (r_50 - (97 : Int32))))).bind fun r_53 => ((fX8_in r_53 (97 : Int32) (112 : Int32)).bind fun r_55 => ((fX8_wants r_55 (sg_a σ48 5 (upd (σ48 5) ((((3 : Int32) * (σ38 0 3)) + (2 : Int32))).toNatClampNeg (r_50 - (97 : Int32))))).bind fun σ57 => (some ((sg_a σ57 0 (sg_u (σ57 0) 3 ((σ57 0 3) + (1 : Int32)))))))))))))))))) else (if r_1 = (100 : Int32) then ((fX8_wants (1 : Int32) σ).bind fun σ63 => (o_x ((3 : Int32) * (σ63 0 3)) 93 ((fX8_letter (sg_a σ63 5 (upd (σ63 5) (((3 : Int32) * (σ63 0 3))).toNatClampNeg r_1))).bind fun r_66 => (o_x (((3 : Int32) * (σ63 0 3)) + (1 : Int32)) 93 ((fX8_letter (sg_a (sg_a σ63 5 (upd (σ63 5) (((3 : Int32) * (σ63 0 3))).toNatClampNeg r_1)) 5 (upd (upd (σ63 5) (((3 : Int32) * (σ63 0 3))).toNatClampNeg r_1) ((((3 : Int32) * (σ63 0 3)) + (1 : Int32))).toNatClampNeg (r_66 - (48 : Int32))))).bind fun r_69 => ((fX8_in r_69 (48 : Int32) (55 : Int32)).bind fun r_71 => ((fX8_wants r_71 (sg_a (sg_a σ63 5 (upd (σ63 5) (((3 : Int32) * (σ63 0 3))).toNatClampNeg r_1)) 5 (upd (upd (σ63 5) (((3 : Int32) * (σ63 0 3))).toNatClampNeg r_1) ((((3 : Int32) * (σ63 0 3)) + (1 : Int32))).toNatClampNeg (r_66 - (48 : Int32))))).bind fun σ73 => (some ((sg_a σ73 0 (sg_u (σ73 0) 3 ((σ73 0 3) + (1 : Int32))))))))))))) else ((fX8_wants (0 : Int32) σ).bind fun σ60 => (o_x ((3 : Int32) * (σ60 0 3)) 93 (some ((sg_a (sg_a σ60 5 (upd (σ60 5) (((3 : Int32) * (σ60 0 3))).toNatClampNeg r_1)) 0 (sg_u (σ60 0) 3 ((σ60 0 3) + (1 : Int32)))))))))))))))
set_option maxRecDepth 100000 in
set_option maxHeartbeats 4000000 in
theorem mX8_readMove (l : Launch) (D : va_G) (cI cC : ClassId) (h : Nat → Nat) (σ : sg_T) (σ' : sg_T) (hrun : fX8_readMove σ = some σ') : me_V l D (tM cI cC) yX8_readMove cX8_readMove 3 1 22 (wM cI cC h σ) [.ref (h 0)] (wM cI cC h σ') := by
  refine me_ofV (plainFor_of_name (by decide)) (Nat.le_of_ble_eq_true rfl) ?_
  intro p e s m args below meth c A ls S hK Y hA hl hr hlk hZ
  have hx := S.1
  have hb := S.2.1
  have hl : lv_has ls 3 [(0, .ref (h 0))] := hl
  unfold fX8_readMove at hrun
  refine lv_aload_n hx hb dX8_readMove_0 rfl (lv_at hl 0 rfl) ?_
  obtain ⟨r_1, e_2, hrun⟩ := o_bh hrun
  refine cf_v (As := []) (rest := []) S hK hA hZ Y hl.1 (mX8_letter l D cI cC h σ r_1 e_2) kX8_154 (T := TX8) (N := 11) rfl (q0 := 0) rfl ⟨Nat.le_of_ble_eq_true rfl, Nat.le_of_ble_eq_true rfl⟩ rfl rfl (Nat.le_of_ble_eq_true rfl) ⟨Nat.le_of_ble_eq_true rfl, Nat.le_of_ble_eq_true rfl⟩ dX8_readMove_1 (fun H locs Y => ?_)
  refine lv_istore_n (lv' := [(1, .int r_1), (0, .ref (h 0))]) hx hb dX8_readMove_4 rfl hl (Nat.le_of_ble_eq_true rfl) rfl (fun ls hl => ?_)
  refine lv_aload_n hx hb dX8_readMove_5 rfl (lv_at hl 1 rfl) ?_
  refine lv_iload_n hx hb dX8_readMove_6 rfl (lv_at hl 0 rfl) ?_
  refine lv_bipush (v := (104 : Int32)) hx hb dX8_readMove_7 (by decide) ?_
  refine lv_icmp_eq (tgt := 42) hx hb dX8_readMove_9 (by decide) (fun c_3 => ?_) (fun c_3 => ?_)
  · have hrun := o_t hrun c_3
    refine lv_iconst (v := (1 : Int32)) hx hb dX8_readMove_42 (by decide) ?_
    refine lv_goto (tgt := 47) hx hb dX8_readMove_43 (by decide) ?_
    obtain ⟨σ4, e_5, hrun⟩ := o_bh hrun
    refine cf_vv (As := [.int (1 : Int32)]) (rest := []) S hK hA hZ Y hl.1 (mX8_wants l D cI cC h σ (1 : Int32) σ4 e_5) kX8_157 (T := TX8) (N := 11) rfl (q0 := 0) rfl ⟨Nat.le_of_ble_eq_true rfl, Nat.le_of_ble_eq_true rfl⟩ rfl rfl (Nat.le_of_ble_eq_true rfl) ⟨Nat.le_of_ble_eq_true rfl, Nat.le_of_ble_eq_true rfl⟩ dX8_readMove_47 (fun H locs Y => ?_)
    refine lv_iconst (v := (3 : Int32)) hx hb dX8_readMove_50 (by decide) ?_
    refine lv_aload_n hx hb dX8_readMove_51 rfl (lv_at hl 1 rfl) ?_
    refine ig S hK Y fX8_161 0 rfl (v := .int (σ4 0 3)) rfl dX8_readMove_52 ?_
    refine lv_imul hx hb dX8_readMove_55 ?_
    refine lv_istore_n (lv' := [(2, .int ((3 : Int32) * (σ4 0 3))), (1, .int r_1), (0, .ref (h 0))]) hx hb dX8_readMove_56 rfl hl (Nat.le_of_ble_eq_true rfl) rfl (fun ls hl => ?_)
    refine lv_aload_n hx hb dX8_readMove_57 rfl (lv_at hl 2 rfl) ?_
    refine ig S hK Y fX8_23 0 rfl (v := .ref (h 5)) rfl dX8_readMove_58 ?_
    refine lv_iload_n hx hb dX8_readMove_61 rfl (lv_at hl 0 rfl) ?_
    refine lv_iload_n hx hb dX8_readMove_62 rfl (lv_at hl 1 rfl) ?_
    obtain ⟨b_6, hrun⟩ := o_xh hrun
    refine iw S hK Y 5 0 (f := (σ4 5)) rfl rfl b_6 (ws' := (wM cI cC h (sg_a σ4 5 (upd (σ4 5) (((3 : Int32) * (σ4 0 3))).toNatClampNeg r_1)))) (wM_a5 _ _ _) dX8_readMove_63 (fun H locs Y => ?_)
    refine lv_iload_n hx hb dX8_readMove_64 rfl (lv_at hl 1 rfl) ?_
    refine lv_bipush (v := (104 : Int32)) hx hb dX8_readMove_65 (by decide) ?_
    refine lv_icmp_eq (tgt := 82) hx hb dX8_readMove_67 (by decide) (fun _ => ?_) (fun q => absurd c_3 q)
    refine lv_aload_n hx hb dX8_readMove_82 rfl (lv_at hl 2 rfl) ?_
    refine ig S hK Y fX8_23 0 rfl (v := .ref (h 5)) rfl dX8_readMove_83 ?_
    refine lv_iload_n hx hb dX8_readMove_86 rfl (lv_at hl 0 rfl) ?_
    refine lv_iconst (v := (1 : Int32)) hx hb dX8_readMove_87 (by decide) ?_
    refine lv_iadd hx hb dX8_readMove_88 ?_
    refine lv_aload_n hx hb dX8_readMove_89 rfl (lv_at hl 2 rfl) ?_
    obtain ⟨r_7, e_8, hrun⟩ := o_bh hrun
    refine cf_v (As := []) (rest := [.int (((3 : Int32) * (σ4 0 3)) + (1 : Int32)), .ref (h 5)]) S hK hA hZ Y hl.1 (mX8_letter l D cI cC h (sg_a σ4 5 (upd (σ4 5) (((3 : Int32) * (σ4 0 3))).toNatClampNeg r_1)) r_7 e_8) kX8_154 (T := TX8) (N := 11) rfl (q0 := 0) rfl ⟨Nat.le_of_ble_eq_true rfl, Nat.le_of_ble_eq_true rfl⟩ rfl rfl (Nat.le_of_ble_eq_true rfl) ⟨Nat.le_of_ble_eq_true rfl, Nat.le_of_ble_eq_true rfl⟩ dX8_readMove_90 (fun H locs Y => ?_)
    refine lv_bipush (v := (48 : Int32)) hx hb dX8_readMove_93 (by decide) ?_
    refine lv_isub hx hb dX8_readMove_95 ?_
    obtain ⟨b_9, hrun⟩ := o_xh hrun
    refine iw S hK Y 5 0 (f := (upd (σ4 5) (((3 : Int32) * (σ4 0 3))).toNatClampNeg r_1)) rfl rfl b_9 (ws' := (wM cI cC h (sg_a (sg_a σ4 5 (upd (σ4 5) (((3 : Int32) * (σ4 0 3))).toNatClampNeg r_1)) 5 (upd (upd (σ4 5) (((3 : Int32) * (σ4 0 3))).toNatClampNeg r_1) ((((3 : Int32) * (σ4 0 3)) + (1 : Int32))).toNatClampNeg (r_7 - (48 : Int32)))))) (wM_a5 _ _ _) dX8_readMove_96 (fun H locs Y => ?_)
    refine lv_aload_n hx hb dX8_readMove_97 rfl (lv_at hl 2 rfl) ?_
    refine lv_aload_n hx hb dX8_readMove_98 rfl (lv_at hl 2 rfl) ?_
    obtain ⟨r_10, e_11, hrun⟩ := o_bh hrun
    refine cf_v (As := []) (rest := [.ref (h 0)]) S hK hA hZ Y hl.1 (mX8_letter l D cI cC h (sg_a (sg_a σ4 5 (upd (σ4 5) (((3 : Int32) * (σ4 0 3))).toNatClampNeg r_1)) 5 (upd (upd (σ4 5) (((3 : Int32) * (σ4 0 3))).toNatClampNeg r_1) ((((3 : Int32) * (σ4 0 3)) + (1 : Int32))).toNatClampNeg (r_7 - (48 : Int32)))) r_10 e_11) kX8_154 (T := TX8) (N := 11) rfl (q0 := 0) rfl ⟨Nat.le_of_ble_eq_true rfl, Nat.le_of_ble_eq_true rfl⟩ rfl rfl (Nat.le_of_ble_eq_true rfl) ⟨Nat.le_of_ble_eq_true rfl, Nat.le_of_ble_eq_true rfl⟩ dX8_readMove_99 (fun H locs Y => ?_)
    refine lv_bipush (v := (48 : Int32)) hx hb dX8_readMove_102 (by decide) ?_
    refine lv_bipush (v := (55 : Int32)) hx hb dX8_readMove_104 (by decide) ?_
    obtain ⟨r_12, e_13, hrun⟩ := o_bh hrun
    refine cp_s (As := [.int r_10, .int (48 : Int32), .int (55 : Int32)]) (rest := [.ref (h 0)]) S hK hA hZ Y hl.1 (mX8_in l D r_10 (48 : Int32) (55 : Int32) r_12 e_13) kX8_26 ⟨Nat.le_of_ble_eq_true rfl, Nat.le_of_ble_eq_true rfl⟩ rfl rfl (Nat.le_of_ble_eq_true rfl) ⟨Nat.le_of_ble_eq_true rfl, Nat.le_of_ble_eq_true rfl⟩ dX8_readMove_106 (fun H locs Y => ?_)
    obtain ⟨σ14, e_15, hrun⟩ := o_bh hrun
    refine cf_vv (As := [.int r_12]) (rest := []) S hK hA hZ Y hl.1 (mX8_wants l D cI cC h (sg_a (sg_a σ4 5 (upd (σ4 5) (((3 : Int32) * (σ4 0 3))).toNatClampNeg r_1)) 5 (upd (upd (σ4 5) (((3 : Int32) * (σ4 0 3))).toNatClampNeg r_1) ((((3 : Int32) * (σ4 0 3)) + (1 : Int32))).toNatClampNeg (r_7 - (48 : Int32)))) r_12 σ14 e_15) kX8_157 (T := TX8) (N := 11) rfl (q0 := 0) rfl ⟨Nat.le_of_ble_eq_true rfl, Nat.le_of_ble_eq_true rfl⟩ rfl rfl (Nat.le_of_ble_eq_true rfl) ⟨Nat.le_of_ble_eq_true rfl, Nat.le_of_ble_eq_true rfl⟩ dX8_readMove_109 (fun H locs Y => ?_)
    refine lv_iload_n hx hb dX8_readMove_112 rfl (lv_at hl 1 rfl) ?_
    refine lv_bipush (v := (104 : Int32)) hx hb dX8_readMove_113 (by decide) ?_
    refine lv_icmp_eq (tgt := 124) hx hb dX8_readMove_115 (by decide) (fun _ => ?_) (fun q => absurd c_3 q)
    refine lv_aload_n hx hb dX8_readMove_124 rfl (lv_at hl 2 rfl) ?_
    refine ig S hK Y fX8_23 0 rfl (v := .ref (h 5)) rfl dX8_readMove_125 ?_
    refine lv_iload_n hx hb dX8_readMove_128 rfl (lv_at hl 0 rfl) ?_
    refine lv_iconst (v := (2 : Int32)) hx hb dX8_readMove_129 (by decide) ?_
    refine lv_iadd hx hb dX8_readMove_130 ?_
    refine lv_aload_n hx hb dX8_readMove_131 rfl (lv_at hl 2 rfl) ?_
    obtain ⟨r_16, e_17, hrun⟩ := o_bh hrun
    refine cf_v (As := []) (rest := [.int (((3 : Int32) * (σ4 0 3)) + (2 : Int32)), .ref (h 5)]) S hK hA hZ Y hl.1 (mX8_letter l D cI cC h σ14 r_16 e_17) kX8_154 (T := TX8) (N := 11) rfl (q0 := 0) rfl ⟨Nat.le_of_ble_eq_true rfl, Nat.le_of_ble_eq_true rfl⟩ rfl rfl (Nat.le_of_ble_eq_true rfl) ⟨Nat.le_of_ble_eq_true rfl, Nat.le_of_ble_eq_true rfl⟩ dX8_readMove_132 (fun H locs Y => ?_)
    refine lv_bipush (v := (97 : Int32)) hx hb dX8_readMove_135 (by decide) ?_
    refine lv_isub hx hb dX8_readMove_137 ?_
    obtain ⟨b_18, hrun⟩ := o_xh hrun
    refine iw S hK Y 5 0 (f := (σ14 5)) rfl rfl b_18 (ws' := (wM cI cC h (sg_a σ14 5 (upd (σ14 5) ((((3 : Int32) * (σ4 0 3)) + (2 : Int32))).toNatClampNeg (r_16 - (97 : Int32)))))) (wM_a5 _ _ _) dX8_readMove_138 (fun H locs Y => ?_)
    refine lv_aload_n hx hb dX8_readMove_139 rfl (lv_at hl 2 rfl) ?_
    refine lv_aload_n hx hb dX8_readMove_140 rfl (lv_at hl 2 rfl) ?_
    obtain ⟨r_19, e_20, hrun⟩ := o_bh hrun
    refine cf_v (As := []) (rest := [.ref (h 0)]) S hK hA hZ Y hl.1 (mX8_letter l D cI cC h (sg_a σ14 5 (upd (σ14 5) ((((3 : Int32) * (σ4 0 3)) + (2 : Int32))).toNatClampNeg (r_16 - (97 : Int32)))) r_19 e_20) kX8_154 (T := TX8) (N := 11) rfl (q0 := 0) rfl ⟨Nat.le_of_ble_eq_true rfl, Nat.le_of_ble_eq_true rfl⟩ rfl rfl (Nat.le_of_ble_eq_true rfl) ⟨Nat.le_of_ble_eq_true rfl, Nat.le_of_ble_eq_true rfl⟩ dX8_readMove_141 (fun H locs Y => ?_)
    refine lv_bipush (v := (97 : Int32)) hx hb dX8_readMove_144 (by decide) ?_
    refine lv_bipush (v := (112 : Int32)) hx hb dX8_readMove_146 (by decide) ?_
    obtain ⟨r_21, e_22, hrun⟩ := o_bh hrun
    refine cp_s (As := [.int r_19, .int (97 : Int32), .int (112 : Int32)]) (rest := [.ref (h 0)]) S hK hA hZ Y hl.1 (mX8_in l D r_19 (97 : Int32) (112 : Int32) r_21 e_22) kX8_26 ⟨Nat.le_of_ble_eq_true rfl, Nat.le_of_ble_eq_true rfl⟩ rfl rfl (Nat.le_of_ble_eq_true rfl) ⟨Nat.le_of_ble_eq_true rfl, Nat.le_of_ble_eq_true rfl⟩ dX8_readMove_148 (fun H locs Y => ?_)
    obtain ⟨σ23, e_24, hrun⟩ := o_bh hrun
    refine cf_vv (As := [.int r_21]) (rest := []) S hK hA hZ Y hl.1 (mX8_wants l D cI cC h (sg_a σ14 5 (upd (σ14 5) ((((3 : Int32) * (σ4 0 3)) + (2 : Int32))).toNatClampNeg (r_16 - (97 : Int32)))) r_21 σ23 e_24) kX8_157 (T := TX8) (N := 11) rfl (q0 := 0) rfl ⟨Nat.le_of_ble_eq_true rfl, Nat.le_of_ble_eq_true rfl⟩ rfl rfl (Nat.le_of_ble_eq_true rfl) ⟨Nat.le_of_ble_eq_true rfl, Nat.le_of_ble_eq_true rfl⟩ dX8_readMove_151 (fun H locs Y => ?_)
    refine lv_aload_n hx hb dX8_readMove_154 rfl (lv_at hl 2 rfl) ?_
    refine lv_dup hx hb dX8_readMove_155 rfl ?_
    refine ig S hK Y fX8_161 0 rfl (v := .int (σ23 0 3)) rfl dX8_readMove_156 ?_
    refine lv_iconst (v := (1 : Int32)) hx hb dX8_readMove_159 (by decide) ?_
    refine lv_iadd hx hb dX8_readMove_160 ?_
    refine ip S hK Y fX8_161 fpX8 rfl 0 (fs := vM h (σ23 0)) rfl rfl rfl (Nat.le_of_ble_eq_true rfl) (ws' := (wM cI cC h (sg_a σ23 0 (sg_u (σ23 0) 3 ((σ23 0 3) + (1 : Int32)))))) (wM_f3 _ _ _ _) dX8_readMove_161 (fun H locs Y => ?_)
    cases hrun
    exact me_rv S hK Y hr hlk dX8_readMove_164
  · have hrun := o_f hrun c_3
    refine lv_iload_n hx hb dX8_readMove_12 rfl (lv_at hl 0 rfl) ?_
    refine lv_bipush (v := (98 : Int32)) hx hb dX8_readMove_13 (by decide) ?_
    refine lv_icmp_eq (tgt := 42) hx hb dX8_readMove_15 (by decide) (fun c_25 => ?_) (fun c_25 => ?_)
    · have hrun := o_t hrun c_25
      refine lv_iconst (v := (1 : Int32)) hx hb dX8_readMove_42 (by decide) ?_
      refine lv_goto (tgt := 47) hx hb dX8_readMove_43 (by decide) ?_
      obtain ⟨σ26, e_27, hrun⟩ := o_bh hrun
      refine cf_vv (As := [.int (1 : Int32)]) (rest := []) S hK hA hZ Y hl.1 (mX8_wants l D cI cC h σ (1 : Int32) σ26 e_27) kX8_157 (T := TX8) (N := 11) rfl (q0 := 0) rfl ⟨Nat.le_of_ble_eq_true rfl, Nat.le_of_ble_eq_true rfl⟩ rfl rfl (Nat.le_of_ble_eq_true rfl) ⟨Nat.le_of_ble_eq_true rfl, Nat.le_of_ble_eq_true rfl⟩ dX8_readMove_47 (fun H locs Y => ?_)
      refine lv_iconst (v := (3 : Int32)) hx hb dX8_readMove_50 (by decide) ?_
      refine lv_aload_n hx hb dX8_readMove_51 rfl (lv_at hl 1 rfl) ?_
      refine ig S hK Y fX8_161 0 rfl (v := .int (σ26 0 3)) rfl dX8_readMove_52 ?_
      refine lv_imul hx hb dX8_readMove_55 ?_
      refine lv_istore_n (lv' := [(2, .int ((3 : Int32) * (σ26 0 3))), (1, .int r_1), (0, .ref (h 0))]) hx hb dX8_readMove_56 rfl hl (Nat.le_of_ble_eq_true rfl) rfl (fun ls hl => ?_)
      refine lv_aload_n hx hb dX8_readMove_57 rfl (lv_at hl 2 rfl) ?_
      refine ig S hK Y fX8_23 0 rfl (v := .ref (h 5)) rfl dX8_readMove_58 ?_
      refine lv_iload_n hx hb dX8_readMove_61 rfl (lv_at hl 0 rfl) ?_
      refine lv_iload_n hx hb dX8_readMove_62 rfl (lv_at hl 1 rfl) ?_
      obtain ⟨b_28, hrun⟩ := o_xh hrun
      refine iw S hK Y 5 0 (f := (σ26 5)) rfl rfl b_28 (ws' := (wM cI cC h (sg_a σ26 5 (upd (σ26 5) (((3 : Int32) * (σ26 0 3))).toNatClampNeg r_1)))) (wM_a5 _ _ _) dX8_readMove_63 (fun H locs Y => ?_)
      refine lv_iload_n hx hb dX8_readMove_64 rfl (lv_at hl 1 rfl) ?_
      refine lv_bipush (v := (104 : Int32)) hx hb dX8_readMove_65 (by decide) ?_
      refine lv_icmp_eq (tgt := 82) hx hb dX8_readMove_67 (by decide) (fun q => absurd q c_3) (fun _ => ?_)
      refine lv_iload_n hx hb dX8_readMove_70 rfl (lv_at hl 1 rfl) ?_
      refine lv_bipush (v := (99 : Int32)) hx hb dX8_readMove_71 (by decide) ?_
      refine lv_icmp_eq (tgt := 82) hx hb dX8_readMove_73 (by decide) (fun q => absurd q (fun q => absurd (c_25.symm.trans q) (by decide))) (fun _ => ?_)
      refine lv_iload_n hx hb dX8_readMove_76 rfl (lv_at hl 1 rfl) ?_
      refine lv_bipush (v := (100 : Int32)) hx hb dX8_readMove_77 (by decide) ?_
      refine lv_icmp_ne (tgt := 112) hx hb dX8_readMove_79 (by decide) (fun _ => ?_) (fun q => absurd q (fun q => absurd (c_25.symm.trans q) (by decide)))
      refine lv_iload_n hx hb dX8_readMove_112 rfl (lv_at hl 1 rfl) ?_
      refine lv_bipush (v := (104 : Int32)) hx hb dX8_readMove_113 (by decide) ?_
      refine lv_icmp_eq (tgt := 124) hx hb dX8_readMove_115 (by decide) (fun q => absurd q c_3) (fun _ => ?_)
      refine lv_iload_n hx hb dX8_readMove_118 rfl (lv_at hl 1 rfl) ?_
      refine lv_bipush (v := (99 : Int32)) hx hb dX8_readMove_119 (by decide) ?_
      refine lv_icmp_ne (tgt := 154) hx hb dX8_readMove_121 (by decide) (fun _ => ?_) (fun q => absurd q (fun q => absurd (c_25.symm.trans q) (by decide)))
      refine lv_aload_n hx hb dX8_readMove_154 rfl (lv_at hl 2 rfl) ?_
      refine lv_dup hx hb dX8_readMove_155 rfl ?_
      refine ig S hK Y fX8_161 0 rfl (v := .int (σ26 0 3)) rfl dX8_readMove_156 ?_
      refine lv_iconst (v := (1 : Int32)) hx hb dX8_readMove_159 (by decide) ?_
      refine lv_iadd hx hb dX8_readMove_160 ?_
      refine ip S hK Y fX8_161 fpX8 rfl 0 (fs := vM h (σ26 0)) rfl rfl rfl (Nat.le_of_ble_eq_true rfl) (ws' := (wM cI cC h (sg_a (sg_a σ26 5 (upd (σ26 5) (((3 : Int32) * (σ26 0 3))).toNatClampNeg r_1)) 0 (sg_u (σ26 0) 3 ((σ26 0 3) + (1 : Int32)))))) (wM_f3 _ _ _ _) dX8_readMove_161 (fun H locs Y => ?_)
      cases hrun
      exact me_rv S hK Y hr hlk dX8_readMove_164
    · have hrun := o_f hrun c_25
      refine lv_iload_n hx hb dX8_readMove_18 rfl (lv_at hl 0 rfl) ?_
      refine lv_bipush (v := (43 : Int32)) hx hb dX8_readMove_19 (by decide) ?_
      refine lv_icmp_eq (tgt := 42) hx hb dX8_readMove_21 (by decide) (fun c_29 => ?_) (fun c_29 => ?_)
      · have hrun := o_t hrun c_29
        refine lv_iconst (v := (1 : Int32)) hx hb dX8_readMove_42 (by decide) ?_
        refine lv_goto (tgt := 47) hx hb dX8_readMove_43 (by decide) ?_
        obtain ⟨σ30, e_31, hrun⟩ := o_bh hrun
        refine cf_vv (As := [.int (1 : Int32)]) (rest := []) S hK hA hZ Y hl.1 (mX8_wants l D cI cC h σ (1 : Int32) σ30 e_31) kX8_157 (T := TX8) (N := 11) rfl (q0 := 0) rfl ⟨Nat.le_of_ble_eq_true rfl, Nat.le_of_ble_eq_true rfl⟩ rfl rfl (Nat.le_of_ble_eq_true rfl) ⟨Nat.le_of_ble_eq_true rfl, Nat.le_of_ble_eq_true rfl⟩ dX8_readMove_47 (fun H locs Y => ?_)
        refine lv_iconst (v := (3 : Int32)) hx hb dX8_readMove_50 (by decide) ?_
        refine lv_aload_n hx hb dX8_readMove_51 rfl (lv_at hl 1 rfl) ?_
        refine ig S hK Y fX8_161 0 rfl (v := .int (σ30 0 3)) rfl dX8_readMove_52 ?_
        refine lv_imul hx hb dX8_readMove_55 ?_
        refine lv_istore_n (lv' := [(2, .int ((3 : Int32) * (σ30 0 3))), (1, .int r_1), (0, .ref (h 0))]) hx hb dX8_readMove_56 rfl hl (Nat.le_of_ble_eq_true rfl) rfl (fun ls hl => ?_)
        refine lv_aload_n hx hb dX8_readMove_57 rfl (lv_at hl 2 rfl) ?_
        refine ig S hK Y fX8_23 0 rfl (v := .ref (h 5)) rfl dX8_readMove_58 ?_
        refine lv_iload_n hx hb dX8_readMove_61 rfl (lv_at hl 0 rfl) ?_
        refine lv_iload_n hx hb dX8_readMove_62 rfl (lv_at hl 1 rfl) ?_
        obtain ⟨b_32, hrun⟩ := o_xh hrun
        refine iw S hK Y 5 0 (f := (σ30 5)) rfl rfl b_32 (ws' := (wM cI cC h (sg_a σ30 5 (upd (σ30 5) (((3 : Int32) * (σ30 0 3))).toNatClampNeg r_1)))) (wM_a5 _ _ _) dX8_readMove_63 (fun H locs Y => ?_)
        refine lv_iload_n hx hb dX8_readMove_64 rfl (lv_at hl 1 rfl) ?_
        refine lv_bipush (v := (104 : Int32)) hx hb dX8_readMove_65 (by decide) ?_
        refine lv_icmp_eq (tgt := 82) hx hb dX8_readMove_67 (by decide) (fun q => absurd q c_3) (fun _ => ?_)
        refine lv_iload_n hx hb dX8_readMove_70 rfl (lv_at hl 1 rfl) ?_
        refine lv_bipush (v := (99 : Int32)) hx hb dX8_readMove_71 (by decide) ?_
        refine lv_icmp_eq (tgt := 82) hx hb dX8_readMove_73 (by decide) (fun q => absurd q (fun q => absurd (c_29.symm.trans q) (by decide))) (fun _ => ?_)
        refine lv_iload_n hx hb dX8_readMove_76 rfl (lv_at hl 1 rfl) ?_
        refine lv_bipush (v := (100 : Int32)) hx hb dX8_readMove_77 (by decide) ?_
        refine lv_icmp_ne (tgt := 112) hx hb dX8_readMove_79 (by decide) (fun _ => ?_) (fun q => absurd q (fun q => absurd (c_29.symm.trans q) (by decide)))
        refine lv_iload_n hx hb dX8_readMove_112 rfl (lv_at hl 1 rfl) ?_
        refine lv_bipush (v := (104 : Int32)) hx hb dX8_readMove_113 (by decide) ?_
        refine lv_icmp_eq (tgt := 124) hx hb dX8_readMove_115 (by decide) (fun q => absurd q c_3) (fun _ => ?_)
        refine lv_iload_n hx hb dX8_readMove_118 rfl (lv_at hl 1 rfl) ?_
        refine lv_bipush (v := (99 : Int32)) hx hb dX8_readMove_119 (by decide) ?_
        refine lv_icmp_ne (tgt := 154) hx hb dX8_readMove_121 (by decide) (fun _ => ?_) (fun q => absurd q (fun q => absurd (c_29.symm.trans q) (by decide)))
        refine lv_aload_n hx hb dX8_readMove_154 rfl (lv_at hl 2 rfl) ?_
        refine lv_dup hx hb dX8_readMove_155 rfl ?_
        refine ig S hK Y fX8_161 0 rfl (v := .int (σ30 0 3)) rfl dX8_readMove_156 ?_
        refine lv_iconst (v := (1 : Int32)) hx hb dX8_readMove_159 (by decide) ?_
        refine lv_iadd hx hb dX8_readMove_160 ?_
        refine ip S hK Y fX8_161 fpX8 rfl 0 (fs := vM h (σ30 0)) rfl rfl rfl (Nat.le_of_ble_eq_true rfl) (ws' := (wM cI cC h (sg_a (sg_a σ30 5 (upd (σ30 5) (((3 : Int32) * (σ30 0 3))).toNatClampNeg r_1)) 0 (sg_u (σ30 0) 3 ((σ30 0 3) + (1 : Int32)))))) (wM_f3 _ _ _ _) dX8_readMove_161 (fun H locs Y => ?_)
        cases hrun
        exact me_rv S hK Y hr hlk dX8_readMove_164
      · have hrun := o_f hrun c_29
        refine lv_iload_n hx hb dX8_readMove_24 rfl (lv_at hl 0 rfl) ?_
        refine lv_bipush (v := (45 : Int32)) hx hb dX8_readMove_25 (by decide) ?_
        refine lv_icmp_eq (tgt := 42) hx hb dX8_readMove_27 (by decide) (fun c_33 => ?_) (fun c_33 => ?_)
        · have hrun := o_t hrun c_33
          refine lv_iconst (v := (1 : Int32)) hx hb dX8_readMove_42 (by decide) ?_
          refine lv_goto (tgt := 47) hx hb dX8_readMove_43 (by decide) ?_
          obtain ⟨σ34, e_35, hrun⟩ := o_bh hrun
          refine cf_vv (As := [.int (1 : Int32)]) (rest := []) S hK hA hZ Y hl.1 (mX8_wants l D cI cC h σ (1 : Int32) σ34 e_35) kX8_157 (T := TX8) (N := 11) rfl (q0 := 0) rfl ⟨Nat.le_of_ble_eq_true rfl, Nat.le_of_ble_eq_true rfl⟩ rfl rfl (Nat.le_of_ble_eq_true rfl) ⟨Nat.le_of_ble_eq_true rfl, Nat.le_of_ble_eq_true rfl⟩ dX8_readMove_47 (fun H locs Y => ?_)
          refine lv_iconst (v := (3 : Int32)) hx hb dX8_readMove_50 (by decide) ?_
          refine lv_aload_n hx hb dX8_readMove_51 rfl (lv_at hl 1 rfl) ?_
          refine ig S hK Y fX8_161 0 rfl (v := .int (σ34 0 3)) rfl dX8_readMove_52 ?_
          refine lv_imul hx hb dX8_readMove_55 ?_
          refine lv_istore_n (lv' := [(2, .int ((3 : Int32) * (σ34 0 3))), (1, .int r_1), (0, .ref (h 0))]) hx hb dX8_readMove_56 rfl hl (Nat.le_of_ble_eq_true rfl) rfl (fun ls hl => ?_)
          refine lv_aload_n hx hb dX8_readMove_57 rfl (lv_at hl 2 rfl) ?_
          refine ig S hK Y fX8_23 0 rfl (v := .ref (h 5)) rfl dX8_readMove_58 ?_
          refine lv_iload_n hx hb dX8_readMove_61 rfl (lv_at hl 0 rfl) ?_
          refine lv_iload_n hx hb dX8_readMove_62 rfl (lv_at hl 1 rfl) ?_
          obtain ⟨b_36, hrun⟩ := o_xh hrun
          refine iw S hK Y 5 0 (f := (σ34 5)) rfl rfl b_36 (ws' := (wM cI cC h (sg_a σ34 5 (upd (σ34 5) (((3 : Int32) * (σ34 0 3))).toNatClampNeg r_1)))) (wM_a5 _ _ _) dX8_readMove_63 (fun H locs Y => ?_)
          refine lv_iload_n hx hb dX8_readMove_64 rfl (lv_at hl 1 rfl) ?_
          refine lv_bipush (v := (104 : Int32)) hx hb dX8_readMove_65 (by decide) ?_
          refine lv_icmp_eq (tgt := 82) hx hb dX8_readMove_67 (by decide) (fun q => absurd q c_3) (fun _ => ?_)
          refine lv_iload_n hx hb dX8_readMove_70 rfl (lv_at hl 1 rfl) ?_
          refine lv_bipush (v := (99 : Int32)) hx hb dX8_readMove_71 (by decide) ?_
          refine lv_icmp_eq (tgt := 82) hx hb dX8_readMove_73 (by decide) (fun q => absurd q (fun q => absurd (c_33.symm.trans q) (by decide))) (fun _ => ?_)
          refine lv_iload_n hx hb dX8_readMove_76 rfl (lv_at hl 1 rfl) ?_
          refine lv_bipush (v := (100 : Int32)) hx hb dX8_readMove_77 (by decide) ?_
          refine lv_icmp_ne (tgt := 112) hx hb dX8_readMove_79 (by decide) (fun _ => ?_) (fun q => absurd q (fun q => absurd (c_33.symm.trans q) (by decide)))
          refine lv_iload_n hx hb dX8_readMove_112 rfl (lv_at hl 1 rfl) ?_
          refine lv_bipush (v := (104 : Int32)) hx hb dX8_readMove_113 (by decide) ?_
          refine lv_icmp_eq (tgt := 124) hx hb dX8_readMove_115 (by decide) (fun q => absurd q c_3) (fun _ => ?_)
          refine lv_iload_n hx hb dX8_readMove_118 rfl (lv_at hl 1 rfl) ?_
          refine lv_bipush (v := (99 : Int32)) hx hb dX8_readMove_119 (by decide) ?_
          refine lv_icmp_ne (tgt := 154) hx hb dX8_readMove_121 (by decide) (fun _ => ?_) (fun q => absurd q (fun q => absurd (c_33.symm.trans q) (by decide)))
          refine lv_aload_n hx hb dX8_readMove_154 rfl (lv_at hl 2 rfl) ?_
          refine lv_dup hx hb dX8_readMove_155 rfl ?_
          refine ig S hK Y fX8_161 0 rfl (v := .int (σ34 0 3)) rfl dX8_readMove_156 ?_
          refine lv_iconst (v := (1 : Int32)) hx hb dX8_readMove_159 (by decide) ?_
          refine lv_iadd hx hb dX8_readMove_160 ?_
          refine ip S hK Y fX8_161 fpX8 rfl 0 (fs := vM h (σ34 0)) rfl rfl rfl (Nat.le_of_ble_eq_true rfl) (ws' := (wM cI cC h (sg_a (sg_a σ34 5 (upd (σ34 5) (((3 : Int32) * (σ34 0 3))).toNatClampNeg r_1)) 0 (sg_u (σ34 0) 3 ((σ34 0 3) + (1 : Int32)))))) (wM_f3 _ _ _ _) dX8_readMove_161 (fun H locs Y => ?_)
          cases hrun
          exact me_rv S hK Y hr hlk dX8_readMove_164
        · have hrun := o_f hrun c_33
          refine lv_iload_n hx hb dX8_readMove_30 rfl (lv_at hl 0 rfl) ?_
          refine lv_bipush (v := (99 : Int32)) hx hb dX8_readMove_31 (by decide) ?_
          refine lv_icmp_eq (tgt := 42) hx hb dX8_readMove_33 (by decide) (fun c_37 => ?_) (fun c_37 => ?_)
          · have hrun := o_t hrun c_37
            refine lv_iconst (v := (1 : Int32)) hx hb dX8_readMove_42 (by decide) ?_
            refine lv_goto (tgt := 47) hx hb dX8_readMove_43 (by decide) ?_
            obtain ⟨σ38, e_39, hrun⟩ := o_bh hrun
            refine cf_vv (As := [.int (1 : Int32)]) (rest := []) S hK hA hZ Y hl.1 (mX8_wants l D cI cC h σ (1 : Int32) σ38 e_39) kX8_157 (T := TX8) (N := 11) rfl (q0 := 0) rfl ⟨Nat.le_of_ble_eq_true rfl, Nat.le_of_ble_eq_true rfl⟩ rfl rfl (Nat.le_of_ble_eq_true rfl) ⟨Nat.le_of_ble_eq_true rfl, Nat.le_of_ble_eq_true rfl⟩ dX8_readMove_47 (fun H locs Y => ?_)
            refine lv_iconst (v := (3 : Int32)) hx hb dX8_readMove_50 (by decide) ?_
            refine lv_aload_n hx hb dX8_readMove_51 rfl (lv_at hl 1 rfl) ?_
            refine ig S hK Y fX8_161 0 rfl (v := .int (σ38 0 3)) rfl dX8_readMove_52 ?_
            refine lv_imul hx hb dX8_readMove_55 ?_
            refine lv_istore_n (lv' := [(2, .int ((3 : Int32) * (σ38 0 3))), (1, .int r_1), (0, .ref (h 0))]) hx hb dX8_readMove_56 rfl hl (Nat.le_of_ble_eq_true rfl) rfl (fun ls hl => ?_)
            refine lv_aload_n hx hb dX8_readMove_57 rfl (lv_at hl 2 rfl) ?_
            refine ig S hK Y fX8_23 0 rfl (v := .ref (h 5)) rfl dX8_readMove_58 ?_
            refine lv_iload_n hx hb dX8_readMove_61 rfl (lv_at hl 0 rfl) ?_
            refine lv_iload_n hx hb dX8_readMove_62 rfl (lv_at hl 1 rfl) ?_
            obtain ⟨b_40, hrun⟩ := o_xh hrun
            refine iw S hK Y 5 0 (f := (σ38 5)) rfl rfl b_40 (ws' := (wM cI cC h (sg_a σ38 5 (upd (σ38 5) (((3 : Int32) * (σ38 0 3))).toNatClampNeg r_1)))) (wM_a5 _ _ _) dX8_readMove_63 (fun H locs Y => ?_)
            refine lv_iload_n hx hb dX8_readMove_64 rfl (lv_at hl 1 rfl) ?_
            refine lv_bipush (v := (104 : Int32)) hx hb dX8_readMove_65 (by decide) ?_
            refine lv_icmp_eq (tgt := 82) hx hb dX8_readMove_67 (by decide) (fun q => absurd q c_3) (fun _ => ?_)
            refine lv_iload_n hx hb dX8_readMove_70 rfl (lv_at hl 1 rfl) ?_
            refine lv_bipush (v := (99 : Int32)) hx hb dX8_readMove_71 (by decide) ?_
            refine lv_icmp_eq (tgt := 82) hx hb dX8_readMove_73 (by decide) (fun _ => ?_) (fun q => absurd c_37 q)
            refine lv_aload_n hx hb dX8_readMove_82 rfl (lv_at hl 2 rfl) ?_
            refine ig S hK Y fX8_23 0 rfl (v := .ref (h 5)) rfl dX8_readMove_83 ?_
            refine lv_iload_n hx hb dX8_readMove_86 rfl (lv_at hl 0 rfl) ?_
            refine lv_iconst (v := (1 : Int32)) hx hb dX8_readMove_87 (by decide) ?_
            refine lv_iadd hx hb dX8_readMove_88 ?_
            refine lv_aload_n hx hb dX8_readMove_89 rfl (lv_at hl 2 rfl) ?_
            obtain ⟨r_41, e_42, hrun⟩ := o_bh hrun
            refine cf_v (As := []) (rest := [.int (((3 : Int32) * (σ38 0 3)) + (1 : Int32)), .ref (h 5)]) S hK hA hZ Y hl.1 (mX8_letter l D cI cC h (sg_a σ38 5 (upd (σ38 5) (((3 : Int32) * (σ38 0 3))).toNatClampNeg r_1)) r_41 e_42) kX8_154 (T := TX8) (N := 11) rfl (q0 := 0) rfl ⟨Nat.le_of_ble_eq_true rfl, Nat.le_of_ble_eq_true rfl⟩ rfl rfl (Nat.le_of_ble_eq_true rfl) ⟨Nat.le_of_ble_eq_true rfl, Nat.le_of_ble_eq_true rfl⟩ dX8_readMove_90 (fun H locs Y => ?_)
            refine lv_bipush (v := (48 : Int32)) hx hb dX8_readMove_93 (by decide) ?_
            refine lv_isub hx hb dX8_readMove_95 ?_
            obtain ⟨b_43, hrun⟩ := o_xh hrun
            refine iw S hK Y 5 0 (f := (upd (σ38 5) (((3 : Int32) * (σ38 0 3))).toNatClampNeg r_1)) rfl rfl b_43 (ws' := (wM cI cC h (sg_a (sg_a σ38 5 (upd (σ38 5) (((3 : Int32) * (σ38 0 3))).toNatClampNeg r_1)) 5 (upd (upd (σ38 5) (((3 : Int32) * (σ38 0 3))).toNatClampNeg r_1) ((((3 : Int32) * (σ38 0 3)) + (1 : Int32))).toNatClampNeg (r_41 - (48 : Int32)))))) (wM_a5 _ _ _) dX8_readMove_96 (fun H locs Y => ?_)
            refine lv_aload_n hx hb dX8_readMove_97 rfl (lv_at hl 2 rfl) ?_
            refine lv_aload_n hx hb dX8_readMove_98 rfl (lv_at hl 2 rfl) ?_
            obtain ⟨r_44, e_45, hrun⟩ := o_bh hrun
            refine cf_v (As := []) (rest := [.ref (h 0)]) S hK hA hZ Y hl.1 (mX8_letter l D cI cC h (sg_a (sg_a σ38 5 (upd (σ38 5) (((3 : Int32) * (σ38 0 3))).toNatClampNeg r_1)) 5 (upd (upd (σ38 5) (((3 : Int32) * (σ38 0 3))).toNatClampNeg r_1) ((((3 : Int32) * (σ38 0 3)) + (1 : Int32))).toNatClampNeg (r_41 - (48 : Int32)))) r_44 e_45) kX8_154 (T := TX8) (N := 11) rfl (q0 := 0) rfl ⟨Nat.le_of_ble_eq_true rfl, Nat.le_of_ble_eq_true rfl⟩ rfl rfl (Nat.le_of_ble_eq_true rfl) ⟨Nat.le_of_ble_eq_true rfl, Nat.le_of_ble_eq_true rfl⟩ dX8_readMove_99 (fun H locs Y => ?_)
            refine lv_bipush (v := (48 : Int32)) hx hb dX8_readMove_102 (by decide) ?_
            refine lv_bipush (v := (55 : Int32)) hx hb dX8_readMove_104 (by decide) ?_
            obtain ⟨r_46, e_47, hrun⟩ := o_bh hrun
            refine cp_s (As := [.int r_44, .int (48 : Int32), .int (55 : Int32)]) (rest := [.ref (h 0)]) S hK hA hZ Y hl.1 (mX8_in l D r_44 (48 : Int32) (55 : Int32) r_46 e_47) kX8_26 ⟨Nat.le_of_ble_eq_true rfl, Nat.le_of_ble_eq_true rfl⟩ rfl rfl (Nat.le_of_ble_eq_true rfl) ⟨Nat.le_of_ble_eq_true rfl, Nat.le_of_ble_eq_true rfl⟩ dX8_readMove_106 (fun H locs Y => ?_)
            obtain ⟨σ48, e_49, hrun⟩ := o_bh hrun
            refine cf_vv (As := [.int r_46]) (rest := []) S hK hA hZ Y hl.1 (mX8_wants l D cI cC h (sg_a (sg_a σ38 5 (upd (σ38 5) (((3 : Int32) * (σ38 0 3))).toNatClampNeg r_1)) 5 (upd (upd (σ38 5) (((3 : Int32) * (σ38 0 3))).toNatClampNeg r_1) ((((3 : Int32) * (σ38 0 3)) + (1 : Int32))).toNatClampNeg (r_41 - (48 : Int32)))) r_46 σ48 e_49) kX8_157 (T := TX8) (N := 11) rfl (q0 := 0) rfl ⟨Nat.le_of_ble_eq_true rfl, Nat.le_of_ble_eq_true rfl⟩ rfl rfl (Nat.le_of_ble_eq_true rfl) ⟨Nat.le_of_ble_eq_true rfl, Nat.le_of_ble_eq_true rfl⟩ dX8_readMove_109 (fun H locs Y => ?_)
            refine lv_iload_n hx hb dX8_readMove_112 rfl (lv_at hl 1 rfl) ?_
            refine lv_bipush (v := (104 : Int32)) hx hb dX8_readMove_113 (by decide) ?_
            refine lv_icmp_eq (tgt := 124) hx hb dX8_readMove_115 (by decide) (fun q => absurd q c_3) (fun _ => ?_)
            refine lv_iload_n hx hb dX8_readMove_118 rfl (lv_at hl 1 rfl) ?_
            refine lv_bipush (v := (99 : Int32)) hx hb dX8_readMove_119 (by decide) ?_
            refine lv_icmp_ne (tgt := 154) hx hb dX8_readMove_121 (by decide) (fun q => absurd c_37 q) (fun _ => ?_)
            refine lv_aload_n hx hb dX8_readMove_124 rfl (lv_at hl 2 rfl) ?_
            refine ig S hK Y fX8_23 0 rfl (v := .ref (h 5)) rfl dX8_readMove_125 ?_
            refine lv_iload_n hx hb dX8_readMove_128 rfl (lv_at hl 0 rfl) ?_
            refine lv_iconst (v := (2 : Int32)) hx hb dX8_readMove_129 (by decide) ?_
            refine lv_iadd hx hb dX8_readMove_130 ?_
            refine lv_aload_n hx hb dX8_readMove_131 rfl (lv_at hl 2 rfl) ?_
            obtain ⟨r_50, e_51, hrun⟩ := o_bh hrun
            refine cf_v (As := []) (rest := [.int (((3 : Int32) * (σ38 0 3)) + (2 : Int32)), .ref (h 5)]) S hK hA hZ Y hl.1 (mX8_letter l D cI cC h σ48 r_50 e_51) kX8_154 (T := TX8) (N := 11) rfl (q0 := 0) rfl ⟨Nat.le_of_ble_eq_true rfl, Nat.le_of_ble_eq_true rfl⟩ rfl rfl (Nat.le_of_ble_eq_true rfl) ⟨Nat.le_of_ble_eq_true rfl, Nat.le_of_ble_eq_true rfl⟩ dX8_readMove_132 (fun H locs Y => ?_)
            refine lv_bipush (v := (97 : Int32)) hx hb dX8_readMove_135 (by decide) ?_
            refine lv_isub hx hb dX8_readMove_137 ?_
            obtain ⟨b_52, hrun⟩ := o_xh hrun
            refine iw S hK Y 5 0 (f := (σ48 5)) rfl rfl b_52 (ws' := (wM cI cC h (sg_a σ48 5 (upd (σ48 5) ((((3 : Int32) * (σ38 0 3)) + (2 : Int32))).toNatClampNeg (r_50 - (97 : Int32)))))) (wM_a5 _ _ _) dX8_readMove_138 (fun H locs Y => ?_)
            refine lv_aload_n hx hb dX8_readMove_139 rfl (lv_at hl 2 rfl) ?_
            refine lv_aload_n hx hb dX8_readMove_140 rfl (lv_at hl 2 rfl) ?_
            obtain ⟨r_53, e_54, hrun⟩ := o_bh hrun
            refine cf_v (As := []) (rest := [.ref (h 0)]) S hK hA hZ Y hl.1 (mX8_letter l D cI cC h (sg_a σ48 5 (upd (σ48 5) ((((3 : Int32) * (σ38 0 3)) + (2 : Int32))).toNatClampNeg (r_50 - (97 : Int32)))) r_53 e_54) kX8_154 (T := TX8) (N := 11) rfl (q0 := 0) rfl ⟨Nat.le_of_ble_eq_true rfl, Nat.le_of_ble_eq_true rfl⟩ rfl rfl (Nat.le_of_ble_eq_true rfl) ⟨Nat.le_of_ble_eq_true rfl, Nat.le_of_ble_eq_true rfl⟩ dX8_readMove_141 (fun H locs Y => ?_)
            refine lv_bipush (v := (97 : Int32)) hx hb dX8_readMove_144 (by decide) ?_
            refine lv_bipush (v := (112 : Int32)) hx hb dX8_readMove_146 (by decide) ?_
            obtain ⟨r_55, e_56, hrun⟩ := o_bh hrun
            refine cp_s (As := [.int r_53, .int (97 : Int32), .int (112 : Int32)]) (rest := [.ref (h 0)]) S hK hA hZ Y hl.1 (mX8_in l D r_53 (97 : Int32) (112 : Int32) r_55 e_56) kX8_26 ⟨Nat.le_of_ble_eq_true rfl, Nat.le_of_ble_eq_true rfl⟩ rfl rfl (Nat.le_of_ble_eq_true rfl) ⟨Nat.le_of_ble_eq_true rfl, Nat.le_of_ble_eq_true rfl⟩ dX8_readMove_148 (fun H locs Y => ?_)
            obtain ⟨σ57, e_58, hrun⟩ := o_bh hrun
            refine cf_vv (As := [.int r_55]) (rest := []) S hK hA hZ Y hl.1 (mX8_wants l D cI cC h (sg_a σ48 5 (upd (σ48 5) ((((3 : Int32) * (σ38 0 3)) + (2 : Int32))).toNatClampNeg (r_50 - (97 : Int32)))) r_55 σ57 e_58) kX8_157 (T := TX8) (N := 11) rfl (q0 := 0) rfl ⟨Nat.le_of_ble_eq_true rfl, Nat.le_of_ble_eq_true rfl⟩ rfl rfl (Nat.le_of_ble_eq_true rfl) ⟨Nat.le_of_ble_eq_true rfl, Nat.le_of_ble_eq_true rfl⟩ dX8_readMove_151 (fun H locs Y => ?_)
            refine lv_aload_n hx hb dX8_readMove_154 rfl (lv_at hl 2 rfl) ?_
            refine lv_dup hx hb dX8_readMove_155 rfl ?_
            refine ig S hK Y fX8_161 0 rfl (v := .int (σ57 0 3)) rfl dX8_readMove_156 ?_
            refine lv_iconst (v := (1 : Int32)) hx hb dX8_readMove_159 (by decide) ?_
            refine lv_iadd hx hb dX8_readMove_160 ?_
            refine ip S hK Y fX8_161 fpX8 rfl 0 (fs := vM h (σ57 0)) rfl rfl rfl (Nat.le_of_ble_eq_true rfl) (ws' := (wM cI cC h (sg_a σ57 0 (sg_u (σ57 0) 3 ((σ57 0 3) + (1 : Int32)))))) (wM_f3 _ _ _ _) dX8_readMove_161 (fun H locs Y => ?_)
            cases hrun
            exact me_rv S hK Y hr hlk dX8_readMove_164
          · have hrun := o_f hrun c_37
            refine lv_iload_n hx hb dX8_readMove_36 rfl (lv_at hl 0 rfl) ?_
            refine lv_bipush (v := (100 : Int32)) hx hb dX8_readMove_37 (by decide) ?_
            refine lv_icmp_ne (tgt := 46) hx hb dX8_readMove_39 (by decide) (fun c_59 => ?_) (fun c_59 => ?_)
            · have hrun := o_f hrun c_59
              refine lv_iconst (v := (0 : Int32)) hx hb dX8_readMove_46 (by decide) ?_
              obtain ⟨σ60, e_61, hrun⟩ := o_bh hrun
              refine cf_vv (As := [.int (0 : Int32)]) (rest := []) S hK hA hZ Y hl.1 (mX8_wants l D cI cC h σ (0 : Int32) σ60 e_61) kX8_157 (T := TX8) (N := 11) rfl (q0 := 0) rfl ⟨Nat.le_of_ble_eq_true rfl, Nat.le_of_ble_eq_true rfl⟩ rfl rfl (Nat.le_of_ble_eq_true rfl) ⟨Nat.le_of_ble_eq_true rfl, Nat.le_of_ble_eq_true rfl⟩ dX8_readMove_47 (fun H locs Y => ?_)
              refine lv_iconst (v := (3 : Int32)) hx hb dX8_readMove_50 (by decide) ?_
              refine lv_aload_n hx hb dX8_readMove_51 rfl (lv_at hl 1 rfl) ?_
              refine ig S hK Y fX8_161 0 rfl (v := .int (σ60 0 3)) rfl dX8_readMove_52 ?_
              refine lv_imul hx hb dX8_readMove_55 ?_
              refine lv_istore_n (lv' := [(2, .int ((3 : Int32) * (σ60 0 3))), (1, .int r_1), (0, .ref (h 0))]) hx hb dX8_readMove_56 rfl hl (Nat.le_of_ble_eq_true rfl) rfl (fun ls hl => ?_)
              refine lv_aload_n hx hb dX8_readMove_57 rfl (lv_at hl 2 rfl) ?_
              refine ig S hK Y fX8_23 0 rfl (v := .ref (h 5)) rfl dX8_readMove_58 ?_
              refine lv_iload_n hx hb dX8_readMove_61 rfl (lv_at hl 0 rfl) ?_
              refine lv_iload_n hx hb dX8_readMove_62 rfl (lv_at hl 1 rfl) ?_
              obtain ⟨b_62, hrun⟩ := o_xh hrun
              refine iw S hK Y 5 0 (f := (σ60 5)) rfl rfl b_62 (ws' := (wM cI cC h (sg_a σ60 5 (upd (σ60 5) (((3 : Int32) * (σ60 0 3))).toNatClampNeg r_1)))) (wM_a5 _ _ _) dX8_readMove_63 (fun H locs Y => ?_)
              refine lv_iload_n hx hb dX8_readMove_64 rfl (lv_at hl 1 rfl) ?_
              refine lv_bipush (v := (104 : Int32)) hx hb dX8_readMove_65 (by decide) ?_
              refine lv_icmp_eq (tgt := 82) hx hb dX8_readMove_67 (by decide) (fun q => absurd q c_3) (fun _ => ?_)
              refine lv_iload_n hx hb dX8_readMove_70 rfl (lv_at hl 1 rfl) ?_
              refine lv_bipush (v := (99 : Int32)) hx hb dX8_readMove_71 (by decide) ?_
              refine lv_icmp_eq (tgt := 82) hx hb dX8_readMove_73 (by decide) (fun q => absurd q c_37) (fun _ => ?_)
              refine lv_iload_n hx hb dX8_readMove_76 rfl (lv_at hl 1 rfl) ?_
              refine lv_bipush (v := (100 : Int32)) hx hb dX8_readMove_77 (by decide) ?_
              refine lv_icmp_ne (tgt := 112) hx hb dX8_readMove_79 (by decide) (fun _ => ?_) (fun q => absurd q c_59)
              refine lv_iload_n hx hb dX8_readMove_112 rfl (lv_at hl 1 rfl) ?_
              refine lv_bipush (v := (104 : Int32)) hx hb dX8_readMove_113 (by decide) ?_
              refine lv_icmp_eq (tgt := 124) hx hb dX8_readMove_115 (by decide) (fun q => absurd q c_3) (fun _ => ?_)
              refine lv_iload_n hx hb dX8_readMove_118 rfl (lv_at hl 1 rfl) ?_
              refine lv_bipush (v := (99 : Int32)) hx hb dX8_readMove_119 (by decide) ?_
              refine lv_icmp_ne (tgt := 154) hx hb dX8_readMove_121 (by decide) (fun _ => ?_) (fun q => absurd q c_37)
              refine lv_aload_n hx hb dX8_readMove_154 rfl (lv_at hl 2 rfl) ?_
              refine lv_dup hx hb dX8_readMove_155 rfl ?_
              refine ig S hK Y fX8_161 0 rfl (v := .int (σ60 0 3)) rfl dX8_readMove_156 ?_
              refine lv_iconst (v := (1 : Int32)) hx hb dX8_readMove_159 (by decide) ?_
              refine lv_iadd hx hb dX8_readMove_160 ?_
              refine ip S hK Y fX8_161 fpX8 rfl 0 (fs := vM h (σ60 0)) rfl rfl rfl (Nat.le_of_ble_eq_true rfl) (ws' := (wM cI cC h (sg_a (sg_a σ60 5 (upd (σ60 5) (((3 : Int32) * (σ60 0 3))).toNatClampNeg r_1)) 0 (sg_u (σ60 0) 3 ((σ60 0 3) + (1 : Int32)))))) (wM_f3 _ _ _ _) dX8_readMove_161 (fun H locs Y => ?_)
              cases hrun
              exact me_rv S hK Y hr hlk dX8_readMove_164
            · have hrun := o_t hrun c_59
              refine lv_iconst (v := (1 : Int32)) hx hb dX8_readMove_42 (by decide) ?_
              refine lv_goto (tgt := 47) hx hb dX8_readMove_43 (by decide) ?_
              obtain ⟨σ63, e_64, hrun⟩ := o_bh hrun
              refine cf_vv (As := [.int (1 : Int32)]) (rest := []) S hK hA hZ Y hl.1 (mX8_wants l D cI cC h σ (1 : Int32) σ63 e_64) kX8_157 (T := TX8) (N := 11) rfl (q0 := 0) rfl ⟨Nat.le_of_ble_eq_true rfl, Nat.le_of_ble_eq_true rfl⟩ rfl rfl (Nat.le_of_ble_eq_true rfl) ⟨Nat.le_of_ble_eq_true rfl, Nat.le_of_ble_eq_true rfl⟩ dX8_readMove_47 (fun H locs Y => ?_)
              refine lv_iconst (v := (3 : Int32)) hx hb dX8_readMove_50 (by decide) ?_
              refine lv_aload_n hx hb dX8_readMove_51 rfl (lv_at hl 1 rfl) ?_
              refine ig S hK Y fX8_161 0 rfl (v := .int (σ63 0 3)) rfl dX8_readMove_52 ?_
              refine lv_imul hx hb dX8_readMove_55 ?_
              refine lv_istore_n (lv' := [(2, .int ((3 : Int32) * (σ63 0 3))), (1, .int r_1), (0, .ref (h 0))]) hx hb dX8_readMove_56 rfl hl (Nat.le_of_ble_eq_true rfl) rfl (fun ls hl => ?_)
              refine lv_aload_n hx hb dX8_readMove_57 rfl (lv_at hl 2 rfl) ?_
              refine ig S hK Y fX8_23 0 rfl (v := .ref (h 5)) rfl dX8_readMove_58 ?_
              refine lv_iload_n hx hb dX8_readMove_61 rfl (lv_at hl 0 rfl) ?_
              refine lv_iload_n hx hb dX8_readMove_62 rfl (lv_at hl 1 rfl) ?_
              obtain ⟨b_65, hrun⟩ := o_xh hrun
              refine iw S hK Y 5 0 (f := (σ63 5)) rfl rfl b_65 (ws' := (wM cI cC h (sg_a σ63 5 (upd (σ63 5) (((3 : Int32) * (σ63 0 3))).toNatClampNeg r_1)))) (wM_a5 _ _ _) dX8_readMove_63 (fun H locs Y => ?_)
              refine lv_iload_n hx hb dX8_readMove_64 rfl (lv_at hl 1 rfl) ?_
              refine lv_bipush (v := (104 : Int32)) hx hb dX8_readMove_65 (by decide) ?_
              refine lv_icmp_eq (tgt := 82) hx hb dX8_readMove_67 (by decide) (fun q => absurd q c_3) (fun _ => ?_)
              refine lv_iload_n hx hb dX8_readMove_70 rfl (lv_at hl 1 rfl) ?_
              refine lv_bipush (v := (99 : Int32)) hx hb dX8_readMove_71 (by decide) ?_
              refine lv_icmp_eq (tgt := 82) hx hb dX8_readMove_73 (by decide) (fun q => absurd q c_37) (fun _ => ?_)
              refine lv_iload_n hx hb dX8_readMove_76 rfl (lv_at hl 1 rfl) ?_
              refine lv_bipush (v := (100 : Int32)) hx hb dX8_readMove_77 (by decide) ?_
              refine lv_icmp_ne (tgt := 112) hx hb dX8_readMove_79 (by decide) (fun q => absurd c_59 q) (fun _ => ?_)
              refine lv_aload_n hx hb dX8_readMove_82 rfl (lv_at hl 2 rfl) ?_
              refine ig S hK Y fX8_23 0 rfl (v := .ref (h 5)) rfl dX8_readMove_83 ?_
              refine lv_iload_n hx hb dX8_readMove_86 rfl (lv_at hl 0 rfl) ?_
              refine lv_iconst (v := (1 : Int32)) hx hb dX8_readMove_87 (by decide) ?_
              refine lv_iadd hx hb dX8_readMove_88 ?_
              refine lv_aload_n hx hb dX8_readMove_89 rfl (lv_at hl 2 rfl) ?_
              obtain ⟨r_66, e_67, hrun⟩ := o_bh hrun
              refine cf_v (As := []) (rest := [.int (((3 : Int32) * (σ63 0 3)) + (1 : Int32)), .ref (h 5)]) S hK hA hZ Y hl.1 (mX8_letter l D cI cC h (sg_a σ63 5 (upd (σ63 5) (((3 : Int32) * (σ63 0 3))).toNatClampNeg r_1)) r_66 e_67) kX8_154 (T := TX8) (N := 11) rfl (q0 := 0) rfl ⟨Nat.le_of_ble_eq_true rfl, Nat.le_of_ble_eq_true rfl⟩ rfl rfl (Nat.le_of_ble_eq_true rfl) ⟨Nat.le_of_ble_eq_true rfl, Nat.le_of_ble_eq_true rfl⟩ dX8_readMove_90 (fun H locs Y => ?_)
              refine lv_bipush (v := (48 : Int32)) hx hb dX8_readMove_93 (by decide) ?_
              refine lv_isub hx hb dX8_readMove_95 ?_
              obtain ⟨b_68, hrun⟩ := o_xh hrun
              refine iw S hK Y 5 0 (f := (upd (σ63 5) (((3 : Int32) * (σ63 0 3))).toNatClampNeg r_1)) rfl rfl b_68 (ws' := (wM cI cC h (sg_a (sg_a σ63 5 (upd (σ63 5) (((3 : Int32) * (σ63 0 3))).toNatClampNeg r_1)) 5 (upd (upd (σ63 5) (((3 : Int32) * (σ63 0 3))).toNatClampNeg r_1) ((((3 : Int32) * (σ63 0 3)) + (1 : Int32))).toNatClampNeg (r_66 - (48 : Int32)))))) (wM_a5 _ _ _) dX8_readMove_96 (fun H locs Y => ?_)
              refine lv_aload_n hx hb dX8_readMove_97 rfl (lv_at hl 2 rfl) ?_
              refine lv_aload_n hx hb dX8_readMove_98 rfl (lv_at hl 2 rfl) ?_
              obtain ⟨r_69, e_70, hrun⟩ := o_bh hrun
              refine cf_v (As := []) (rest := [.ref (h 0)]) S hK hA hZ Y hl.1 (mX8_letter l D cI cC h (sg_a (sg_a σ63 5 (upd (σ63 5) (((3 : Int32) * (σ63 0 3))).toNatClampNeg r_1)) 5 (upd (upd (σ63 5) (((3 : Int32) * (σ63 0 3))).toNatClampNeg r_1) ((((3 : Int32) * (σ63 0 3)) + (1 : Int32))).toNatClampNeg (r_66 - (48 : Int32)))) r_69 e_70) kX8_154 (T := TX8) (N := 11) rfl (q0 := 0) rfl ⟨Nat.le_of_ble_eq_true rfl, Nat.le_of_ble_eq_true rfl⟩ rfl rfl (Nat.le_of_ble_eq_true rfl) ⟨Nat.le_of_ble_eq_true rfl, Nat.le_of_ble_eq_true rfl⟩ dX8_readMove_99 (fun H locs Y => ?_)
              refine lv_bipush (v := (48 : Int32)) hx hb dX8_readMove_102 (by decide) ?_
              refine lv_bipush (v := (55 : Int32)) hx hb dX8_readMove_104 (by decide) ?_
              obtain ⟨r_71, e_72, hrun⟩ := o_bh hrun
              refine cp_s (As := [.int r_69, .int (48 : Int32), .int (55 : Int32)]) (rest := [.ref (h 0)]) S hK hA hZ Y hl.1 (mX8_in l D r_69 (48 : Int32) (55 : Int32) r_71 e_72) kX8_26 ⟨Nat.le_of_ble_eq_true rfl, Nat.le_of_ble_eq_true rfl⟩ rfl rfl (Nat.le_of_ble_eq_true rfl) ⟨Nat.le_of_ble_eq_true rfl, Nat.le_of_ble_eq_true rfl⟩ dX8_readMove_106 (fun H locs Y => ?_)
              obtain ⟨σ73, e_74, hrun⟩ := o_bh hrun
              refine cf_vv (As := [.int r_71]) (rest := []) S hK hA hZ Y hl.1 (mX8_wants l D cI cC h (sg_a (sg_a σ63 5 (upd (σ63 5) (((3 : Int32) * (σ63 0 3))).toNatClampNeg r_1)) 5 (upd (upd (σ63 5) (((3 : Int32) * (σ63 0 3))).toNatClampNeg r_1) ((((3 : Int32) * (σ63 0 3)) + (1 : Int32))).toNatClampNeg (r_66 - (48 : Int32)))) r_71 σ73 e_74) kX8_157 (T := TX8) (N := 11) rfl (q0 := 0) rfl ⟨Nat.le_of_ble_eq_true rfl, Nat.le_of_ble_eq_true rfl⟩ rfl rfl (Nat.le_of_ble_eq_true rfl) ⟨Nat.le_of_ble_eq_true rfl, Nat.le_of_ble_eq_true rfl⟩ dX8_readMove_109 (fun H locs Y => ?_)
              refine lv_iload_n hx hb dX8_readMove_112 rfl (lv_at hl 1 rfl) ?_
              refine lv_bipush (v := (104 : Int32)) hx hb dX8_readMove_113 (by decide) ?_
              refine lv_icmp_eq (tgt := 124) hx hb dX8_readMove_115 (by decide) (fun q => absurd q c_3) (fun _ => ?_)
              refine lv_iload_n hx hb dX8_readMove_118 rfl (lv_at hl 1 rfl) ?_
              refine lv_bipush (v := (99 : Int32)) hx hb dX8_readMove_119 (by decide) ?_
              refine lv_icmp_ne (tgt := 154) hx hb dX8_readMove_121 (by decide) (fun _ => ?_) (fun q => absurd q c_37)
              refine lv_aload_n hx hb dX8_readMove_154 rfl (lv_at hl 2 rfl) ?_
              refine lv_dup hx hb dX8_readMove_155 rfl ?_
              refine ig S hK Y fX8_161 0 rfl (v := .int (σ73 0 3)) rfl dX8_readMove_156 ?_
              refine lv_iconst (v := (1 : Int32)) hx hb dX8_readMove_159 (by decide) ?_
              refine lv_iadd hx hb dX8_readMove_160 ?_
              refine ip S hK Y fX8_161 fpX8 rfl 0 (fs := vM h (σ73 0)) rfl rfl rfl (Nat.le_of_ble_eq_true rfl) (ws' := (wM cI cC h (sg_a σ73 0 (sg_u (σ73 0) 3 ((σ73 0 3) + (1 : Int32)))))) (wM_f3 _ _ _ _) dX8_readMove_161 (fun H locs Y => ?_)
              cases hrun
              exact me_rv S hK Y hr hlk dX8_readMove_164
def lX8_errorPosition_19 : Nat → Int32 → (sg_T) → Option (Int32 × sg_T)
  | 0, _, _ => none
  | n + 1, a1, σ => (if a1 = 0 then (some ((σ 0 5), σ)) else ((fX8_readMove σ).bind fun σ2 => (if (σ2 0 5) = (-10006 : Int32) then (if (σ2 0 2) ≤ (σ2 0 4) then (lX8_errorPosition_19 n (0 : Int32) σ2) else ((fX8_letter σ2).bind fun r_6 => (if r_6 = (44 : Int32) then ((fX8_wants (1 : Int32) σ2).bind fun σ12 => (if (σ12 0 5) = (-10006 : Int32) then (lX8_errorPosition_19 n (1 : Int32) σ12) else (lX8_errorPosition_19 n (0 : Int32) σ12))) else ((fX8_wants (0 : Int32) σ2).bind fun σ9 => (if (σ9 0 5) = (-10006 : Int32) then (lX8_errorPosition_19 n (1 : Int32) σ9) else (lX8_errorPosition_19 n (0 : Int32) σ9)))))) else (lX8_errorPosition_19 n (0 : Int32) σ2))))
def fX8_errorPosition (σ : sg_T) : Option (Int32 × sg_T) := (lX8_errorPosition_19 70 (1 : Int32) (sg_a (sg_a (sg_a σ 0 (sg_u (σ 0) 3 (0 : Int32))) 0 (sg_u (sg_u (σ 0) 3 (0 : Int32)) 4 (0 : Int32))) 0 (sg_u (sg_u (sg_u (σ 0) 3 (0 : Int32)) 4 (0 : Int32)) 5 (-10006 : Int32))))
set_option maxRecDepth 100000 in
set_option maxHeartbeats 4000000 in
theorem mX8_errorPosition (l : Launch) (D : va_G) (cI cC : ClassId) (h : Nat → Nat) (σ : sg_T) (r : Int32) (σ' : sg_T) (hrun : fX8_errorPosition σ = some (r, σ')) : me_I l D (tM cI cC) yX8_errorPosition cX8_errorPosition 2 .int 2 44 (wM cI cC h σ) [.ref (h 0)] r (wM cI cC h σ') := by
  refine me_ofI (plainFor_of_name (by decide)) (Nat.le_of_ble_eq_true rfl) ?_
  intro p e s m args below meth c A ls S hK Y hA hl hr hlk hZ
  have hx := S.1
  have hb := S.2.1
  have hl : lv_has ls 2 [(0, .ref (h 0))] := hl
  have lp19 : ∀ (n : Nat) (a1 : Int32) (σ : sg_T), lX8_errorPosition_19 n a1 σ = some (r, σ') → ∀ (H : Heap) (locs : List Loc) (ls : Array Slot), dy_ D A s (wM cI cC h σ) H locs → lv_has ls 2 [(0, .ref (h 0)), (1, .int a1)] → W p l e (rm_ 2 44) s m args below meth c H locs 0 0 (MQ below (me_Qi D (tM cI cC) A r (wM cI cC h σ')) args s 0 0 A) (F0 m 19 ls []) := by
    intro n
    induction n with
    | zero => intro a1 σ hrun; cases hrun
    | succ n ih =>
      intro a1 σ hrun H locs ls Y hl
      unfold lX8_errorPosition_19 at hrun
      refine lv_iload_n hx hb dX8_errorPosition_19 rfl (lv_at hl 1 rfl) ?_
      refine lv_if_eq (tgt := 95) hx hb dX8_errorPosition_20 (by decide) (fun c_1 => ?_) (fun c_1 => ?_)
      · have hrun := o_t hrun c_1
        refine lv_aload_n hx hb dX8_errorPosition_95 rfl (lv_at hl 0 rfl) ?_
        refine ig S hK Y fX8_151 0 rfl (v := .int (σ 0 5)) rfl dX8_errorPosition_96 ?_
        cases hrun
        exact me_ri S hK Y hr hlk rfl dX8_errorPosition_99
      · have hrun := o_f hrun c_1
        refine lv_aload_n hx hb dX8_errorPosition_23 rfl (lv_at hl 0 rfl) ?_
        obtain ⟨σ2, e_3, hrun⟩ := o_bh hrun
        refine cf_vv (As := []) (rest := []) S hK hA hZ Y hl.1 (mX8_readMove l D cI cC h σ σ2 e_3) kX8_164 (T := TX8) (N := 11) rfl (q0 := 0) rfl ⟨Nat.le_of_ble_eq_true rfl, Nat.le_of_ble_eq_true rfl⟩ rfl rfl (Nat.le_of_ble_eq_true rfl) ⟨Nat.le_of_ble_eq_true rfl, Nat.le_of_ble_eq_true rfl⟩ dX8_errorPosition_24 (fun H locs Y => ?_)
        refine lv_aload_n hx hb dX8_errorPosition_27 rfl (lv_at hl 0 rfl) ?_
        refine ig S hK Y fX8_151 0 rfl (v := .int (σ2 0 5)) rfl dX8_errorPosition_28 ?_
        refine lv_sipush (v := (-10006 : Int32)) hx hb dX8_errorPosition_31 (by decide) ?_
        refine lv_icmp_ne (tgt := 52) hx hb dX8_errorPosition_34 (by decide) (fun c_4 => ?_) (fun c_4 => ?_)
        · have hrun := o_f hrun c_4
          refine lv_iconst (v := (0 : Int32)) hx hb dX8_errorPosition_52 (by decide) ?_
          refine lv_istore_n (lv' := [(1, .int (0 : Int32)), (0, .ref (h 0))]) hx hb dX8_errorPosition_53 rfl hl (Nat.le_of_ble_eq_true rfl) rfl (fun ls hl => ?_)
          refine lv_iload_n hx hb dX8_errorPosition_54 rfl (lv_at hl 0 rfl) ?_
          refine lv_if_eq (tgt := 19) hx hb dX8_errorPosition_55 (by decide) (fun _ => ?_) (fun q => absurd (by decide) q)
          exact ih (0 : Int32) σ2 hrun _ _ _ Y (lv_sub hl [1, 0] rfl)
        · have hrun := o_t hrun c_4
          refine lv_aload_n hx hb dX8_errorPosition_37 rfl (lv_at hl 0 rfl) ?_
          refine ig S hK Y fX8_148 0 rfl (v := .int (σ2 0 4)) rfl dX8_errorPosition_38 ?_
          refine lv_aload_n hx hb dX8_errorPosition_41 rfl (lv_at hl 0 rfl) ?_
          refine ig S hK Y fX8_145 0 rfl (v := .int (σ2 0 2)) rfl dX8_errorPosition_42 ?_
          refine lv_icmp_ge (tgt := 52) hx hb dX8_errorPosition_45 (by decide) (fun c_5 => ?_) (fun c_5 => ?_)
          · have hrun := o_t hrun c_5
            refine lv_iconst (v := (0 : Int32)) hx hb dX8_errorPosition_52 (by decide) ?_
            refine lv_istore_n (lv' := [(1, .int (0 : Int32)), (0, .ref (h 0))]) hx hb dX8_errorPosition_53 rfl hl (Nat.le_of_ble_eq_true rfl) rfl (fun ls hl => ?_)
            refine lv_iload_n hx hb dX8_errorPosition_54 rfl (lv_at hl 0 rfl) ?_
            refine lv_if_eq (tgt := 19) hx hb dX8_errorPosition_55 (by decide) (fun _ => ?_) (fun q => absurd (by decide) q)
            exact ih (0 : Int32) σ2 hrun _ _ _ Y (lv_sub hl [1, 0] rfl)
          · have hrun := o_f hrun c_5
            refine lv_iconst (v := (1 : Int32)) hx hb dX8_errorPosition_48 (by decide) ?_
            refine lv_goto (tgt := 53) hx hb dX8_errorPosition_49 (by decide) ?_
            refine lv_istore_n (lv' := [(1, .int (1 : Int32)), (0, .ref (h 0))]) hx hb dX8_errorPosition_53 rfl hl (Nat.le_of_ble_eq_true rfl) rfl (fun ls hl => ?_)
            refine lv_iload_n hx hb dX8_errorPosition_54 rfl (lv_at hl 0 rfl) ?_
            refine lv_if_eq (tgt := 19) hx hb dX8_errorPosition_55 (by decide) (fun q => absurd q (by decide)) (fun _ => ?_)
            refine lv_aload_n hx hb dX8_errorPosition_58 rfl (lv_at hl 1 rfl) ?_
            refine lv_aload_n hx hb dX8_errorPosition_59 rfl (lv_at hl 1 rfl) ?_
            obtain ⟨r_6, e_7, hrun⟩ := o_bh hrun
            refine cf_v (As := []) (rest := [.ref (h 0)]) S hK hA hZ Y hl.1 (mX8_letter l D cI cC h σ2 r_6 e_7) kX8_154 (T := TX8) (N := 11) rfl (q0 := 0) rfl ⟨Nat.le_of_ble_eq_true rfl, Nat.le_of_ble_eq_true rfl⟩ rfl rfl (Nat.le_of_ble_eq_true rfl) ⟨Nat.le_of_ble_eq_true rfl, Nat.le_of_ble_eq_true rfl⟩ dX8_errorPosition_60 (fun H locs Y => ?_)
            refine lv_bipush (v := (44 : Int32)) hx hb dX8_errorPosition_63 (by decide) ?_
            refine lv_icmp_ne (tgt := 72) hx hb dX8_errorPosition_65 (by decide) (fun c_8 => ?_) (fun c_8 => ?_)
            · have hrun := o_f hrun c_8
              refine lv_iconst (v := (0 : Int32)) hx hb dX8_errorPosition_72 (by decide) ?_
              obtain ⟨σ9, e_10, hrun⟩ := o_bh hrun
              refine cf_vv (As := [.int (0 : Int32)]) (rest := []) S hK hA hZ Y hl.1 (mX8_wants l D cI cC h σ2 (0 : Int32) σ9 e_10) kX8_157 (T := TX8) (N := 11) rfl (q0 := 0) rfl ⟨Nat.le_of_ble_eq_true rfl, Nat.le_of_ble_eq_true rfl⟩ rfl rfl (Nat.le_of_ble_eq_true rfl) ⟨Nat.le_of_ble_eq_true rfl, Nat.le_of_ble_eq_true rfl⟩ dX8_errorPosition_73 (fun H locs Y => ?_)
              refine lv_aload_n hx hb dX8_errorPosition_76 rfl (lv_at hl 1 rfl) ?_
              refine ig S hK Y fX8_151 0 rfl (v := .int (σ9 0 5)) rfl dX8_errorPosition_77 ?_
              refine lv_sipush (v := (-10006 : Int32)) hx hb dX8_errorPosition_80 (by decide) ?_
              refine lv_icmp_ne (tgt := 90) hx hb dX8_errorPosition_83 (by decide) (fun c_11 => ?_) (fun c_11 => ?_)
              · have hrun := o_f hrun c_11
                refine lv_iconst (v := (0 : Int32)) hx hb dX8_errorPosition_90 (by decide) ?_
                refine lv_istore_n (lv' := [(1, .int (0 : Int32)), (0, .ref (h 0))]) hx hb dX8_errorPosition_91 rfl hl (Nat.le_of_ble_eq_true rfl) rfl (fun ls hl => ?_)
                refine lv_goto (tgt := 19) hx hb dX8_errorPosition_92 (by decide) ?_
                exact ih (0 : Int32) σ9 hrun _ _ _ Y (lv_sub hl [1, 0] rfl)
              · have hrun := o_t hrun c_11
                refine lv_iconst (v := (1 : Int32)) hx hb dX8_errorPosition_86 (by decide) ?_
                refine lv_goto (tgt := 91) hx hb dX8_errorPosition_87 (by decide) ?_
                refine lv_istore_n (lv' := [(1, .int (1 : Int32)), (0, .ref (h 0))]) hx hb dX8_errorPosition_91 rfl hl (Nat.le_of_ble_eq_true rfl) rfl (fun ls hl => ?_)
                refine lv_goto (tgt := 19) hx hb dX8_errorPosition_92 (by decide) ?_
                exact ih (1 : Int32) σ9 hrun _ _ _ Y (lv_sub hl [1, 0] rfl)
            · have hrun := o_t hrun c_8
              refine lv_iconst (v := (1 : Int32)) hx hb dX8_errorPosition_68 (by decide) ?_
              refine lv_goto (tgt := 73) hx hb dX8_errorPosition_69 (by decide) ?_
              obtain ⟨σ12, e_13, hrun⟩ := o_bh hrun
              refine cf_vv (As := [.int (1 : Int32)]) (rest := []) S hK hA hZ Y hl.1 (mX8_wants l D cI cC h σ2 (1 : Int32) σ12 e_13) kX8_157 (T := TX8) (N := 11) rfl (q0 := 0) rfl ⟨Nat.le_of_ble_eq_true rfl, Nat.le_of_ble_eq_true rfl⟩ rfl rfl (Nat.le_of_ble_eq_true rfl) ⟨Nat.le_of_ble_eq_true rfl, Nat.le_of_ble_eq_true rfl⟩ dX8_errorPosition_73 (fun H locs Y => ?_)
              refine lv_aload_n hx hb dX8_errorPosition_76 rfl (lv_at hl 1 rfl) ?_
              refine ig S hK Y fX8_151 0 rfl (v := .int (σ12 0 5)) rfl dX8_errorPosition_77 ?_
              refine lv_sipush (v := (-10006 : Int32)) hx hb dX8_errorPosition_80 (by decide) ?_
              refine lv_icmp_ne (tgt := 90) hx hb dX8_errorPosition_83 (by decide) (fun c_14 => ?_) (fun c_14 => ?_)
              · have hrun := o_f hrun c_14
                refine lv_iconst (v := (0 : Int32)) hx hb dX8_errorPosition_90 (by decide) ?_
                refine lv_istore_n (lv' := [(1, .int (0 : Int32)), (0, .ref (h 0))]) hx hb dX8_errorPosition_91 rfl hl (Nat.le_of_ble_eq_true rfl) rfl (fun ls hl => ?_)
                refine lv_goto (tgt := 19) hx hb dX8_errorPosition_92 (by decide) ?_
                exact ih (0 : Int32) σ12 hrun _ _ _ Y (lv_sub hl [1, 0] rfl)
              · have hrun := o_t hrun c_14
                refine lv_iconst (v := (1 : Int32)) hx hb dX8_errorPosition_86 (by decide) ?_
                refine lv_goto (tgt := 91) hx hb dX8_errorPosition_87 (by decide) ?_
                refine lv_istore_n (lv' := [(1, .int (1 : Int32)), (0, .ref (h 0))]) hx hb dX8_errorPosition_91 rfl hl (Nat.le_of_ble_eq_true rfl) rfl (fun ls hl => ?_)
                refine lv_goto (tgt := 19) hx hb dX8_errorPosition_92 (by decide) ?_
                exact ih (1 : Int32) σ12 hrun _ _ _ Y (lv_sub hl [1, 0] rfl)
  unfold fX8_errorPosition at hrun
  refine lv_aload_n hx hb dX8_errorPosition_0 rfl (lv_at hl 0 rfl) ?_
  refine lv_iconst (v := (0 : Int32)) hx hb dX8_errorPosition_1 (by decide) ?_
  refine ip S hK Y fX8_161 fpX8 rfl 0 (fs := vM h (σ 0)) rfl rfl rfl (Nat.le_of_ble_eq_true rfl) (ws' := (wM cI cC h (sg_a σ 0 (sg_u (σ 0) 3 (0 : Int32))))) (wM_f3 _ _ _ _) dX8_errorPosition_2 (fun H locs Y => ?_)
  refine lv_aload_n hx hb dX8_errorPosition_5 rfl (lv_at hl 0 rfl) ?_
  refine lv_iconst (v := (0 : Int32)) hx hb dX8_errorPosition_6 (by decide) ?_
  refine ip S hK Y fX8_148 fpX8 rfl 0 (fs := vM h (sg_u (σ 0) 3 (0 : Int32))) rfl rfl rfl (Nat.le_of_ble_eq_true rfl) (ws' := (wM cI cC h (sg_a (sg_a σ 0 (sg_u (σ 0) 3 (0 : Int32))) 0 (sg_u (sg_u (σ 0) 3 (0 : Int32)) 4 (0 : Int32))))) (wM_f4 _ _ _ _) dX8_errorPosition_7 (fun H locs Y => ?_)
  refine lv_aload_n hx hb dX8_errorPosition_10 rfl (lv_at hl 0 rfl) ?_
  refine lv_sipush (v := (-10006 : Int32)) hx hb dX8_errorPosition_11 (by decide) ?_
  refine ip S hK Y fX8_151 fpX8 rfl 0 (fs := vM h (sg_u (sg_u (σ 0) 3 (0 : Int32)) 4 (0 : Int32))) rfl rfl rfl (Nat.le_of_ble_eq_true rfl) (ws' := (wM cI cC h (sg_a (sg_a (sg_a σ 0 (sg_u (σ 0) 3 (0 : Int32))) 0 (sg_u (sg_u (σ 0) 3 (0 : Int32)) 4 (0 : Int32))) 0 (sg_u (sg_u (sg_u (σ 0) 3 (0 : Int32)) 4 (0 : Int32)) 5 (-10006 : Int32))))) (wM_f5 _ _ _ _) dX8_errorPosition_14 (fun H locs Y => ?_)
  refine lv_iconst (v := (1 : Int32)) hx hb dX8_errorPosition_17 (by decide) ?_
  refine lv_istore_n (lv' := [(1, .int (1 : Int32)), (0, .ref (h 0))]) hx hb dX8_errorPosition_18 rfl hl (Nat.le_of_ble_eq_true rfl) rfl (fun ls hl => ?_)
  exact lp19 70 (1 : Int32) (sg_a (sg_a (sg_a σ 0 (sg_u (σ 0) 3 (0 : Int32))) 0 (sg_u (sg_u (σ 0) 3 (0 : Int32)) 4 (0 : Int32))) 0 (sg_u (sg_u (sg_u (σ 0) 3 (0 : Int32)) 4 (0 : Int32)) 5 (-10006 : Int32))) hrun _ _ _ Y (lv_sub hl [1, 0] rfl)
def fX8_makeOne (p1 : Int32) (σ : sg_T) : Option (Int32 × sg_T) := (o_x (p1 + (1 : Int32)) 93 (o_x (p1 + (2 : Int32)) 93 (o_x p1 93 (if ((σ 5) (p1).toNatClampNeg) = (98 : Int32) then (if ((σ 1) ((6 : Int32)).toNatClampNeg) = (1 : Int32) then ((fX8_seeks σ).bind fun q_8 => (some ((0 : Int32), q_8.2))) else (some ((-10003 : Int32), σ))) else (if ((σ 5) (p1).toNatClampNeg) = (99 : Int32) then ((fX8_whyNotCry ((σ 5) ((p1 + (1 : Int32))).toNatClampNeg) ((σ 5) ((p1 + (2 : Int32))).toNatClampNeg) σ).bind fun r_10 => (if r_10 = 0 then ((fX8_cries ((σ 5) ((p1 + (1 : Int32))).toNatClampNeg) ((σ 5) ((p1 + (2 : Int32))).toNatClampNeg) σ).bind fun q_15 => (some (r_10, q_15.2))) else (some (r_10, σ)))) else (if ((σ 5) (p1).toNatClampNeg) = (100 : Int32) then ((fX8_whyNotDash ((σ 5) ((p1 + (1 : Int32))).toNatClampNeg) σ).bind fun r_17 => (if r_17 = 0 then ((fX8_dashes ((σ 5) ((p1 + (1 : Int32))).toNatClampNeg) σ).bind fun q_22 => (some (r_17, q_22.2))) else (some (r_17, σ)))) else (if ((σ 5) (p1).toNatClampNeg) = (101 : Int32) then (if ((σ 1) ((6 : Int32)).toNatClampNeg) = (2 : Int32) then ((fX8_walks (-1 : Int32) σ).bind fun q_27 => (some ((0 : Int32), q_27.2))) else (some ((-10003 : Int32), σ))) else (if ((σ 5) (p1).toNatClampNeg) = (102 : Int32) then (if ((σ 1) ((6 : Int32)).toNatClampNeg) = (2 : Int32) then ((fX8_walks (-1 : Int32) σ).bind fun q_32 => (some ((0 : Int32), q_32.2))) else (some ((-10003 : Int32), σ))) else (if ((σ 5) (p1).toNatClampNeg) = (103 : Int32) then (if ((σ 1) ((6 : Int32)).toNatClampNeg) = (2 : Int32) then ((fX8_walks (-1 : Int32) σ).bind fun q_37 => (some ((0 : Int32), q_37.2))) else (some ((-10003 : Int32), σ))) else (if ((σ 5) (p1).toNatClampNeg) = (104 : Int32) then ((fX8_whyNotHide ((σ 5) ((p1 + (1 : Int32))).toNatClampNeg) ((σ 5) ((p1 + (2 : Int32))).toNatClampNeg) σ).bind fun r_39 => (if r_39 = 0 then ((fX8_hides ((σ 5) ((p1 + (1 : Int32))).toNatClampNeg) ((σ 5) ((p1 + (2 : Int32))).toNatClampNeg) σ).bind fun σ42 => (some (r_39, σ42))) else (some (r_39, σ)))) else (if ((σ 1) ((6 : Int32)).toNatClampNeg) = (2 : Int32) then (if ((σ 5) (p1).toNatClampNeg) = (43 : Int32) then ((fX8_walks (1 : Int32) σ).bind fun q_51 => (some ((0 : Int32), q_51.2))) else ((fX8_walks (-1 : Int32) σ).bind fun q_48 => (some ((0 : Int32), q_48.2)))) else (some ((-10003 : Int32), σ)))))))))))))
set_option maxRecDepth 100000 in
set_option maxHeartbeats 4000000 in
theorem mX8_makeOne (l : Launch) (D : va_G) (cI cC : ClassId) (h : Nat → Nat) (σ : sg_T) (p1 : Int32) (r : Int32) (σ' : sg_T) (hrun : fX8_makeOne p1 σ = some (r, σ')) : me_I l D (tM cI cC) yX8_makeOne cX8_makeOne 5 .int 5 108 (wM cI cC h σ) [.ref (h 0), .int p1] r (wM cI cC h σ') := by
  refine me_ofI (plainFor_of_name (by decide)) (Nat.le_of_ble_eq_true rfl) ?_
  intro p e s m args below meth c A ls S hK Y hA hl hr hlk hZ
  have hx := S.1
  have hb := S.2.1
  have hl : lv_has ls 5 [(0, .ref (h 0)), (1, .int p1)] := hl
  unfold fX8_makeOne at hrun
  refine lv_aload_n hx hb dX8_makeOne_0 rfl (lv_at hl 0 rfl) ?_
  refine ig S hK Y fX8_23 0 rfl (v := .ref (h 5)) rfl dX8_makeOne_1 ?_
  refine lv_iload_n hx hb dX8_makeOne_4 rfl (lv_at hl 1 rfl) ?_
  refine lv_iconst (v := (1 : Int32)) hx hb dX8_makeOne_5 (by decide) ?_
  refine lv_iadd hx hb dX8_makeOne_6 ?_
  obtain ⟨b_1, hrun⟩ := o_xh hrun
  refine ia S hK Y 5 0 (f := (σ 5)) rfl rfl b_1 dX8_makeOne_7 ?_
  refine lv_istore_n (lv' := [(2, .int ((σ 5) ((p1 + (1 : Int32))).toNatClampNeg)), (0, .ref (h 0)), (1, .int p1)]) hx hb dX8_makeOne_8 rfl hl (Nat.le_of_ble_eq_true rfl) rfl (fun ls hl => ?_)
  refine lv_aload_n hx hb dX8_makeOne_9 rfl (lv_at hl 1 rfl) ?_
  refine ig S hK Y fX8_23 0 rfl (v := .ref (h 5)) rfl dX8_makeOne_10 ?_
  refine lv_iload_n hx hb dX8_makeOne_13 rfl (lv_at hl 2 rfl) ?_
  refine lv_iconst (v := (2 : Int32)) hx hb dX8_makeOne_14 (by decide) ?_
  refine lv_iadd hx hb dX8_makeOne_15 ?_
  obtain ⟨b_2, hrun⟩ := o_xh hrun
  refine ia S hK Y 5 0 (f := (σ 5)) rfl rfl b_2 dX8_makeOne_16 ?_
  refine lv_istore_n (lv' := [(3, .int ((σ 5) ((p1 + (2 : Int32))).toNatClampNeg)), (2, .int ((σ 5) ((p1 + (1 : Int32))).toNatClampNeg)), (0, .ref (h 0)), (1, .int p1)]) hx hb dX8_makeOne_17 rfl hl (Nat.le_of_ble_eq_true rfl) rfl (fun ls hl => ?_)
  refine lv_iconst (v := (0 : Int32)) hx hb dX8_makeOne_18 (by decide) ?_
  refine lv_istore (lv' := [(4, .int (0 : Int32)), (3, .int ((σ 5) ((p1 + (2 : Int32))).toNatClampNeg)), (2, .int ((σ 5) ((p1 + (1 : Int32))).toNatClampNeg)), (0, .ref (h 0)), (1, .int p1)]) hx hb dX8_makeOne_19 hl (Nat.le_of_ble_eq_true rfl) rfl (fun ls hl => ?_)
  refine lv_aload_n hx hb dX8_makeOne_21 rfl (lv_at hl 3 rfl) ?_
  refine ig S hK Y fX8_23 0 rfl (v := .ref (h 5)) rfl dX8_makeOne_22 ?_
  refine lv_iload_n hx hb dX8_makeOne_25 rfl (lv_at hl 4 rfl) ?_
  obtain ⟨b_3, hrun⟩ := o_xh hrun
  refine ia S hK Y 5 0 (f := (σ 5)) rfl rfl b_3 dX8_makeOne_26 ?_
  rcases Decidable.em (((σ 5) (p1).toNatClampNeg) = (98 : Int32)) with c_4 | c_4
  · have hrun := o_t hrun c_4
    refine lv_tableIn (off := 63) (tgt := 90) hx hb dX8_makeOne_27 (by rw [c_4]; decide) (by rw [c_4]; decide) (by rw [c_4]; rfl) (by decide) ?_
    refine lv_aload_n hx hb dX8_makeOne_90 rfl (lv_at hl 3 rfl) ?_
    refine ig S hK Y fX8_7 0 rfl (v := .ref (h 1)) rfl dX8_makeOne_91 ?_
    refine lv_bipush (v := (6 : Int32)) hx hb dX8_makeOne_94 (by decide) ?_
    refine ia S hK Y 1 0 (f := (σ 1)) rfl rfl (show ¬ ((6 : Int32) < 0 ∨ 108 ≤ ((6 : Int32)).toNatClampNeg) by decide) dX8_makeOne_96 ?_
    refine lv_iconst (v := (1 : Int32)) hx hb dX8_makeOne_97 (by decide) ?_
    refine lv_icmp_ne (tgt := 105) hx hb dX8_makeOne_98 (by decide) (fun c_5 => ?_) (fun c_5 => ?_)
    · have hrun := o_f hrun c_5
      refine lv_sipush (v := (-10003 : Int32)) hx hb dX8_makeOne_105 (by decide) ?_
      refine lv_istore (lv' := [(4, .int (-10003 : Int32)), (3, .int ((σ 5) ((p1 + (2 : Int32))).toNatClampNeg)), (2, .int ((σ 5) ((p1 + (1 : Int32))).toNatClampNeg)), (0, .ref (h 0)), (1, .int p1)]) hx hb dX8_makeOne_108 hl (Nat.le_of_ble_eq_true rfl) rfl (fun ls hl => ?_)
      refine lv_iload hx hb dX8_makeOne_110 (lv_at hl 0 rfl) ?_
      refine lv_if_ne (tgt := 213) hx hb dX8_makeOne_112 (by decide) (fun _ => ?_) (fun q => absurd q (by decide))
      refine lv_iload hx hb dX8_makeOne_213 (lv_at hl 0 rfl) ?_
      cases hrun
      exact me_ri S hK Y hr hlk rfl dX8_makeOne_215
    · have hrun := o_t hrun c_5
      refine lv_iconst (v := (0 : Int32)) hx hb dX8_makeOne_101 (by decide) ?_
      refine lv_goto (tgt := 108) hx hb dX8_makeOne_102 (by decide) ?_
      refine lv_istore (lv' := [(4, .int (0 : Int32)), (3, .int ((σ 5) ((p1 + (2 : Int32))).toNatClampNeg)), (2, .int ((σ 5) ((p1 + (1 : Int32))).toNatClampNeg)), (0, .ref (h 0)), (1, .int p1)]) hx hb dX8_makeOne_108 hl (Nat.le_of_ble_eq_true rfl) rfl (fun ls hl => ?_)
      refine lv_iload hx hb dX8_makeOne_110 (lv_at hl 0 rfl) ?_
      refine lv_if_ne (tgt := 213) hx hb dX8_makeOne_112 (by decide) (fun q => absurd (by decide) q) (fun _ => ?_)
      refine lv_aload_n hx hb dX8_makeOne_115 rfl (lv_at hl 3 rfl) ?_
      obtain ⟨q_8, e_7, hrun⟩ := o_bh hrun
      refine cf_v (As := []) (rest := []) S hK hA hZ Y hl.1 (mX8_seeks l D cI cC h σ q_8.1 q_8.2 e_7) kX8_99 (T := TX8) (N := 11) rfl (q0 := 0) rfl ⟨Nat.le_of_ble_eq_true rfl, Nat.le_of_ble_eq_true rfl⟩ rfl rfl (Nat.le_of_ble_eq_true rfl) ⟨Nat.le_of_ble_eq_true rfl, Nat.le_of_ble_eq_true rfl⟩ dX8_makeOne_116 (fun H locs Y => ?_)
      refine lv_pop hx hb dX8_makeOne_119 rfl ?_
      refine lv_goto (tgt := 213) hx hb dX8_makeOne_120 (by decide) ?_
      refine lv_iload hx hb dX8_makeOne_213 (lv_at hl 0 rfl) ?_
      cases hrun
      exact me_ri S hK Y hr hlk rfl dX8_makeOne_215
  · have hrun := o_f hrun c_4
    rcases Decidable.em (((σ 5) (p1).toNatClampNeg) = (99 : Int32)) with c_9 | c_9
    · have hrun := o_t hrun c_9
      refine lv_tableIn (off := 96) (tgt := 123) hx hb dX8_makeOne_27 (by rw [c_9]; decide) (by rw [c_9]; decide) (by rw [c_9]; rfl) (by decide) ?_
      refine lv_aload_n hx hb dX8_makeOne_123 rfl (lv_at hl 3 rfl) ?_
      refine lv_iload_n hx hb dX8_makeOne_124 rfl (lv_at hl 2 rfl) ?_
      refine lv_iload_n hx hb dX8_makeOne_125 rfl (lv_at hl 1 rfl) ?_
      obtain ⟨r_10, e_11, hrun⟩ := o_bh hrun
      refine cf_v (As := [.int ((σ 5) ((p1 + (1 : Int32))).toNatClampNeg), .int ((σ 5) ((p1 + (2 : Int32))).toNatClampNeg)]) (rest := []) S hK hA hZ Y hl.1 (mX8_whyNotCry l D cI cC h σ ((σ 5) ((p1 + (1 : Int32))).toNatClampNeg) ((σ 5) ((p1 + (2 : Int32))).toNatClampNeg) r_10 e_11) kX8_112 (T := TX8) (N := 11) rfl (q0 := 0) rfl ⟨Nat.le_of_ble_eq_true rfl, Nat.le_of_ble_eq_true rfl⟩ rfl rfl (Nat.le_of_ble_eq_true rfl) ⟨Nat.le_of_ble_eq_true rfl, Nat.le_of_ble_eq_true rfl⟩ dX8_makeOne_126 (fun H locs Y => ?_)
      refine lv_istore (lv' := [(4, .int r_10), (3, .int ((σ 5) ((p1 + (2 : Int32))).toNatClampNeg)), (2, .int ((σ 5) ((p1 + (1 : Int32))).toNatClampNeg)), (0, .ref (h 0)), (1, .int p1)]) hx hb dX8_makeOne_129 hl (Nat.le_of_ble_eq_true rfl) rfl (fun ls hl => ?_)
      refine lv_iload hx hb dX8_makeOne_131 (lv_at hl 0 rfl) ?_
      refine lv_if_ne (tgt := 213) hx hb dX8_makeOne_133 (by decide) (fun c_12 => ?_) (fun c_12 => ?_)
      · have hrun := o_f hrun c_12
        refine lv_iload hx hb dX8_makeOne_213 (lv_at hl 0 rfl) ?_
        cases hrun
        exact me_ri S hK Y hr hlk rfl dX8_makeOne_215
      · have hrun := o_t hrun c_12
        refine lv_aload_n hx hb dX8_makeOne_136 rfl (lv_at hl 3 rfl) ?_
        refine lv_iload_n hx hb dX8_makeOne_137 rfl (lv_at hl 2 rfl) ?_
        refine lv_iload_n hx hb dX8_makeOne_138 rfl (lv_at hl 1 rfl) ?_
        obtain ⟨q_15, e_14, hrun⟩ := o_bh hrun
        refine cf_v (As := [.int ((σ 5) ((p1 + (1 : Int32))).toNatClampNeg), .int ((σ 5) ((p1 + (2 : Int32))).toNatClampNeg)]) (rest := []) S hK hA hZ Y hl.1 (mX8_cries l D cI cC h σ ((σ 5) ((p1 + (1 : Int32))).toNatClampNeg) ((σ 5) ((p1 + (2 : Int32))).toNatClampNeg) q_15.1 q_15.2 e_14) kX8_115 (T := TX8) (N := 11) rfl (q0 := 0) rfl ⟨Nat.le_of_ble_eq_true rfl, Nat.le_of_ble_eq_true rfl⟩ rfl rfl (Nat.le_of_ble_eq_true rfl) ⟨Nat.le_of_ble_eq_true rfl, Nat.le_of_ble_eq_true rfl⟩ dX8_makeOne_139 (fun H locs Y => ?_)
        refine lv_pop hx hb dX8_makeOne_142 rfl ?_
        refine lv_goto (tgt := 213) hx hb dX8_makeOne_143 (by decide) ?_
        refine lv_iload hx hb dX8_makeOne_213 (lv_at hl 0 rfl) ?_
        cases hrun
        exact me_ri S hK Y hr hlk rfl dX8_makeOne_215
    · have hrun := o_f hrun c_9
      rcases Decidable.em (((σ 5) (p1).toNatClampNeg) = (100 : Int32)) with c_16 | c_16
      · have hrun := o_t hrun c_16
        refine lv_tableIn (off := 119) (tgt := 146) hx hb dX8_makeOne_27 (by rw [c_16]; decide) (by rw [c_16]; decide) (by rw [c_16]; rfl) (by decide) ?_
        refine lv_aload_n hx hb dX8_makeOne_146 rfl (lv_at hl 3 rfl) ?_
        refine lv_iload_n hx hb dX8_makeOne_147 rfl (lv_at hl 2 rfl) ?_
        obtain ⟨r_17, e_18, hrun⟩ := o_bh hrun
        refine cf_v (As := [.int ((σ 5) ((p1 + (1 : Int32))).toNatClampNeg)]) (rest := []) S hK hA hZ Y hl.1 (mX8_whyNotDash l D cI cC h σ ((σ 5) ((p1 + (1 : Int32))).toNatClampNeg) r_17 e_18) kX8_121 (T := TX8) (N := 11) rfl (q0 := 0) rfl ⟨Nat.le_of_ble_eq_true rfl, Nat.le_of_ble_eq_true rfl⟩ rfl rfl (Nat.le_of_ble_eq_true rfl) ⟨Nat.le_of_ble_eq_true rfl, Nat.le_of_ble_eq_true rfl⟩ dX8_makeOne_148 (fun H locs Y => ?_)
        refine lv_istore (lv' := [(4, .int r_17), (3, .int ((σ 5) ((p1 + (2 : Int32))).toNatClampNeg)), (2, .int ((σ 5) ((p1 + (1 : Int32))).toNatClampNeg)), (0, .ref (h 0)), (1, .int p1)]) hx hb dX8_makeOne_151 hl (Nat.le_of_ble_eq_true rfl) rfl (fun ls hl => ?_)
        refine lv_iload hx hb dX8_makeOne_153 (lv_at hl 0 rfl) ?_
        refine lv_if_ne (tgt := 213) hx hb dX8_makeOne_155 (by decide) (fun c_19 => ?_) (fun c_19 => ?_)
        · have hrun := o_f hrun c_19
          refine lv_iload hx hb dX8_makeOne_213 (lv_at hl 0 rfl) ?_
          cases hrun
          exact me_ri S hK Y hr hlk rfl dX8_makeOne_215
        · have hrun := o_t hrun c_19
          refine lv_aload_n hx hb dX8_makeOne_158 rfl (lv_at hl 3 rfl) ?_
          refine lv_iload_n hx hb dX8_makeOne_159 rfl (lv_at hl 2 rfl) ?_
          obtain ⟨q_22, e_21, hrun⟩ := o_bh hrun
          refine cf_v (As := [.int ((σ 5) ((p1 + (1 : Int32))).toNatClampNeg)]) (rest := []) S hK hA hZ Y hl.1 (mX8_dashes l D cI cC h σ ((σ 5) ((p1 + (1 : Int32))).toNatClampNeg) q_22.1 q_22.2 e_21) kX8_124 (T := TX8) (N := 11) rfl (q0 := 0) rfl ⟨Nat.le_of_ble_eq_true rfl, Nat.le_of_ble_eq_true rfl⟩ rfl rfl (Nat.le_of_ble_eq_true rfl) ⟨Nat.le_of_ble_eq_true rfl, Nat.le_of_ble_eq_true rfl⟩ dX8_makeOne_160 (fun H locs Y => ?_)
          refine lv_pop hx hb dX8_makeOne_163 rfl ?_
          refine lv_goto (tgt := 213) hx hb dX8_makeOne_164 (by decide) ?_
          refine lv_iload hx hb dX8_makeOne_213 (lv_at hl 0 rfl) ?_
          cases hrun
          exact me_ri S hK Y hr hlk rfl dX8_makeOne_215
      · have hrun := o_f hrun c_16
        rcases Decidable.em (((σ 5) (p1).toNatClampNeg) = (101 : Int32)) with c_23 | c_23
        · have hrun := o_t hrun c_23
          refine lv_tableIn (off := 140) (tgt := 167) hx hb dX8_makeOne_27 (by rw [c_23]; decide) (by rw [c_23]; decide) (by rw [c_23]; rfl) (by decide) ?_
          refine lv_aload_n hx hb dX8_makeOne_167 rfl (lv_at hl 3 rfl) ?_
          refine ig S hK Y fX8_7 0 rfl (v := .ref (h 1)) rfl dX8_makeOne_168 ?_
          refine lv_bipush (v := (6 : Int32)) hx hb dX8_makeOne_171 (by decide) ?_
          refine ia S hK Y 1 0 (f := (σ 1)) rfl rfl (show ¬ ((6 : Int32) < 0 ∨ 108 ≤ ((6 : Int32)).toNatClampNeg) by decide) dX8_makeOne_173 ?_
          refine lv_iconst (v := (2 : Int32)) hx hb dX8_makeOne_174 (by decide) ?_
          refine lv_icmp_ne (tgt := 182) hx hb dX8_makeOne_175 (by decide) (fun c_24 => ?_) (fun c_24 => ?_)
          · have hrun := o_f hrun c_24
            refine lv_sipush (v := (-10003 : Int32)) hx hb dX8_makeOne_182 (by decide) ?_
            refine lv_istore (lv' := [(4, .int (-10003 : Int32)), (3, .int ((σ 5) ((p1 + (2 : Int32))).toNatClampNeg)), (2, .int ((σ 5) ((p1 + (1 : Int32))).toNatClampNeg)), (0, .ref (h 0)), (1, .int p1)]) hx hb dX8_makeOne_185 hl (Nat.le_of_ble_eq_true rfl) rfl (fun ls hl => ?_)
            refine lv_iload hx hb dX8_makeOne_187 (lv_at hl 0 rfl) ?_
            refine lv_if_ne (tgt := 213) hx hb dX8_makeOne_189 (by decide) (fun _ => ?_) (fun q => absurd q (by decide))
            refine lv_iload hx hb dX8_makeOne_213 (lv_at hl 0 rfl) ?_
            cases hrun
            exact me_ri S hK Y hr hlk rfl dX8_makeOne_215
          · have hrun := o_t hrun c_24
            refine lv_iconst (v := (0 : Int32)) hx hb dX8_makeOne_178 (by decide) ?_
            refine lv_goto (tgt := 185) hx hb dX8_makeOne_179 (by decide) ?_
            refine lv_istore (lv' := [(4, .int (0 : Int32)), (3, .int ((σ 5) ((p1 + (2 : Int32))).toNatClampNeg)), (2, .int ((σ 5) ((p1 + (1 : Int32))).toNatClampNeg)), (0, .ref (h 0)), (1, .int p1)]) hx hb dX8_makeOne_185 hl (Nat.le_of_ble_eq_true rfl) rfl (fun ls hl => ?_)
            refine lv_iload hx hb dX8_makeOne_187 (lv_at hl 0 rfl) ?_
            refine lv_if_ne (tgt := 213) hx hb dX8_makeOne_189 (by decide) (fun q => absurd (by decide) q) (fun _ => ?_)
            refine lv_aload_n hx hb dX8_makeOne_192 rfl (lv_at hl 3 rfl) ?_
            refine lv_aload_n hx hb dX8_makeOne_193 rfl (lv_at hl 3 rfl) ?_
            refine ig S hK Y fX8_23 0 rfl (v := .ref (h 5)) rfl dX8_makeOne_194 ?_
            refine lv_iload_n hx hb dX8_makeOne_197 rfl (lv_at hl 4 rfl) ?_
            refine ia S hK Y 5 0 (f := (σ 5)) rfl rfl b_3 dX8_makeOne_198 ?_
            refine lv_bipush (v := (43 : Int32)) hx hb dX8_makeOne_199 (by decide) ?_
            refine lv_icmp_ne (tgt := 208) hx hb dX8_makeOne_201 (by decide) (fun _ => ?_) (fun q => absurd q (fun q => absurd (c_23.symm.trans q) (by decide)))
            refine lv_iconst (v := (-1 : Int32)) hx hb dX8_makeOne_208 (by decide) ?_
            obtain ⟨q_27, e_26, hrun⟩ := o_bh hrun
            refine cf_v (As := [.int (-1 : Int32)]) (rest := []) S hK hA hZ Y hl.1 (mX8_walks l D cI cC h σ (-1 : Int32) q_27.1 q_27.2 e_26) kX8_102 (T := TX8) (N := 11) rfl (q0 := 0) rfl ⟨Nat.le_of_ble_eq_true rfl, Nat.le_of_ble_eq_true rfl⟩ rfl rfl (Nat.le_of_ble_eq_true rfl) ⟨Nat.le_of_ble_eq_true rfl, Nat.le_of_ble_eq_true rfl⟩ dX8_makeOne_209 (fun H locs Y => ?_)
            refine lv_pop hx hb dX8_makeOne_212 rfl ?_
            refine lv_iload hx hb dX8_makeOne_213 (lv_at hl 0 rfl) ?_
            cases hrun
            exact me_ri S hK Y hr hlk rfl dX8_makeOne_215
        · have hrun := o_f hrun c_23
          rcases Decidable.em (((σ 5) (p1).toNatClampNeg) = (102 : Int32)) with c_28 | c_28
          · have hrun := o_t hrun c_28
            refine lv_tableIn (off := 140) (tgt := 167) hx hb dX8_makeOne_27 (by rw [c_28]; decide) (by rw [c_28]; decide) (by rw [c_28]; rfl) (by decide) ?_
            refine lv_aload_n hx hb dX8_makeOne_167 rfl (lv_at hl 3 rfl) ?_
            refine ig S hK Y fX8_7 0 rfl (v := .ref (h 1)) rfl dX8_makeOne_168 ?_
            refine lv_bipush (v := (6 : Int32)) hx hb dX8_makeOne_171 (by decide) ?_
            refine ia S hK Y 1 0 (f := (σ 1)) rfl rfl (show ¬ ((6 : Int32) < 0 ∨ 108 ≤ ((6 : Int32)).toNatClampNeg) by decide) dX8_makeOne_173 ?_
            refine lv_iconst (v := (2 : Int32)) hx hb dX8_makeOne_174 (by decide) ?_
            refine lv_icmp_ne (tgt := 182) hx hb dX8_makeOne_175 (by decide) (fun c_29 => ?_) (fun c_29 => ?_)
            · have hrun := o_f hrun c_29
              refine lv_sipush (v := (-10003 : Int32)) hx hb dX8_makeOne_182 (by decide) ?_
              refine lv_istore (lv' := [(4, .int (-10003 : Int32)), (3, .int ((σ 5) ((p1 + (2 : Int32))).toNatClampNeg)), (2, .int ((σ 5) ((p1 + (1 : Int32))).toNatClampNeg)), (0, .ref (h 0)), (1, .int p1)]) hx hb dX8_makeOne_185 hl (Nat.le_of_ble_eq_true rfl) rfl (fun ls hl => ?_)
              refine lv_iload hx hb dX8_makeOne_187 (lv_at hl 0 rfl) ?_
              refine lv_if_ne (tgt := 213) hx hb dX8_makeOne_189 (by decide) (fun _ => ?_) (fun q => absurd q (by decide))
              refine lv_iload hx hb dX8_makeOne_213 (lv_at hl 0 rfl) ?_
              cases hrun
              exact me_ri S hK Y hr hlk rfl dX8_makeOne_215
            · have hrun := o_t hrun c_29
              refine lv_iconst (v := (0 : Int32)) hx hb dX8_makeOne_178 (by decide) ?_
              refine lv_goto (tgt := 185) hx hb dX8_makeOne_179 (by decide) ?_
              refine lv_istore (lv' := [(4, .int (0 : Int32)), (3, .int ((σ 5) ((p1 + (2 : Int32))).toNatClampNeg)), (2, .int ((σ 5) ((p1 + (1 : Int32))).toNatClampNeg)), (0, .ref (h 0)), (1, .int p1)]) hx hb dX8_makeOne_185 hl (Nat.le_of_ble_eq_true rfl) rfl (fun ls hl => ?_)
              refine lv_iload hx hb dX8_makeOne_187 (lv_at hl 0 rfl) ?_
              refine lv_if_ne (tgt := 213) hx hb dX8_makeOne_189 (by decide) (fun q => absurd (by decide) q) (fun _ => ?_)
              refine lv_aload_n hx hb dX8_makeOne_192 rfl (lv_at hl 3 rfl) ?_
              refine lv_aload_n hx hb dX8_makeOne_193 rfl (lv_at hl 3 rfl) ?_
              refine ig S hK Y fX8_23 0 rfl (v := .ref (h 5)) rfl dX8_makeOne_194 ?_
              refine lv_iload_n hx hb dX8_makeOne_197 rfl (lv_at hl 4 rfl) ?_
              refine ia S hK Y 5 0 (f := (σ 5)) rfl rfl b_3 dX8_makeOne_198 ?_
              refine lv_bipush (v := (43 : Int32)) hx hb dX8_makeOne_199 (by decide) ?_
              refine lv_icmp_ne (tgt := 208) hx hb dX8_makeOne_201 (by decide) (fun _ => ?_) (fun q => absurd q (fun q => absurd (c_28.symm.trans q) (by decide)))
              refine lv_iconst (v := (-1 : Int32)) hx hb dX8_makeOne_208 (by decide) ?_
              obtain ⟨q_32, e_31, hrun⟩ := o_bh hrun
              refine cf_v (As := [.int (-1 : Int32)]) (rest := []) S hK hA hZ Y hl.1 (mX8_walks l D cI cC h σ (-1 : Int32) q_32.1 q_32.2 e_31) kX8_102 (T := TX8) (N := 11) rfl (q0 := 0) rfl ⟨Nat.le_of_ble_eq_true rfl, Nat.le_of_ble_eq_true rfl⟩ rfl rfl (Nat.le_of_ble_eq_true rfl) ⟨Nat.le_of_ble_eq_true rfl, Nat.le_of_ble_eq_true rfl⟩ dX8_makeOne_209 (fun H locs Y => ?_)
              refine lv_pop hx hb dX8_makeOne_212 rfl ?_
              refine lv_iload hx hb dX8_makeOne_213 (lv_at hl 0 rfl) ?_
              cases hrun
              exact me_ri S hK Y hr hlk rfl dX8_makeOne_215
          · have hrun := o_f hrun c_28
            rcases Decidable.em (((σ 5) (p1).toNatClampNeg) = (103 : Int32)) with c_33 | c_33
            · have hrun := o_t hrun c_33
              refine lv_tableIn (off := 140) (tgt := 167) hx hb dX8_makeOne_27 (by rw [c_33]; decide) (by rw [c_33]; decide) (by rw [c_33]; rfl) (by decide) ?_
              refine lv_aload_n hx hb dX8_makeOne_167 rfl (lv_at hl 3 rfl) ?_
              refine ig S hK Y fX8_7 0 rfl (v := .ref (h 1)) rfl dX8_makeOne_168 ?_
              refine lv_bipush (v := (6 : Int32)) hx hb dX8_makeOne_171 (by decide) ?_
              refine ia S hK Y 1 0 (f := (σ 1)) rfl rfl (show ¬ ((6 : Int32) < 0 ∨ 108 ≤ ((6 : Int32)).toNatClampNeg) by decide) dX8_makeOne_173 ?_
              refine lv_iconst (v := (2 : Int32)) hx hb dX8_makeOne_174 (by decide) ?_
              refine lv_icmp_ne (tgt := 182) hx hb dX8_makeOne_175 (by decide) (fun c_34 => ?_) (fun c_34 => ?_)
              · have hrun := o_f hrun c_34
                refine lv_sipush (v := (-10003 : Int32)) hx hb dX8_makeOne_182 (by decide) ?_
                refine lv_istore (lv' := [(4, .int (-10003 : Int32)), (3, .int ((σ 5) ((p1 + (2 : Int32))).toNatClampNeg)), (2, .int ((σ 5) ((p1 + (1 : Int32))).toNatClampNeg)), (0, .ref (h 0)), (1, .int p1)]) hx hb dX8_makeOne_185 hl (Nat.le_of_ble_eq_true rfl) rfl (fun ls hl => ?_)
                refine lv_iload hx hb dX8_makeOne_187 (lv_at hl 0 rfl) ?_
                refine lv_if_ne (tgt := 213) hx hb dX8_makeOne_189 (by decide) (fun _ => ?_) (fun q => absurd q (by decide))
                refine lv_iload hx hb dX8_makeOne_213 (lv_at hl 0 rfl) ?_
                cases hrun
                exact me_ri S hK Y hr hlk rfl dX8_makeOne_215
              · have hrun := o_t hrun c_34
                refine lv_iconst (v := (0 : Int32)) hx hb dX8_makeOne_178 (by decide) ?_
                refine lv_goto (tgt := 185) hx hb dX8_makeOne_179 (by decide) ?_
                refine lv_istore (lv' := [(4, .int (0 : Int32)), (3, .int ((σ 5) ((p1 + (2 : Int32))).toNatClampNeg)), (2, .int ((σ 5) ((p1 + (1 : Int32))).toNatClampNeg)), (0, .ref (h 0)), (1, .int p1)]) hx hb dX8_makeOne_185 hl (Nat.le_of_ble_eq_true rfl) rfl (fun ls hl => ?_)
                refine lv_iload hx hb dX8_makeOne_187 (lv_at hl 0 rfl) ?_
                refine lv_if_ne (tgt := 213) hx hb dX8_makeOne_189 (by decide) (fun q => absurd (by decide) q) (fun _ => ?_)
                refine lv_aload_n hx hb dX8_makeOne_192 rfl (lv_at hl 3 rfl) ?_
                refine lv_aload_n hx hb dX8_makeOne_193 rfl (lv_at hl 3 rfl) ?_
                refine ig S hK Y fX8_23 0 rfl (v := .ref (h 5)) rfl dX8_makeOne_194 ?_
                refine lv_iload_n hx hb dX8_makeOne_197 rfl (lv_at hl 4 rfl) ?_
                refine ia S hK Y 5 0 (f := (σ 5)) rfl rfl b_3 dX8_makeOne_198 ?_
                refine lv_bipush (v := (43 : Int32)) hx hb dX8_makeOne_199 (by decide) ?_
                refine lv_icmp_ne (tgt := 208) hx hb dX8_makeOne_201 (by decide) (fun _ => ?_) (fun q => absurd q (fun q => absurd (c_33.symm.trans q) (by decide)))
                refine lv_iconst (v := (-1 : Int32)) hx hb dX8_makeOne_208 (by decide) ?_
                obtain ⟨q_37, e_36, hrun⟩ := o_bh hrun
                refine cf_v (As := [.int (-1 : Int32)]) (rest := []) S hK hA hZ Y hl.1 (mX8_walks l D cI cC h σ (-1 : Int32) q_37.1 q_37.2 e_36) kX8_102 (T := TX8) (N := 11) rfl (q0 := 0) rfl ⟨Nat.le_of_ble_eq_true rfl, Nat.le_of_ble_eq_true rfl⟩ rfl rfl (Nat.le_of_ble_eq_true rfl) ⟨Nat.le_of_ble_eq_true rfl, Nat.le_of_ble_eq_true rfl⟩ dX8_makeOne_209 (fun H locs Y => ?_)
                refine lv_pop hx hb dX8_makeOne_212 rfl ?_
                refine lv_iload hx hb dX8_makeOne_213 (lv_at hl 0 rfl) ?_
                cases hrun
                exact me_ri S hK Y hr hlk rfl dX8_makeOne_215
            · have hrun := o_f hrun c_33
              rcases Decidable.em (((σ 5) (p1).toNatClampNeg) = (104 : Int32)) with c_38 | c_38
              · have hrun := o_t hrun c_38
                refine lv_tableIn (off := 41) (tgt := 68) hx hb dX8_makeOne_27 (by rw [c_38]; decide) (by rw [c_38]; decide) (by rw [c_38]; rfl) (by decide) ?_
                refine lv_aload_n hx hb dX8_makeOne_68 rfl (lv_at hl 3 rfl) ?_
                refine lv_iload_n hx hb dX8_makeOne_69 rfl (lv_at hl 2 rfl) ?_
                refine lv_iload_n hx hb dX8_makeOne_70 rfl (lv_at hl 1 rfl) ?_
                obtain ⟨r_39, e_40, hrun⟩ := o_bh hrun
                refine cf_v (As := [.int ((σ 5) ((p1 + (1 : Int32))).toNatClampNeg), .int ((σ 5) ((p1 + (2 : Int32))).toNatClampNeg)]) (rest := []) S hK hA hZ Y hl.1 (mX8_whyNotHide l D cI cC h σ ((σ 5) ((p1 + (1 : Int32))).toNatClampNeg) ((σ 5) ((p1 + (2 : Int32))).toNatClampNeg) r_39 e_40) kX8_86 (T := TX8) (N := 11) rfl (q0 := 0) rfl ⟨Nat.le_of_ble_eq_true rfl, Nat.le_of_ble_eq_true rfl⟩ rfl rfl (Nat.le_of_ble_eq_true rfl) ⟨Nat.le_of_ble_eq_true rfl, Nat.le_of_ble_eq_true rfl⟩ dX8_makeOne_71 (fun H locs Y => ?_)
                refine lv_istore (lv' := [(4, .int r_39), (3, .int ((σ 5) ((p1 + (2 : Int32))).toNatClampNeg)), (2, .int ((σ 5) ((p1 + (1 : Int32))).toNatClampNeg)), (0, .ref (h 0)), (1, .int p1)]) hx hb dX8_makeOne_74 hl (Nat.le_of_ble_eq_true rfl) rfl (fun ls hl => ?_)
                refine lv_iload hx hb dX8_makeOne_76 (lv_at hl 0 rfl) ?_
                refine lv_if_ne (tgt := 213) hx hb dX8_makeOne_78 (by decide) (fun c_41 => ?_) (fun c_41 => ?_)
                · have hrun := o_f hrun c_41
                  refine lv_iload hx hb dX8_makeOne_213 (lv_at hl 0 rfl) ?_
                  cases hrun
                  exact me_ri S hK Y hr hlk rfl dX8_makeOne_215
                · have hrun := o_t hrun c_41
                  refine lv_aload_n hx hb dX8_makeOne_81 rfl (lv_at hl 3 rfl) ?_
                  refine lv_iload_n hx hb dX8_makeOne_82 rfl (lv_at hl 2 rfl) ?_
                  refine lv_iload_n hx hb dX8_makeOne_83 rfl (lv_at hl 1 rfl) ?_
                  obtain ⟨σ42, e_43, hrun⟩ := o_bh hrun
                  refine cf_vv (As := [.int ((σ 5) ((p1 + (1 : Int32))).toNatClampNeg), .int ((σ 5) ((p1 + (2 : Int32))).toNatClampNeg)]) (rest := []) S hK hA hZ Y hl.1 (mX8_hides l D cI cC h σ ((σ 5) ((p1 + (1 : Int32))).toNatClampNeg) ((σ 5) ((p1 + (2 : Int32))).toNatClampNeg) σ42 e_43) kX8_49 (T := TX8) (N := 11) rfl (q0 := 0) rfl ⟨Nat.le_of_ble_eq_true rfl, Nat.le_of_ble_eq_true rfl⟩ rfl rfl (Nat.le_of_ble_eq_true rfl) ⟨Nat.le_of_ble_eq_true rfl, Nat.le_of_ble_eq_true rfl⟩ dX8_makeOne_84 (fun H locs Y => ?_)
                  refine lv_goto (tgt := 213) hx hb dX8_makeOne_87 (by decide) ?_
                  refine lv_iload hx hb dX8_makeOne_213 (lv_at hl 0 rfl) ?_
                  cases hrun
                  exact me_ri S hK Y hr hlk rfl dX8_makeOne_215
              · have hrun := o_f hrun c_38
                have tc_4 := lv_neT c_4 (show ((98 : Int32)).toInt = 98 by decide)
                have tc_9 := lv_neT c_9 (show ((99 : Int32)).toInt = 99 by decide)
                have tc_16 := lv_neT c_16 (show ((100 : Int32)).toInt = 100 by decide)
                have tc_23 := lv_neT c_23 (show ((101 : Int32)).toInt = 101 by decide)
                have tc_28 := lv_neT c_28 (show ((102 : Int32)).toInt = 102 by decide)
                have tc_33 := lv_neT c_33 (show ((103 : Int32)).toInt = 103 by decide)
                have tc_38 := lv_neT c_38 (show ((104 : Int32)).toInt = 104 by decide)
                refine lv_tableOut (tgt := 167) hx hb dX8_makeOne_27 (by omega) (by decide) ?_
                refine lv_aload_n hx hb dX8_makeOne_167 rfl (lv_at hl 3 rfl) ?_
                refine ig S hK Y fX8_7 0 rfl (v := .ref (h 1)) rfl dX8_makeOne_168 ?_
                refine lv_bipush (v := (6 : Int32)) hx hb dX8_makeOne_171 (by decide) ?_
                refine ia S hK Y 1 0 (f := (σ 1)) rfl rfl (show ¬ ((6 : Int32) < 0 ∨ 108 ≤ ((6 : Int32)).toNatClampNeg) by decide) dX8_makeOne_173 ?_
                refine lv_iconst (v := (2 : Int32)) hx hb dX8_makeOne_174 (by decide) ?_
                refine lv_icmp_ne (tgt := 182) hx hb dX8_makeOne_175 (by decide) (fun c_44 => ?_) (fun c_44 => ?_)
                · have hrun := o_f hrun c_44
                  refine lv_sipush (v := (-10003 : Int32)) hx hb dX8_makeOne_182 (by decide) ?_
                  refine lv_istore (lv' := [(4, .int (-10003 : Int32)), (3, .int ((σ 5) ((p1 + (2 : Int32))).toNatClampNeg)), (2, .int ((σ 5) ((p1 + (1 : Int32))).toNatClampNeg)), (0, .ref (h 0)), (1, .int p1)]) hx hb dX8_makeOne_185 hl (Nat.le_of_ble_eq_true rfl) rfl (fun ls hl => ?_)
                  refine lv_iload hx hb dX8_makeOne_187 (lv_at hl 0 rfl) ?_
                  refine lv_if_ne (tgt := 213) hx hb dX8_makeOne_189 (by decide) (fun _ => ?_) (fun q => absurd q (by decide))
                  refine lv_iload hx hb dX8_makeOne_213 (lv_at hl 0 rfl) ?_
                  cases hrun
                  exact me_ri S hK Y hr hlk rfl dX8_makeOne_215
                · have hrun := o_t hrun c_44
                  refine lv_iconst (v := (0 : Int32)) hx hb dX8_makeOne_178 (by decide) ?_
                  refine lv_goto (tgt := 185) hx hb dX8_makeOne_179 (by decide) ?_
                  refine lv_istore (lv' := [(4, .int (0 : Int32)), (3, .int ((σ 5) ((p1 + (2 : Int32))).toNatClampNeg)), (2, .int ((σ 5) ((p1 + (1 : Int32))).toNatClampNeg)), (0, .ref (h 0)), (1, .int p1)]) hx hb dX8_makeOne_185 hl (Nat.le_of_ble_eq_true rfl) rfl (fun ls hl => ?_)
                  refine lv_iload hx hb dX8_makeOne_187 (lv_at hl 0 rfl) ?_
                  refine lv_if_ne (tgt := 213) hx hb dX8_makeOne_189 (by decide) (fun q => absurd (by decide) q) (fun _ => ?_)
                  refine lv_aload_n hx hb dX8_makeOne_192 rfl (lv_at hl 3 rfl) ?_
                  refine lv_aload_n hx hb dX8_makeOne_193 rfl (lv_at hl 3 rfl) ?_
                  refine ig S hK Y fX8_23 0 rfl (v := .ref (h 5)) rfl dX8_makeOne_194 ?_
                  refine lv_iload_n hx hb dX8_makeOne_197 rfl (lv_at hl 4 rfl) ?_
                  refine ia S hK Y 5 0 (f := (σ 5)) rfl rfl b_3 dX8_makeOne_198 ?_
                  refine lv_bipush (v := (43 : Int32)) hx hb dX8_makeOne_199 (by decide) ?_
                  refine lv_icmp_ne (tgt := 208) hx hb dX8_makeOne_201 (by decide) (fun c_45 => ?_) (fun c_45 => ?_)
                  · have hrun := o_f hrun c_45
                    refine lv_iconst (v := (-1 : Int32)) hx hb dX8_makeOne_208 (by decide) ?_
                    obtain ⟨q_48, e_47, hrun⟩ := o_bh hrun
                    refine cf_v (As := [.int (-1 : Int32)]) (rest := []) S hK hA hZ Y hl.1 (mX8_walks l D cI cC h σ (-1 : Int32) q_48.1 q_48.2 e_47) kX8_102 (T := TX8) (N := 11) rfl (q0 := 0) rfl ⟨Nat.le_of_ble_eq_true rfl, Nat.le_of_ble_eq_true rfl⟩ rfl rfl (Nat.le_of_ble_eq_true rfl) ⟨Nat.le_of_ble_eq_true rfl, Nat.le_of_ble_eq_true rfl⟩ dX8_makeOne_209 (fun H locs Y => ?_)
                    refine lv_pop hx hb dX8_makeOne_212 rfl ?_
                    refine lv_iload hx hb dX8_makeOne_213 (lv_at hl 0 rfl) ?_
                    cases hrun
                    exact me_ri S hK Y hr hlk rfl dX8_makeOne_215
                  · have hrun := o_t hrun c_45
                    refine lv_iconst (v := (1 : Int32)) hx hb dX8_makeOne_204 (by decide) ?_
                    refine lv_goto (tgt := 209) hx hb dX8_makeOne_205 (by decide) ?_
                    obtain ⟨q_51, e_50, hrun⟩ := o_bh hrun
                    refine cf_v (As := [.int (1 : Int32)]) (rest := []) S hK hA hZ Y hl.1 (mX8_walks l D cI cC h σ (1 : Int32) q_51.1 q_51.2 e_50) kX8_102 (T := TX8) (N := 11) rfl (q0 := 0) rfl ⟨Nat.le_of_ble_eq_true rfl, Nat.le_of_ble_eq_true rfl⟩ rfl rfl (Nat.le_of_ble_eq_true rfl) ⟨Nat.le_of_ble_eq_true rfl, Nat.le_of_ble_eq_true rfl⟩ dX8_makeOne_209 (fun H locs Y => ?_)
                    refine lv_pop hx hb dX8_makeOne_212 rfl ?_
                    refine lv_iload hx hb dX8_makeOne_213 (lv_at hl 0 rfl) ?_
                    cases hrun
                    exact me_ri S hK Y hr hlk rfl dX8_makeOne_215
def lX8_play_20 : Nat → Int32 → (sg_T) → Option (Int32 × sg_T)
  | 0, _, _ => none
  | n + 1, a1, σ => (if (σ 0 3) ≤ a1 then (some (a1, (sg_a σ 0 (sg_u (σ 0) 2 (0 : Int32))))) else ((fX8_makeOne ((3 : Int32) * a1) σ).bind fun q_10 => (if q_10.1 = 0 then (lX8_play_20 n (a1 + (1 : Int32)) q_10.2) else (some (a1, (sg_a q_10.2 0 (sg_u (q_10.2 0) 2 (0 : Int32))))))))
def fX8_play (σ : sg_T) : Option (Int32 × sg_T) := ((fX8_errorPosition σ).bind fun q_3 => (if q_3.1 = (-10006 : Int32) then ((fX8_record q_3.2).bind fun σ5 => (lX8_play_20 70 (0 : Int32) σ5)) else (some ((-10005 : Int32), q_3.2))))
set_option maxRecDepth 100000 in
set_option maxHeartbeats 4000000 in
theorem mX8_play (l : Launch) (D : va_G) (cI cC : ClassId) (h : Nat → Nat) (σ : sg_T) (r : Int32) (σ' : sg_T) (hrun : fX8_play σ = some (r, σ')) : me_I l D (tM cI cC) yX8_play cX8_play 2 .int 6 132 (wM cI cC h σ) [.ref (h 0)] r (wM cI cC h σ') := by
  refine me_ofI (plainFor_of_name (by decide)) (Nat.le_of_ble_eq_true rfl) ?_
  intro p e s m args below meth c A ls S hK Y hA hl hr hlk hZ
  have hx := S.1
  have hb := S.2.1
  have hl : lv_has ls 2 [(0, .ref (h 0))] := hl
  have lp20 : ∀ (n : Nat) (a1 : Int32) (σ : sg_T), lX8_play_20 n a1 σ = some (r, σ') → ∀ (H : Heap) (locs : List Loc) (ls : Array Slot), dy_ D A s (wM cI cC h σ) H locs → lv_has ls 2 [(0, .ref (h 0)), (1, .int a1)] → W p l e (rm_ 6 132) s m args below meth c H locs 0 0 (MQ below (me_Qi D (tM cI cC) A r (wM cI cC h σ')) args s 0 0 A) (F0 m 20 ls []) := by
    intro n
    induction n with
    | zero => intro a1 σ hrun; cases hrun
    | succ n ih =>
      intro a1 σ hrun H locs ls Y hl
      unfold lX8_play_20 at hrun
      refine lv_iload_n hx hb dX8_play_20 rfl (lv_at hl 1 rfl) ?_
      refine lv_aload_n hx hb dX8_play_21 rfl (lv_at hl 0 rfl) ?_
      refine ig S hK Y fX8_161 0 rfl (v := .int (σ 0 3)) rfl dX8_play_22 ?_
      refine lv_icmp_ge (tgt := 44) hx hb dX8_play_25 (by decide) (fun c_7 => ?_) (fun c_7 => ?_)
      · have hrun := o_t hrun c_7
        refine lv_aload_n hx hb dX8_play_44 rfl (lv_at hl 0 rfl) ?_
        refine lv_iconst (v := (0 : Int32)) hx hb dX8_play_45 (by decide) ?_
        refine ip S hK Y fX8_145 fpX8 rfl 0 (fs := vM h (σ 0)) rfl rfl rfl (Nat.le_of_ble_eq_true rfl) (ws' := (wM cI cC h (sg_a σ 0 (sg_u (σ 0) 2 (0 : Int32))))) (wM_f2 _ _ _ _) dX8_play_46 (fun H locs Y => ?_)
        refine lv_iload_n hx hb dX8_play_49 rfl (lv_at hl 1 rfl) ?_
        cases hrun
        exact me_ri S hK Y hr hlk rfl dX8_play_50
      · have hrun := o_f hrun c_7
        refine lv_aload_n hx hb dX8_play_28 rfl (lv_at hl 0 rfl) ?_
        refine lv_iconst (v := (3 : Int32)) hx hb dX8_play_29 (by decide) ?_
        refine lv_iload_n hx hb dX8_play_30 rfl (lv_at hl 1 rfl) ?_
        refine lv_imul hx hb dX8_play_31 ?_
        obtain ⟨q_10, e_9, hrun⟩ := o_bh hrun
        refine cf_v (As := [.int ((3 : Int32) * a1)]) (rest := []) S hK hA hZ Y hl.1 (mX8_makeOne l D cI cC h σ ((3 : Int32) * a1) q_10.1 q_10.2 e_9) kX8_170 (T := TX8) (N := 11) rfl (q0 := 0) rfl ⟨Nat.le_of_ble_eq_true rfl, Nat.le_of_ble_eq_true rfl⟩ rfl rfl (Nat.le_of_ble_eq_true rfl) ⟨Nat.le_of_ble_eq_true rfl, Nat.le_of_ble_eq_true rfl⟩ dX8_play_32 (fun H locs Y => ?_)
        refine lv_if_ne (tgt := 44) hx hb dX8_play_35 (by decide) (fun c_11 => ?_) (fun c_11 => ?_)
        · have hrun := o_f hrun c_11
          refine lv_aload_n hx hb dX8_play_44 rfl (lv_at hl 0 rfl) ?_
          refine lv_iconst (v := (0 : Int32)) hx hb dX8_play_45 (by decide) ?_
          refine ip S hK Y fX8_145 fpX8 rfl 0 (fs := vM h (q_10.2 0)) rfl rfl rfl (Nat.le_of_ble_eq_true rfl) (ws' := (wM cI cC h (sg_a q_10.2 0 (sg_u (q_10.2 0) 2 (0 : Int32))))) (wM_f2 _ _ _ _) dX8_play_46 (fun H locs Y => ?_)
          refine lv_iload_n hx hb dX8_play_49 rfl (lv_at hl 1 rfl) ?_
          cases hrun
          exact me_ri S hK Y hr hlk rfl dX8_play_50
        · have hrun := o_t hrun c_11
          refine lv_iinc (v := (a1 + (1 : Int32))) (lv' := [(1, .int (a1 + (1 : Int32))), (0, .ref (h 0))]) hx hb dX8_play_38 hl (k := 1) rfl (by rfl) (Nat.le_of_ble_eq_true rfl) rfl (fun ls hl => ?_)
          refine lv_goto (tgt := 20) hx hb dX8_play_41 (by decide) ?_
          exact ih (a1 + (1 : Int32)) q_10.2 hrun _ _ _ Y (lv_sub hl [1, 0] rfl)
  unfold fX8_play at hrun
  refine lv_aload_n hx hb dX8_play_0 rfl (lv_at hl 0 rfl) ?_
  obtain ⟨q_3, e_2, hrun⟩ := o_bh hrun
  refine cf_v (As := []) (rest := []) S hK hA hZ Y hl.1 (mX8_errorPosition l D cI cC h σ q_3.1 q_3.2 e_2) kX8_167 (T := TX8) (N := 11) rfl (q0 := 0) rfl ⟨Nat.le_of_ble_eq_true rfl, Nat.le_of_ble_eq_true rfl⟩ rfl rfl (Nat.le_of_ble_eq_true rfl) ⟨Nat.le_of_ble_eq_true rfl, Nat.le_of_ble_eq_true rfl⟩ dX8_play_1 (fun H locs Y => ?_)
  refine lv_sipush (v := (-10006 : Int32)) hx hb dX8_play_4 (by decide) ?_
  refine lv_icmp_eq (tgt := 14) hx hb dX8_play_7 (by decide) (fun c_4 => ?_) (fun c_4 => ?_)
  · have hrun := o_t hrun c_4
    refine lv_aload_n hx hb dX8_play_14 rfl (lv_at hl 0 rfl) ?_
    obtain ⟨σ5, e_6, hrun⟩ := o_bh hrun
    refine cf_vv (As := []) (rest := []) S hK hA hZ Y hl.1 (mX8_record l D cI cC h q_3.2 σ5 e_6) kX8_42 (T := TX8) (N := 11) rfl (q0 := 0) rfl ⟨Nat.le_of_ble_eq_true rfl, Nat.le_of_ble_eq_true rfl⟩ rfl rfl (Nat.le_of_ble_eq_true rfl) ⟨Nat.le_of_ble_eq_true rfl, Nat.le_of_ble_eq_true rfl⟩ dX8_play_15 (fun H locs Y => ?_)
    refine lv_iconst (v := (0 : Int32)) hx hb dX8_play_18 (by decide) ?_
    refine lv_istore_n (lv' := [(1, .int (0 : Int32)), (0, .ref (h 0))]) hx hb dX8_play_19 rfl hl (Nat.le_of_ble_eq_true rfl) rfl (fun ls hl => ?_)
    exact lp20 70 (0 : Int32) σ5 hrun _ _ _ Y (lv_sub hl [1, 0] rfl)
  · have hrun := o_f hrun c_4
    refine lv_sipush (v := (-10005 : Int32)) hx hb dX8_play_10 (by decide) ?_
    cases hrun
    exact me_ri S hK Y hr hlk rfl dX8_play_13
