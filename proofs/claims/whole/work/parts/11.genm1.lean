def lX8_cries_95 : Nat → Int32 → Int32 → Int32 → Int32 → (sg_T) → Option (Int32 × sg_T)
  | 0, _, _, _, _, _ => none
  | n + 1, a1, a2, a3, a4, σ => (if ((σ 1) ((4 : Int32)).toNatClampNeg) ≤ a4 then ((fX8_ends σ).bind fun σ10 => (some ((0 : Int32), σ10))) else ((fX8_of a4 (5 : Int32) σ).bind fun r_12 => (if r_12 = (-10006 : Int32) then (lX8_cries_95 n a1 a2 a3 (a4 + (1 : Int32)) σ) else ((fX8_escapes a4 (1 : Int32) σ).bind fun σ15 => (lX8_cries_95 n a1 a2 a3 (a4 + (1 : Int32)) σ15)))))
def fX8_cries (p1 p2 : Int32) (σ : sg_T) : Option (Int32 × sg_T) := ((fX8_of p1 (5 : Int32) σ).bind fun r_1 => (if r_1 = p2 then ((fX8_hides p1 (-10006 : Int32) σ).bind fun σ17 => ((fX8_adds ((σ 1) ((7 : Int32)).toNatClampNeg) (0 : Int32) (2 : Int32) σ17).bind fun σ19 => ((fX8_adds ((σ 1) ((7 : Int32)).toNatClampNeg) (2 : Int32) (1 : Int32) σ19).bind fun σ21 => ((fX8_finds p2 σ21).bind fun σ23 => ((fX8_endsIfEmpty σ23).bind fun σ25 => (some ((1 : Int32), σ25))))))) else ((fX8_adds ((σ 1) ((7 : Int32)).toNatClampNeg) (0 : Int32) (-1 : Int32) σ).bind fun σ4 => ((fX8_adds ((σ 1) ((7 : Int32)).toNatClampNeg) (3 : Int32) (1 : Int32) σ4).bind fun σ6 => (if ((upd (σ6 1) ((10 : Int32)).toNatClampNeg (((σ6 1) ((10 : Int32)).toNatClampNeg) + (1 : Int32))) ((10 : Int32)).toNatClampNeg) < ((upd (σ6 1) ((10 : Int32)).toNatClampNeg (((σ6 1) ((10 : Int32)).toNatClampNeg) + (1 : Int32))) ((3 : Int32)).toNatClampNeg) then (some ((0 : Int32), (sg_a σ6 1 (upd (σ6 1) ((10 : Int32)).toNatClampNeg (((σ6 1) ((10 : Int32)).toNatClampNeg) + (1 : Int32)))))) else (lX8_cries_95 70 p1 p2 ((σ 1) ((7 : Int32)).toNatClampNeg) (0 : Int32) (sg_a σ6 1 (upd (σ6 1) ((10 : Int32)).toNatClampNeg (((σ6 1) ((10 : Int32)).toNatClampNeg) + (1 : Int32))))))))))
set_option maxRecDepth 100000 in
set_option maxHeartbeats 4000000 in
theorem mX8_cries (l : Launch) (D : va_G) (cI cC : ClassId) (h : Nat → Nat) (σ : sg_T) (p1 p2 : Int32) (r : Int32) (σ' : sg_T) (hrun : fX8_cries p1 p2 σ = some (r, σ')) : me_I l D (tM cI cC) yX8_cries cX8_cries 5 .int 4 84 (wM cI cC h σ) [.ref (h 0), .int p1, .int p2] r (wM cI cC h σ') := by
  refine me_ofI (plainFor_of_name (by decide)) (Nat.le_of_ble_eq_true rfl) ?_
  intro p e s m args below meth c A ls S hK Y hA hl hr hlk hZ
  have hx := S.1
  have hb := S.2.1
  have hl : lv_has ls 5 [(0, .ref (h 0)), (1, .int p1), (2, .int p2)] := hl
  have lp95 : ∀ (n : Nat) (a1 : Int32) (a2 : Int32) (a3 : Int32) (a4 : Int32) (σ : sg_T), lX8_cries_95 n a1 a2 a3 a4 σ = some (r, σ') → ∀ (H : Heap) (locs : List Loc) (ls : Array Slot), dy_ D A s (wM cI cC h σ) H locs → lv_has ls 5 [(0, .ref (h 0)), (1, .int a1), (2, .int a2), (3, .int a3), (4, .int a4)] → W p l e (rm_ 4 84) s m args below meth c H locs 0 0 (MQ below (me_Qi D (tM cI cC) A r (wM cI cC h σ')) args s 0 0 A) (F0 m 95 ls []) := by
    intro n
    induction n with
    | zero => intro a1 a2 a3 a4 σ hrun; cases hrun
    | succ n ih =>
      intro a1 a2 a3 a4 σ hrun H locs ls Y hl
      unfold lX8_cries_95 at hrun
      refine lv_iload hx hb dX8_cries_95 (lv_at hl 4 rfl) ?_
      refine lv_aload_n hx hb dX8_cries_97 rfl (lv_at hl 0 rfl) ?_
      refine ig S hK Y fX8_7 0 rfl (v := .ref (h 1)) rfl dX8_cries_98 ?_
      refine lv_iconst (v := (4 : Int32)) hx hb dX8_cries_101 (by decide) ?_
      refine ia S hK Y 1 0 (f := (σ 1)) rfl rfl (show ¬ ((4 : Int32) < 0 ∨ 108 ≤ ((4 : Int32)).toNatClampNeg) by decide) dX8_cries_102 ?_
      refine lv_icmp_ge (tgt := 132) hx hb dX8_cries_103 (by decide) (fun c_9 => ?_) (fun c_9 => ?_)
      · have hrun := o_t hrun c_9
        refine lv_aload_n hx hb dX8_cries_132 rfl (lv_at hl 0 rfl) ?_
        obtain ⟨σ10, e_11, hrun⟩ := o_bh hrun
        refine cf_vv (As := []) (rest := []) S hK hA hZ Y hl.1 (mX8_ends l D cI cC h σ σ10 e_11) kX8_93 (T := TX8) (N := 11) rfl (q0 := 0) rfl ⟨Nat.le_of_ble_eq_true rfl, Nat.le_of_ble_eq_true rfl⟩ rfl rfl (Nat.le_of_ble_eq_true rfl) ⟨Nat.le_of_ble_eq_true rfl, Nat.le_of_ble_eq_true rfl⟩ dX8_cries_133 (fun H locs Y => ?_)
        refine lv_iconst (v := (0 : Int32)) hx hb dX8_cries_136 (by decide) ?_
        cases hrun
        exact me_ri S hK Y hr hlk rfl dX8_cries_137
      · have hrun := o_f hrun c_9
        refine lv_aload_n hx hb dX8_cries_106 rfl (lv_at hl 0 rfl) ?_
        refine lv_iload hx hb dX8_cries_107 (lv_at hl 4 rfl) ?_
        refine lv_iconst (v := (5 : Int32)) hx hb dX8_cries_109 (by decide) ?_
        obtain ⟨r_12, e_13, hrun⟩ := o_bh hrun
        refine cf_v (As := [.int a4, .int (5 : Int32)]) (rest := []) S hK hA hZ Y hl.1 (mX8_of l D cI cC h σ a4 (5 : Int32) r_12 e_13) kX8_53 (T := TX8) (N := 11) rfl (q0 := 0) rfl ⟨Nat.le_of_ble_eq_true rfl, Nat.le_of_ble_eq_true rfl⟩ rfl rfl (Nat.le_of_ble_eq_true rfl) ⟨Nat.le_of_ble_eq_true rfl, Nat.le_of_ble_eq_true rfl⟩ dX8_cries_110 (fun H locs Y => ?_)
        refine lv_sipush (v := (-10006 : Int32)) hx hb dX8_cries_113 (by decide) ?_
        refine lv_icmp_eq (tgt := 126) hx hb dX8_cries_116 (by decide) (fun c_14 => ?_) (fun c_14 => ?_)
        · have hrun := o_t hrun c_14
          refine lv_iinc (v := (a4 + (1 : Int32))) (lv' := [(4, .int (a4 + (1 : Int32))), (0, .ref (h 0)), (1, .int a1), (2, .int a2), (3, .int a3)]) hx hb dX8_cries_126 hl (k := 4) rfl (by rfl) (Nat.le_of_ble_eq_true rfl) rfl (fun ls hl => ?_)
          refine lv_goto (tgt := 95) hx hb dX8_cries_129 (by decide) ?_
          exact ih a1 a2 a3 (a4 + (1 : Int32)) σ hrun _ _ _ Y (lv_sub hl [1, 2, 3, 4, 0] rfl)
        · have hrun := o_f hrun c_14
          refine lv_aload_n hx hb dX8_cries_119 rfl (lv_at hl 0 rfl) ?_
          refine lv_iload hx hb dX8_cries_120 (lv_at hl 4 rfl) ?_
          refine lv_iconst (v := (1 : Int32)) hx hb dX8_cries_122 (by decide) ?_
          obtain ⟨σ15, e_16, hrun⟩ := o_bh hrun
          refine cf_vv (As := [.int a4, .int (1 : Int32)]) (rest := []) S hK hA hZ Y hl.1 (mX8_escapes l D cI cC h σ a4 (1 : Int32) σ15 e_16) kX8_109 (T := TX8) (N := 11) rfl (q0 := 0) rfl ⟨Nat.le_of_ble_eq_true rfl, Nat.le_of_ble_eq_true rfl⟩ rfl rfl (Nat.le_of_ble_eq_true rfl) ⟨Nat.le_of_ble_eq_true rfl, Nat.le_of_ble_eq_true rfl⟩ dX8_cries_123 (fun H locs Y => ?_)
          refine lv_iinc (v := (a4 + (1 : Int32))) (lv' := [(4, .int (a4 + (1 : Int32))), (0, .ref (h 0)), (1, .int a1), (2, .int a2), (3, .int a3)]) hx hb dX8_cries_126 hl (k := 4) rfl (by rfl) (Nat.le_of_ble_eq_true rfl) rfl (fun ls hl => ?_)
          refine lv_goto (tgt := 95) hx hb dX8_cries_129 (by decide) ?_
          exact ih a1 a2 a3 (a4 + (1 : Int32)) σ15 hrun _ _ _ Y (lv_sub hl [1, 2, 3, 4, 0] rfl)
  unfold fX8_cries at hrun
  refine lv_aload_n hx hb dX8_cries_0 rfl (lv_at hl 0 rfl) ?_
  refine ig S hK Y fX8_7 0 rfl (v := .ref (h 1)) rfl dX8_cries_1 ?_
  refine lv_bipush (v := (7 : Int32)) hx hb dX8_cries_4 (by decide) ?_
  refine ia S hK Y 1 0 (f := (σ 1)) rfl rfl (show ¬ ((7 : Int32) < 0 ∨ 108 ≤ ((7 : Int32)).toNatClampNeg) by decide) dX8_cries_6 ?_
  refine lv_istore_n (lv' := [(3, .int ((σ 1) ((7 : Int32)).toNatClampNeg)), (0, .ref (h 0)), (1, .int p1), (2, .int p2)]) hx hb dX8_cries_7 rfl hl (Nat.le_of_ble_eq_true rfl) rfl (fun ls hl => ?_)
  refine lv_aload_n hx hb dX8_cries_8 rfl (lv_at hl 1 rfl) ?_
  refine lv_iload_n hx hb dX8_cries_9 rfl (lv_at hl 2 rfl) ?_
  refine lv_iconst (v := (5 : Int32)) hx hb dX8_cries_10 (by decide) ?_
  obtain ⟨r_1, e_2, hrun⟩ := o_bh hrun
  refine cf_v (As := [.int p1, .int (5 : Int32)]) (rest := []) S hK hA hZ Y hl.1 (mX8_of l D cI cC h σ p1 (5 : Int32) r_1 e_2) kX8_53 (T := TX8) (N := 11) rfl (q0 := 0) rfl ⟨Nat.le_of_ble_eq_true rfl, Nat.le_of_ble_eq_true rfl⟩ rfl rfl (Nat.le_of_ble_eq_true rfl) ⟨Nat.le_of_ble_eq_true rfl, Nat.le_of_ble_eq_true rfl⟩ dX8_cries_11 (fun H locs Y => ?_)
  refine lv_iload_n hx hb dX8_cries_14 rfl (lv_at hl 3 rfl) ?_
  refine lv_icmp_ne (tgt := 51) hx hb dX8_cries_15 (by decide) (fun c_3 => ?_) (fun c_3 => ?_)
  · have hrun := o_f hrun c_3
    refine lv_aload_n hx hb dX8_cries_51 rfl (lv_at hl 1 rfl) ?_
    refine lv_iload_n hx hb dX8_cries_52 rfl (lv_at hl 0 rfl) ?_
    refine lv_iconst (v := (0 : Int32)) hx hb dX8_cries_53 (by decide) ?_
    refine lv_iconst (v := (-1 : Int32)) hx hb dX8_cries_54 (by decide) ?_
    obtain ⟨σ4, e_5, hrun⟩ := o_bh hrun
    refine cf_vv (As := [.int ((σ 1) ((7 : Int32)).toNatClampNeg), .int (0 : Int32), .int (-1 : Int32)]) (rest := []) S hK hA hZ Y hl.1 (mX8_adds l D cI cC h σ ((σ 1) ((7 : Int32)).toNatClampNeg) (0 : Int32) (-1 : Int32) σ4 e_5) kX8_76 (T := TX8) (N := 11) rfl (q0 := 0) rfl ⟨Nat.le_of_ble_eq_true rfl, Nat.le_of_ble_eq_true rfl⟩ rfl rfl (Nat.le_of_ble_eq_true rfl) ⟨Nat.le_of_ble_eq_true rfl, Nat.le_of_ble_eq_true rfl⟩ dX8_cries_55 (fun H locs Y => ?_)
    refine lv_aload_n hx hb dX8_cries_58 rfl (lv_at hl 1 rfl) ?_
    refine lv_iload_n hx hb dX8_cries_59 rfl (lv_at hl 0 rfl) ?_
    refine lv_iconst (v := (3 : Int32)) hx hb dX8_cries_60 (by decide) ?_
    refine lv_iconst (v := (1 : Int32)) hx hb dX8_cries_61 (by decide) ?_
    obtain ⟨σ6, e_7, hrun⟩ := o_bh hrun
    refine cf_vv (As := [.int ((σ 1) ((7 : Int32)).toNatClampNeg), .int (3 : Int32), .int (1 : Int32)]) (rest := []) S hK hA hZ Y hl.1 (mX8_adds l D cI cC h σ4 ((σ 1) ((7 : Int32)).toNatClampNeg) (3 : Int32) (1 : Int32) σ6 e_7) kX8_76 (T := TX8) (N := 11) rfl (q0 := 0) rfl ⟨Nat.le_of_ble_eq_true rfl, Nat.le_of_ble_eq_true rfl⟩ rfl rfl (Nat.le_of_ble_eq_true rfl) ⟨Nat.le_of_ble_eq_true rfl, Nat.le_of_ble_eq_true rfl⟩ dX8_cries_62 (fun H locs Y => ?_)
    refine lv_aload_n hx hb dX8_cries_65 rfl (lv_at hl 1 rfl) ?_
    refine ig S hK Y fX8_7 0 rfl (v := .ref (h 1)) rfl dX8_cries_66 ?_
    refine lv_bipush (v := (10 : Int32)) hx hb dX8_cries_69 (by decide) ?_
    refine lv_dup2_11 hx hb dX8_cries_71 rfl rfl ?_
    refine ia S hK Y 1 0 (f := (σ6 1)) rfl rfl (show ¬ ((10 : Int32) < 0 ∨ 108 ≤ ((10 : Int32)).toNatClampNeg) by decide) dX8_cries_72 ?_
    refine lv_iconst (v := (1 : Int32)) hx hb dX8_cries_73 (by decide) ?_
    refine lv_iadd hx hb dX8_cries_74 ?_
    refine iw S hK Y 1 0 (f := (σ6 1)) rfl rfl (show ¬ ((10 : Int32) < 0 ∨ 108 ≤ ((10 : Int32)).toNatClampNeg) by decide) (ws' := (wM cI cC h (sg_a σ6 1 (upd (σ6 1) ((10 : Int32)).toNatClampNeg (((σ6 1) ((10 : Int32)).toNatClampNeg) + (1 : Int32)))))) (wM_a1 _ _ _) dX8_cries_75 (fun H locs Y => ?_)
    refine lv_aload_n hx hb dX8_cries_76 rfl (lv_at hl 1 rfl) ?_
    refine ig S hK Y fX8_7 0 rfl (v := .ref (h 1)) rfl dX8_cries_77 ?_
    refine lv_bipush (v := (10 : Int32)) hx hb dX8_cries_80 (by decide) ?_
    refine ia S hK Y 1 0 (f := (upd (σ6 1) ((10 : Int32)).toNatClampNeg (((σ6 1) ((10 : Int32)).toNatClampNeg) + (1 : Int32)))) rfl rfl (show ¬ ((10 : Int32) < 0 ∨ 108 ≤ ((10 : Int32)).toNatClampNeg) by decide) dX8_cries_82 ?_
    refine lv_aload_n hx hb dX8_cries_83 rfl (lv_at hl 1 rfl) ?_
    refine ig S hK Y fX8_7 0 rfl (v := .ref (h 1)) rfl dX8_cries_84 ?_
    refine lv_iconst (v := (3 : Int32)) hx hb dX8_cries_87 (by decide) ?_
    refine ia S hK Y 1 0 (f := (upd (σ6 1) ((10 : Int32)).toNatClampNeg (((σ6 1) ((10 : Int32)).toNatClampNeg) + (1 : Int32)))) rfl rfl (show ¬ ((3 : Int32) < 0 ∨ 108 ≤ ((3 : Int32)).toNatClampNeg) by decide) dX8_cries_88 ?_
    refine lv_icmp_lt (tgt := 136) hx hb dX8_cries_89 (by decide) (fun c_8 => ?_) (fun c_8 => ?_)
    · have hrun := o_t hrun c_8
      refine lv_iconst (v := (0 : Int32)) hx hb dX8_cries_136 (by decide) ?_
      cases hrun
      exact me_ri S hK Y hr hlk rfl dX8_cries_137
    · have hrun := o_f hrun c_8
      refine lv_iconst (v := (0 : Int32)) hx hb dX8_cries_92 (by decide) ?_
      refine lv_istore (lv' := [(4, .int (0 : Int32)), (3, .int ((σ 1) ((7 : Int32)).toNatClampNeg)), (0, .ref (h 0)), (1, .int p1), (2, .int p2)]) hx hb dX8_cries_93 hl (Nat.le_of_ble_eq_true rfl) rfl (fun ls hl => ?_)
      exact lp95 70 p1 p2 ((σ 1) ((7 : Int32)).toNatClampNeg) (0 : Int32) (sg_a σ6 1 (upd (σ6 1) ((10 : Int32)).toNatClampNeg (((σ6 1) ((10 : Int32)).toNatClampNeg) + (1 : Int32)))) hrun _ _ _ Y (lv_sub hl [2, 3, 4, 1, 0] rfl)
  · have hrun := o_t hrun c_3
    refine lv_aload_n hx hb dX8_cries_18 rfl (lv_at hl 1 rfl) ?_
    refine lv_iload_n hx hb dX8_cries_19 rfl (lv_at hl 2 rfl) ?_
    refine lv_sipush (v := (-10006 : Int32)) hx hb dX8_cries_20 (by decide) ?_
    obtain ⟨σ17, e_18, hrun⟩ := o_bh hrun
    refine cf_vv (As := [.int p1, .int (-10006 : Int32)]) (rest := []) S hK hA hZ Y hl.1 (mX8_hides l D cI cC h σ p1 (-10006 : Int32) σ17 e_18) kX8_49 (T := TX8) (N := 11) rfl (q0 := 0) rfl ⟨Nat.le_of_ble_eq_true rfl, Nat.le_of_ble_eq_true rfl⟩ rfl rfl (Nat.le_of_ble_eq_true rfl) ⟨Nat.le_of_ble_eq_true rfl, Nat.le_of_ble_eq_true rfl⟩ dX8_cries_23 (fun H locs Y => ?_)
    refine lv_aload_n hx hb dX8_cries_26 rfl (lv_at hl 1 rfl) ?_
    refine lv_iload_n hx hb dX8_cries_27 rfl (lv_at hl 0 rfl) ?_
    refine lv_iconst (v := (0 : Int32)) hx hb dX8_cries_28 (by decide) ?_
    refine lv_iconst (v := (2 : Int32)) hx hb dX8_cries_29 (by decide) ?_
    obtain ⟨σ19, e_20, hrun⟩ := o_bh hrun
    refine cf_vv (As := [.int ((σ 1) ((7 : Int32)).toNatClampNeg), .int (0 : Int32), .int (2 : Int32)]) (rest := []) S hK hA hZ Y hl.1 (mX8_adds l D cI cC h σ17 ((σ 1) ((7 : Int32)).toNatClampNeg) (0 : Int32) (2 : Int32) σ19 e_20) kX8_76 (T := TX8) (N := 11) rfl (q0 := 0) rfl ⟨Nat.le_of_ble_eq_true rfl, Nat.le_of_ble_eq_true rfl⟩ rfl rfl (Nat.le_of_ble_eq_true rfl) ⟨Nat.le_of_ble_eq_true rfl, Nat.le_of_ble_eq_true rfl⟩ dX8_cries_30 (fun H locs Y => ?_)
    refine lv_aload_n hx hb dX8_cries_33 rfl (lv_at hl 1 rfl) ?_
    refine lv_iload_n hx hb dX8_cries_34 rfl (lv_at hl 0 rfl) ?_
    refine lv_iconst (v := (2 : Int32)) hx hb dX8_cries_35 (by decide) ?_
    refine lv_iconst (v := (1 : Int32)) hx hb dX8_cries_36 (by decide) ?_
    obtain ⟨σ21, e_22, hrun⟩ := o_bh hrun
    refine cf_vv (As := [.int ((σ 1) ((7 : Int32)).toNatClampNeg), .int (2 : Int32), .int (1 : Int32)]) (rest := []) S hK hA hZ Y hl.1 (mX8_adds l D cI cC h σ19 ((σ 1) ((7 : Int32)).toNatClampNeg) (2 : Int32) (1 : Int32) σ21 e_22) kX8_76 (T := TX8) (N := 11) rfl (q0 := 0) rfl ⟨Nat.le_of_ble_eq_true rfl, Nat.le_of_ble_eq_true rfl⟩ rfl rfl (Nat.le_of_ble_eq_true rfl) ⟨Nat.le_of_ble_eq_true rfl, Nat.le_of_ble_eq_true rfl⟩ dX8_cries_37 (fun H locs Y => ?_)
    refine lv_aload_n hx hb dX8_cries_40 rfl (lv_at hl 1 rfl) ?_
    refine lv_iload_n hx hb dX8_cries_41 rfl (lv_at hl 3 rfl) ?_
    obtain ⟨σ23, e_24, hrun⟩ := o_bh hrun
    refine cf_vv (As := [.int p2]) (rest := []) S hK hA hZ Y hl.1 (mX8_finds l D cI cC h σ21 p2 σ23 e_24) kX8_105 (T := TX8) (N := 11) rfl (q0 := 0) rfl ⟨Nat.le_of_ble_eq_true rfl, Nat.le_of_ble_eq_true rfl⟩ rfl rfl (Nat.le_of_ble_eq_true rfl) ⟨Nat.le_of_ble_eq_true rfl, Nat.le_of_ble_eq_true rfl⟩ dX8_cries_42 (fun H locs Y => ?_)
    refine lv_aload_n hx hb dX8_cries_45 rfl (lv_at hl 1 rfl) ?_
    obtain ⟨σ25, e_26, hrun⟩ := o_bh hrun
    refine cf_vv (As := []) (rest := []) S hK hA hZ Y hl.1 (mX8_endsIfEmpty l D cI cC h σ23 σ25 e_26) kX8_96 (T := TX8) (N := 11) rfl (q0 := 0) rfl ⟨Nat.le_of_ble_eq_true rfl, Nat.le_of_ble_eq_true rfl⟩ rfl rfl (Nat.le_of_ble_eq_true rfl) ⟨Nat.le_of_ble_eq_true rfl, Nat.le_of_ble_eq_true rfl⟩ dX8_cries_46 (fun H locs Y => ?_)
    refine lv_iconst (v := (1 : Int32)) hx hb dX8_cries_49 (by decide) ?_
    cases hrun
    exact me_ri S hK Y hr hlk rfl dX8_cries_50
def fX8_cry (p1 p2 : Int32) (σ : sg_T) : Option (Int32 × sg_T) := ((fX8_whyNotCry p1 p2 σ).bind fun r_1 => (if 0 ≤ r_1 then ((fX8_record σ).bind fun σ4 => ((fX8_cries p1 p2 σ4).bind fun q_8 => (some (q_8.1, q_8.2)))) else (some (r_1, σ))))
set_option maxRecDepth 100000 in
set_option maxHeartbeats 4000000 in
theorem mX8_cry (l : Launch) (D : va_G) (cI cC : ClassId) (h : Nat → Nat) (σ : sg_T) (p1 p2 : Int32) (r : Int32) (σ' : sg_T) (hrun : fX8_cry p1 p2 σ = some (r, σ')) : me_I l D (tM cI cC) yX8_cry cX8_cry 4 .int 5 108 (wM cI cC h σ) [.ref (h 0), .int p1, .int p2] r (wM cI cC h σ') := by
  refine me_ofI (plainFor_of_name (by decide)) (Nat.le_of_ble_eq_true rfl) ?_
  intro p e s m args below meth c A ls S hK Y hA hl hr hlk hZ
  have hx := S.1
  have hb := S.2.1
  have hl : lv_has ls 4 [(0, .ref (h 0)), (1, .int p1), (2, .int p2)] := hl
  unfold fX8_cry at hrun
  refine lv_aload_n hx hb dX8_cry_0 rfl (lv_at hl 0 rfl) ?_
  refine lv_iload_n hx hb dX8_cry_1 rfl (lv_at hl 1 rfl) ?_
  refine lv_iload_n hx hb dX8_cry_2 rfl (lv_at hl 2 rfl) ?_
  obtain ⟨r_1, e_2, hrun⟩ := o_bh hrun
  refine cf_v (As := [.int p1, .int p2]) (rest := []) S hK hA hZ Y hl.1 (mX8_whyNotCry l D cI cC h σ p1 p2 r_1 e_2) kX8_112 (T := TX8) (N := 11) rfl (q0 := 0) rfl ⟨Nat.le_of_ble_eq_true rfl, Nat.le_of_ble_eq_true rfl⟩ rfl rfl (Nat.le_of_ble_eq_true rfl) ⟨Nat.le_of_ble_eq_true rfl, Nat.le_of_ble_eq_true rfl⟩ dX8_cry_3 (fun H locs Y => ?_)
  refine lv_istore_n (lv' := [(3, .int r_1), (0, .ref (h 0)), (1, .int p1), (2, .int p2)]) hx hb dX8_cry_6 rfl hl (Nat.le_of_ble_eq_true rfl) rfl (fun ls hl => ?_)
  refine lv_iload_n hx hb dX8_cry_7 rfl (lv_at hl 0 rfl) ?_
  refine lv_if_ge (tgt := 13) hx hb dX8_cry_8 (by decide) (fun c_3 => ?_) (fun c_3 => ?_)
  · have hrun := o_t hrun c_3
    refine lv_aload_n hx hb dX8_cry_13 rfl (lv_at hl 1 rfl) ?_
    obtain ⟨σ4, e_5, hrun⟩ := o_bh hrun
    refine cf_vv (As := []) (rest := []) S hK hA hZ Y hl.1 (mX8_record l D cI cC h σ σ4 e_5) kX8_42 (T := TX8) (N := 11) rfl (q0 := 0) rfl ⟨Nat.le_of_ble_eq_true rfl, Nat.le_of_ble_eq_true rfl⟩ rfl rfl (Nat.le_of_ble_eq_true rfl) ⟨Nat.le_of_ble_eq_true rfl, Nat.le_of_ble_eq_true rfl⟩ dX8_cry_14 (fun H locs Y => ?_)
    refine lv_aload_n hx hb dX8_cry_17 rfl (lv_at hl 1 rfl) ?_
    refine lv_iload_n hx hb dX8_cry_18 rfl (lv_at hl 2 rfl) ?_
    refine lv_iload_n hx hb dX8_cry_19 rfl (lv_at hl 3 rfl) ?_
    obtain ⟨q_8, e_7, hrun⟩ := o_bh hrun
    refine cf_v (As := [.int p1, .int p2]) (rest := []) S hK hA hZ Y hl.1 (mX8_cries l D cI cC h σ4 p1 p2 q_8.1 q_8.2 e_7) kX8_115 (T := TX8) (N := 11) rfl (q0 := 0) rfl ⟨Nat.le_of_ble_eq_true rfl, Nat.le_of_ble_eq_true rfl⟩ rfl rfl (Nat.le_of_ble_eq_true rfl) ⟨Nat.le_of_ble_eq_true rfl, Nat.le_of_ble_eq_true rfl⟩ dX8_cry_20 (fun H locs Y => ?_)
    cases hrun
    exact me_ri S hK Y hr hlk rfl dX8_cry_23
  · have hrun := o_f hrun c_3
    refine lv_iload_n hx hb dX8_cry_11 rfl (lv_at hl 0 rfl) ?_
    cases hrun
    exact me_ri S hK Y hr hlk rfl dX8_cry_12
def fX8_whyNotDash (p1 : Int32) (σ : sg_T) : Option (Int32) := ((fX8_isPlayer p1 σ).bind fun r_1 => (if r_1 = 0 then (some (-10001 : Int32)) else (if ((σ 1) ((6 : Int32)).toNatClampNeg) = (2 : Int32) then ((fX8_of p1 (5 : Int32) σ).bind fun r_5 => (if r_5 = (-10006 : Int32) then (some (-10003 : Int32)) else (some (0 : Int32)))) else (some (-10003 : Int32)))))
set_option maxRecDepth 100000 in
set_option maxHeartbeats 4000000 in
theorem mX8_whyNotDash (l : Launch) (D : va_G) (cI cC : ClassId) (h : Nat → Nat) (σ : sg_T) (p1 : Int32) (r : Int32) (hrun : fX8_whyNotDash p1 σ = some r) : me_I l D (tM cI cC) yX8_whyNotDash cX8_whyNotDash 2 .int 2 43 (wM cI cC h σ) [.ref (h 0), .int p1] r (wM cI cC h σ) := by
  refine me_ofI (plainFor_of_name (by decide)) (Nat.le_of_ble_eq_true rfl) ?_
  intro p e s m args below meth c A ls S hK Y hA hl hr hlk hZ
  have hx := S.1
  have hb := S.2.1
  have hl : lv_has ls 2 [(0, .ref (h 0)), (1, .int p1)] := hl
  unfold fX8_whyNotDash at hrun
  refine lv_aload_n hx hb dX8_whyNotDash_0 rfl (lv_at hl 0 rfl) ?_
  refine lv_iload_n hx hb dX8_whyNotDash_1 rfl (lv_at hl 1 rfl) ?_
  obtain ⟨r_1, e_2, hrun⟩ := o_bh hrun
  refine cf_v (As := [.int p1]) (rest := []) S hK hA hZ Y hl.1 (mX8_isPlayer l D cI cC h σ p1 r_1 e_2) kX8_73 (T := TX8) (N := 11) rfl (q0 := 0) rfl ⟨Nat.le_of_ble_eq_true rfl, Nat.le_of_ble_eq_true rfl⟩ rfl rfl (Nat.le_of_ble_eq_true rfl) ⟨Nat.le_of_ble_eq_true rfl, Nat.le_of_ble_eq_true rfl⟩ dX8_whyNotDash_2 (fun H locs Y => ?_)
  refine lv_if_ne (tgt := 12) hx hb dX8_whyNotDash_5 (by decide) (fun c_3 => ?_) (fun c_3 => ?_)
  · have hrun := o_f hrun c_3
    refine lv_aload_n hx hb dX8_whyNotDash_12 rfl (lv_at hl 0 rfl) ?_
    refine ig S hK Y fX8_7 0 rfl (v := .ref (h 1)) rfl dX8_whyNotDash_13 ?_
    refine lv_bipush (v := (6 : Int32)) hx hb dX8_whyNotDash_16 (by decide) ?_
    refine ia S hK Y 1 0 (f := (σ 1)) rfl rfl (show ¬ ((6 : Int32) < 0 ∨ 108 ≤ ((6 : Int32)).toNatClampNeg) by decide) dX8_whyNotDash_18 ?_
    refine lv_iconst (v := (2 : Int32)) hx hb dX8_whyNotDash_19 (by decide) ?_
    refine lv_icmp_ne (tgt := 35) hx hb dX8_whyNotDash_20 (by decide) (fun c_4 => ?_) (fun c_4 => ?_)
    · have hrun := o_f hrun c_4
      refine lv_sipush (v := (-10003 : Int32)) hx hb dX8_whyNotDash_35 (by decide) ?_
      refine lv_goto (tgt := 42) hx hb dX8_whyNotDash_38 (by decide) ?_
      cases hrun
      exact me_ri S hK Y hr hlk rfl dX8_whyNotDash_42
    · have hrun := o_t hrun c_4
      refine lv_aload_n hx hb dX8_whyNotDash_23 rfl (lv_at hl 0 rfl) ?_
      refine lv_iload_n hx hb dX8_whyNotDash_24 rfl (lv_at hl 1 rfl) ?_
      refine lv_iconst (v := (5 : Int32)) hx hb dX8_whyNotDash_25 (by decide) ?_
      obtain ⟨r_5, e_6, hrun⟩ := o_bh hrun
      refine cf_v (As := [.int p1, .int (5 : Int32)]) (rest := []) S hK hA hZ Y hl.1 (mX8_of l D cI cC h σ p1 (5 : Int32) r_5 e_6) kX8_53 (T := TX8) (N := 11) rfl (q0 := 0) rfl ⟨Nat.le_of_ble_eq_true rfl, Nat.le_of_ble_eq_true rfl⟩ rfl rfl (Nat.le_of_ble_eq_true rfl) ⟨Nat.le_of_ble_eq_true rfl, Nat.le_of_ble_eq_true rfl⟩ dX8_whyNotDash_26 (fun H locs Y => ?_)
      refine lv_sipush (v := (-10006 : Int32)) hx hb dX8_whyNotDash_29 (by decide) ?_
      refine lv_icmp_ne (tgt := 41) hx hb dX8_whyNotDash_32 (by decide) (fun c_7 => ?_) (fun c_7 => ?_)
      · have hrun := o_f hrun c_7
        refine lv_iconst (v := (0 : Int32)) hx hb dX8_whyNotDash_41 (by decide) ?_
        cases hrun
        exact me_ri S hK Y hr hlk rfl dX8_whyNotDash_42
      · have hrun := o_t hrun c_7
        refine lv_sipush (v := (-10003 : Int32)) hx hb dX8_whyNotDash_35 (by decide) ?_
        refine lv_goto (tgt := 42) hx hb dX8_whyNotDash_38 (by decide) ?_
        cases hrun
        exact me_ri S hK Y hr hlk rfl dX8_whyNotDash_42
  · have hrun := o_t hrun c_3
    refine lv_sipush (v := (-10001 : Int32)) hx hb dX8_whyNotDash_8 (by decide) ?_
    cases hrun
    exact me_ri S hK Y hr hlk rfl dX8_whyNotDash_11
def fX8_isFaster (p1 : Int32) (σ : sg_T) : Option (Int32) := ((fX8_of p1 (5 : Int32) σ).bind fun r_1 => ((fX8_distance r_1 (0 : Int32)).bind fun r_3 => ((fX8_distance ((σ 1) ((9 : Int32)).toNatClampNeg) (0 : Int32)).bind fun r_5 => (if r_5 ≤ r_3 then (some (0 : Int32)) else (some (1 : Int32))))))
set_option maxRecDepth 100000 in
set_option maxHeartbeats 4000000 in
theorem mX8_isFaster (l : Launch) (D : va_G) (cI cC : ClassId) (h : Nat → Nat) (σ : sg_T) (p1 : Int32) (r : Int32) (hrun : fX8_isFaster p1 σ = some r) : me_I l D (tM cI cC) yX8_isFaster cX8_isFaster 2 .boolean 1 22 (wM cI cC h σ) [.ref (h 0), .int p1] r (wM cI cC h σ) := by
  refine me_ofI (plainFor_of_name (by decide)) (Nat.le_of_ble_eq_true rfl) ?_
  intro p e s m args below meth c A ls S hK Y hA hl hr hlk hZ
  have hx := S.1
  have hb := S.2.1
  have hl : lv_has ls 2 [(0, .ref (h 0)), (1, .int p1)] := hl
  unfold fX8_isFaster at hrun
  refine lv_aload_n hx hb dX8_isFaster_0 rfl (lv_at hl 0 rfl) ?_
  refine lv_iload_n hx hb dX8_isFaster_1 rfl (lv_at hl 1 rfl) ?_
  refine lv_iconst (v := (5 : Int32)) hx hb dX8_isFaster_2 (by decide) ?_
  obtain ⟨r_1, e_2, hrun⟩ := o_bh hrun
  refine cf_v (As := [.int p1, .int (5 : Int32)]) (rest := []) S hK hA hZ Y hl.1 (mX8_of l D cI cC h σ p1 (5 : Int32) r_1 e_2) kX8_53 (T := TX8) (N := 11) rfl (q0 := 0) rfl ⟨Nat.le_of_ble_eq_true rfl, Nat.le_of_ble_eq_true rfl⟩ rfl rfl (Nat.le_of_ble_eq_true rfl) ⟨Nat.le_of_ble_eq_true rfl, Nat.le_of_ble_eq_true rfl⟩ dX8_isFaster_3 (fun H locs Y => ?_)
  refine lv_iconst (v := (0 : Int32)) hx hb dX8_isFaster_6 (by decide) ?_
  obtain ⟨r_3, e_4, hrun⟩ := o_bh hrun
  refine cp_s (As := [.int r_1, .int (0 : Int32)]) (rest := []) S hK hA hZ Y hl.1 (mX8_distance l D r_1 (0 : Int32) r_3 e_4) kX8_56 ⟨Nat.le_of_ble_eq_true rfl, Nat.le_of_ble_eq_true rfl⟩ rfl rfl (Nat.le_of_ble_eq_true rfl) ⟨Nat.le_of_ble_eq_true rfl, Nat.le_of_ble_eq_true rfl⟩ dX8_isFaster_7 (fun H locs Y => ?_)
  refine lv_aload_n hx hb dX8_isFaster_10 rfl (lv_at hl 0 rfl) ?_
  refine ig S hK Y fX8_7 0 rfl (v := .ref (h 1)) rfl dX8_isFaster_11 ?_
  refine lv_bipush (v := (9 : Int32)) hx hb dX8_isFaster_14 (by decide) ?_
  refine ia S hK Y 1 0 (f := (σ 1)) rfl rfl (show ¬ ((9 : Int32) < 0 ∨ 108 ≤ ((9 : Int32)).toNatClampNeg) by decide) dX8_isFaster_16 ?_
  refine lv_iconst (v := (0 : Int32)) hx hb dX8_isFaster_17 (by decide) ?_
  obtain ⟨r_5, e_6, hrun⟩ := o_bh hrun
  refine cp_s (As := [.int ((σ 1) ((9 : Int32)).toNatClampNeg), .int (0 : Int32)]) (rest := [.int r_3]) S hK hA hZ Y hl.1 (mX8_distance l D ((σ 1) ((9 : Int32)).toNatClampNeg) (0 : Int32) r_5 e_6) kX8_56 ⟨Nat.le_of_ble_eq_true rfl, Nat.le_of_ble_eq_true rfl⟩ rfl rfl (Nat.le_of_ble_eq_true rfl) ⟨Nat.le_of_ble_eq_true rfl, Nat.le_of_ble_eq_true rfl⟩ dX8_isFaster_18 (fun H locs Y => ?_)
  refine lv_icmp_ge (tgt := 28) hx hb dX8_isFaster_21 (by decide) (fun c_7 => ?_) (fun c_7 => ?_)
  · have hrun := o_t hrun c_7
    refine lv_iconst (v := (0 : Int32)) hx hb dX8_isFaster_28 (by decide) ?_
    cases hrun
    exact me_ri S hK Y hr hlk rfl dX8_isFaster_29
  · have hrun := o_f hrun c_7
    refine lv_iconst (v := (1 : Int32)) hx hb dX8_isFaster_24 (by decide) ?_
    refine lv_goto (tgt := 29) hx hb dX8_isFaster_25 (by decide) ?_
    cases hrun
    exact me_ri S hK Y hr hlk rfl dX8_isFaster_29
def fX8_dashes (p1 : Int32) (σ : sg_T) : Option (Int32 × sg_T) := ((fX8_isFaster p1 σ).bind fun r_1 => (if r_1 = 0 then ((fX8_hides p1 (-10006 : Int32) σ).bind fun σ4 => ((fX8_adds ((σ4 1) ((7 : Int32)).toNatClampNeg) (0 : Int32) (1 : Int32) σ4).bind fun σ6 => ((fX8_adds ((σ6 1) ((7 : Int32)).toNatClampNeg) (2 : Int32) (1 : Int32) σ6).bind fun σ8 => ((fX8_endsIfEmpty σ8).bind fun σ10 => (some ((0 : Int32), σ10)))))) else ((fX8_escapes p1 (3 : Int32) σ).bind fun σ12 => ((fX8_endsIfEmpty σ12).bind fun σ14 => (some ((1 : Int32), σ14))))))
set_option maxRecDepth 100000 in
set_option maxHeartbeats 4000000 in
theorem mX8_dashes (l : Launch) (D : va_G) (cI cC : ClassId) (h : Nat → Nat) (σ : sg_T) (p1 : Int32) (r : Int32) (σ' : sg_T) (hrun : fX8_dashes p1 σ = some (r, σ')) : me_I l D (tM cI cC) yX8_dashes cX8_dashes 3 .int 4 84 (wM cI cC h σ) [.ref (h 0), .int p1] r (wM cI cC h σ') := by
  refine me_ofI (plainFor_of_name (by decide)) (Nat.le_of_ble_eq_true rfl) ?_
  intro p e s m args below meth c A ls S hK Y hA hl hr hlk hZ
  have hx := S.1
  have hb := S.2.1
  have hl : lv_has ls 3 [(0, .ref (h 0)), (1, .int p1)] := hl
  unfold fX8_dashes at hrun
  refine lv_aload_n hx hb dX8_dashes_0 rfl (lv_at hl 0 rfl) ?_
  refine lv_iload_n hx hb dX8_dashes_1 rfl (lv_at hl 1 rfl) ?_
  obtain ⟨r_1, e_2, hrun⟩ := o_bh hrun
  refine cf_v (As := [.int p1]) (rest := []) S hK hA hZ Y hl.1 (mX8_isFaster l D cI cC h σ p1 r_1 e_2) kX8_118 (T := TX8) (N := 11) rfl (q0 := 0) rfl ⟨Nat.le_of_ble_eq_true rfl, Nat.le_of_ble_eq_true rfl⟩ rfl rfl (Nat.le_of_ble_eq_true rfl) ⟨Nat.le_of_ble_eq_true rfl, Nat.le_of_ble_eq_true rfl⟩ dX8_dashes_2 (fun H locs Y => ?_)
  refine lv_istore_n (lv' := [(2, .int r_1), (0, .ref (h 0)), (1, .int p1)]) hx hb dX8_dashes_5 rfl hl (Nat.le_of_ble_eq_true rfl) rfl (fun ls hl => ?_)
  refine lv_iload_n hx hb dX8_dashes_6 rfl (lv_at hl 0 rfl) ?_
  refine lv_if_eq (tgt := 19) hx hb dX8_dashes_7 (by decide) (fun c_3 => ?_) (fun c_3 => ?_)
  · have hrun := o_t hrun c_3
    refine lv_aload_n hx hb dX8_dashes_19 rfl (lv_at hl 1 rfl) ?_
    refine lv_iload_n hx hb dX8_dashes_20 rfl (lv_at hl 2 rfl) ?_
    refine lv_sipush (v := (-10006 : Int32)) hx hb dX8_dashes_21 (by decide) ?_
    obtain ⟨σ4, e_5, hrun⟩ := o_bh hrun
    refine cf_vv (As := [.int p1, .int (-10006 : Int32)]) (rest := []) S hK hA hZ Y hl.1 (mX8_hides l D cI cC h σ p1 (-10006 : Int32) σ4 e_5) kX8_49 (T := TX8) (N := 11) rfl (q0 := 0) rfl ⟨Nat.le_of_ble_eq_true rfl, Nat.le_of_ble_eq_true rfl⟩ rfl rfl (Nat.le_of_ble_eq_true rfl) ⟨Nat.le_of_ble_eq_true rfl, Nat.le_of_ble_eq_true rfl⟩ dX8_dashes_24 (fun H locs Y => ?_)
    refine lv_aload_n hx hb dX8_dashes_27 rfl (lv_at hl 1 rfl) ?_
    refine lv_aload_n hx hb dX8_dashes_28 rfl (lv_at hl 1 rfl) ?_
    refine ig S hK Y fX8_7 0 rfl (v := .ref (h 1)) rfl dX8_dashes_29 ?_
    refine lv_bipush (v := (7 : Int32)) hx hb dX8_dashes_32 (by decide) ?_
    refine ia S hK Y 1 0 (f := (σ4 1)) rfl rfl (show ¬ ((7 : Int32) < 0 ∨ 108 ≤ ((7 : Int32)).toNatClampNeg) by decide) dX8_dashes_34 ?_
    refine lv_iconst (v := (0 : Int32)) hx hb dX8_dashes_35 (by decide) ?_
    refine lv_iconst (v := (1 : Int32)) hx hb dX8_dashes_36 (by decide) ?_
    obtain ⟨σ6, e_7, hrun⟩ := o_bh hrun
    refine cf_vv (As := [.int ((σ4 1) ((7 : Int32)).toNatClampNeg), .int (0 : Int32), .int (1 : Int32)]) (rest := []) S hK hA hZ Y hl.1 (mX8_adds l D cI cC h σ4 ((σ4 1) ((7 : Int32)).toNatClampNeg) (0 : Int32) (1 : Int32) σ6 e_7) kX8_76 (T := TX8) (N := 11) rfl (q0 := 0) rfl ⟨Nat.le_of_ble_eq_true rfl, Nat.le_of_ble_eq_true rfl⟩ rfl rfl (Nat.le_of_ble_eq_true rfl) ⟨Nat.le_of_ble_eq_true rfl, Nat.le_of_ble_eq_true rfl⟩ dX8_dashes_37 (fun H locs Y => ?_)
    refine lv_aload_n hx hb dX8_dashes_40 rfl (lv_at hl 1 rfl) ?_
    refine lv_aload_n hx hb dX8_dashes_41 rfl (lv_at hl 1 rfl) ?_
    refine ig S hK Y fX8_7 0 rfl (v := .ref (h 1)) rfl dX8_dashes_42 ?_
    refine lv_bipush (v := (7 : Int32)) hx hb dX8_dashes_45 (by decide) ?_
    refine ia S hK Y 1 0 (f := (σ6 1)) rfl rfl (show ¬ ((7 : Int32) < 0 ∨ 108 ≤ ((7 : Int32)).toNatClampNeg) by decide) dX8_dashes_47 ?_
    refine lv_iconst (v := (2 : Int32)) hx hb dX8_dashes_48 (by decide) ?_
    refine lv_iconst (v := (1 : Int32)) hx hb dX8_dashes_49 (by decide) ?_
    obtain ⟨σ8, e_9, hrun⟩ := o_bh hrun
    refine cf_vv (As := [.int ((σ6 1) ((7 : Int32)).toNatClampNeg), .int (2 : Int32), .int (1 : Int32)]) (rest := []) S hK hA hZ Y hl.1 (mX8_adds l D cI cC h σ6 ((σ6 1) ((7 : Int32)).toNatClampNeg) (2 : Int32) (1 : Int32) σ8 e_9) kX8_76 (T := TX8) (N := 11) rfl (q0 := 0) rfl ⟨Nat.le_of_ble_eq_true rfl, Nat.le_of_ble_eq_true rfl⟩ rfl rfl (Nat.le_of_ble_eq_true rfl) ⟨Nat.le_of_ble_eq_true rfl, Nat.le_of_ble_eq_true rfl⟩ dX8_dashes_50 (fun H locs Y => ?_)
    refine lv_aload_n hx hb dX8_dashes_53 rfl (lv_at hl 1 rfl) ?_
    obtain ⟨σ10, e_11, hrun⟩ := o_bh hrun
    refine cf_vv (As := []) (rest := []) S hK hA hZ Y hl.1 (mX8_endsIfEmpty l D cI cC h σ8 σ10 e_11) kX8_96 (T := TX8) (N := 11) rfl (q0 := 0) rfl ⟨Nat.le_of_ble_eq_true rfl, Nat.le_of_ble_eq_true rfl⟩ rfl rfl (Nat.le_of_ble_eq_true rfl) ⟨Nat.le_of_ble_eq_true rfl, Nat.le_of_ble_eq_true rfl⟩ dX8_dashes_54 (fun H locs Y => ?_)
    refine lv_iload_n hx hb dX8_dashes_57 rfl (lv_at hl 0 rfl) ?_
    refine lv_if_eq (tgt := 65) hx hb dX8_dashes_58 (by decide) (fun _ => ?_) (fun q => absurd c_3 q)
    refine lv_iconst (v := (0 : Int32)) hx hb dX8_dashes_65 (by decide) ?_
    cases hrun
    exact me_ri S hK Y hr hlk rfl dX8_dashes_66
  · have hrun := o_f hrun c_3
    refine lv_aload_n hx hb dX8_dashes_10 rfl (lv_at hl 1 rfl) ?_
    refine lv_iload_n hx hb dX8_dashes_11 rfl (lv_at hl 2 rfl) ?_
    refine lv_iconst (v := (3 : Int32)) hx hb dX8_dashes_12 (by decide) ?_
    obtain ⟨σ12, e_13, hrun⟩ := o_bh hrun
    refine cf_vv (As := [.int p1, .int (3 : Int32)]) (rest := []) S hK hA hZ Y hl.1 (mX8_escapes l D cI cC h σ p1 (3 : Int32) σ12 e_13) kX8_109 (T := TX8) (N := 11) rfl (q0 := 0) rfl ⟨Nat.le_of_ble_eq_true rfl, Nat.le_of_ble_eq_true rfl⟩ rfl rfl (Nat.le_of_ble_eq_true rfl) ⟨Nat.le_of_ble_eq_true rfl, Nat.le_of_ble_eq_true rfl⟩ dX8_dashes_13 (fun H locs Y => ?_)
    refine lv_goto (tgt := 53) hx hb dX8_dashes_16 (by decide) ?_
    refine lv_aload_n hx hb dX8_dashes_53 rfl (lv_at hl 1 rfl) ?_
    obtain ⟨σ14, e_15, hrun⟩ := o_bh hrun
    refine cf_vv (As := []) (rest := []) S hK hA hZ Y hl.1 (mX8_endsIfEmpty l D cI cC h σ12 σ14 e_15) kX8_96 (T := TX8) (N := 11) rfl (q0 := 0) rfl ⟨Nat.le_of_ble_eq_true rfl, Nat.le_of_ble_eq_true rfl⟩ rfl rfl (Nat.le_of_ble_eq_true rfl) ⟨Nat.le_of_ble_eq_true rfl, Nat.le_of_ble_eq_true rfl⟩ dX8_dashes_54 (fun H locs Y => ?_)
    refine lv_iload_n hx hb dX8_dashes_57 rfl (lv_at hl 0 rfl) ?_
    refine lv_if_eq (tgt := 65) hx hb dX8_dashes_58 (by decide) (fun q => absurd q c_3) (fun _ => ?_)
    refine lv_iconst (v := (1 : Int32)) hx hb dX8_dashes_61 (by decide) ?_
    refine lv_goto (tgt := 66) hx hb dX8_dashes_62 (by decide) ?_
    cases hrun
    exact me_ri S hK Y hr hlk rfl dX8_dashes_66
def fX8_dash (p1 : Int32) (σ : sg_T) : Option (Int32 × sg_T) := ((fX8_whyNotDash p1 σ).bind fun r_1 => (if 0 ≤ r_1 then ((fX8_record σ).bind fun σ4 => ((fX8_dashes p1 σ4).bind fun q_8 => (some (q_8.1, q_8.2)))) else (some (r_1, σ))))
set_option maxRecDepth 100000 in
set_option maxHeartbeats 4000000 in
theorem mX8_dash (l : Launch) (D : va_G) (cI cC : ClassId) (h : Nat → Nat) (σ : sg_T) (p1 : Int32) (r : Int32) (σ' : sg_T) (hrun : fX8_dash p1 σ = some (r, σ')) : me_I l D (tM cI cC) yX8_dash cX8_dash 3 .int 5 106 (wM cI cC h σ) [.ref (h 0), .int p1] r (wM cI cC h σ') := by
  refine me_ofI (plainFor_of_name (by decide)) (Nat.le_of_ble_eq_true rfl) ?_
  intro p e s m args below meth c A ls S hK Y hA hl hr hlk hZ
  have hx := S.1
  have hb := S.2.1
  have hl : lv_has ls 3 [(0, .ref (h 0)), (1, .int p1)] := hl
  unfold fX8_dash at hrun
  refine lv_aload_n hx hb dX8_dash_0 rfl (lv_at hl 0 rfl) ?_
  refine lv_iload_n hx hb dX8_dash_1 rfl (lv_at hl 1 rfl) ?_
  obtain ⟨r_1, e_2, hrun⟩ := o_bh hrun
  refine cf_v (As := [.int p1]) (rest := []) S hK hA hZ Y hl.1 (mX8_whyNotDash l D cI cC h σ p1 r_1 e_2) kX8_121 (T := TX8) (N := 11) rfl (q0 := 0) rfl ⟨Nat.le_of_ble_eq_true rfl, Nat.le_of_ble_eq_true rfl⟩ rfl rfl (Nat.le_of_ble_eq_true rfl) ⟨Nat.le_of_ble_eq_true rfl, Nat.le_of_ble_eq_true rfl⟩ dX8_dash_2 (fun H locs Y => ?_)
  refine lv_istore_n (lv' := [(2, .int r_1), (0, .ref (h 0)), (1, .int p1)]) hx hb dX8_dash_5 rfl hl (Nat.le_of_ble_eq_true rfl) rfl (fun ls hl => ?_)
  refine lv_iload_n hx hb dX8_dash_6 rfl (lv_at hl 0 rfl) ?_
  refine lv_if_ge (tgt := 12) hx hb dX8_dash_7 (by decide) (fun c_3 => ?_) (fun c_3 => ?_)
  · have hrun := o_t hrun c_3
    refine lv_aload_n hx hb dX8_dash_12 rfl (lv_at hl 1 rfl) ?_
    obtain ⟨σ4, e_5, hrun⟩ := o_bh hrun
    refine cf_vv (As := []) (rest := []) S hK hA hZ Y hl.1 (mX8_record l D cI cC h σ σ4 e_5) kX8_42 (T := TX8) (N := 11) rfl (q0 := 0) rfl ⟨Nat.le_of_ble_eq_true rfl, Nat.le_of_ble_eq_true rfl⟩ rfl rfl (Nat.le_of_ble_eq_true rfl) ⟨Nat.le_of_ble_eq_true rfl, Nat.le_of_ble_eq_true rfl⟩ dX8_dash_13 (fun H locs Y => ?_)
    refine lv_aload_n hx hb dX8_dash_16 rfl (lv_at hl 1 rfl) ?_
    refine lv_iload_n hx hb dX8_dash_17 rfl (lv_at hl 2 rfl) ?_
    obtain ⟨q_8, e_7, hrun⟩ := o_bh hrun
    refine cf_v (As := [.int p1]) (rest := []) S hK hA hZ Y hl.1 (mX8_dashes l D cI cC h σ4 p1 q_8.1 q_8.2 e_7) kX8_124 (T := TX8) (N := 11) rfl (q0 := 0) rfl ⟨Nat.le_of_ble_eq_true rfl, Nat.le_of_ble_eq_true rfl⟩ rfl rfl (Nat.le_of_ble_eq_true rfl) ⟨Nat.le_of_ble_eq_true rfl, Nat.le_of_ble_eq_true rfl⟩ dX8_dash_18 (fun H locs Y => ?_)
    cases hrun
    exact me_ri S hK Y hr hlk rfl dX8_dash_21
  · have hrun := o_f hrun c_3
    refine lv_iload_n hx hb dX8_dash_10 rfl (lv_at hl 0 rfl) ?_
    cases hrun
    exact me_ri S hK Y hr hlk rfl dX8_dash_11
def fX8_isBefore (p1 p2 : Int32) (σ : sg_T) : Option (Int32) := ((fX8_of p1 (0 : Int32) σ).bind fun r_1 => ((fX8_of p2 (0 : Int32) σ).bind fun r_3 => (if r_1 = r_3 then ((fX8_of p1 (3 : Int32) σ).bind fun r_6 => ((fX8_of p2 (3 : Int32) σ).bind fun r_8 => (if r_6 = r_8 then (if p2 ≤ p1 then (some (0 : Int32)) else (some (1 : Int32))) else ((fX8_of p1 (3 : Int32) σ).bind fun r_12 => ((fX8_of p2 (3 : Int32) σ).bind fun r_14 => (if r_14 ≤ r_12 then (some (0 : Int32)) else (some (1 : Int32)))))))) else ((fX8_of p1 (0 : Int32) σ).bind fun r_17 => ((fX8_of p2 (0 : Int32) σ).bind fun r_19 => (if r_17 ≤ r_19 then (some (0 : Int32)) else (some (1 : Int32))))))))
set_option maxRecDepth 100000 in
set_option maxHeartbeats 4000000 in
theorem mX8_isBefore (l : Launch) (D : va_G) (cI cC : ClassId) (h : Nat → Nat) (σ : sg_T) (p1 p2 : Int32) (r : Int32) (hrun : fX8_isBefore p1 p2 σ = some r) : me_I l D (tM cI cC) yX8_isBefore cX8_isBefore 3 .boolean 1 22 (wM cI cC h σ) [.ref (h 0), .int p1, .int p2] r (wM cI cC h σ) := by
  refine me_ofI (plainFor_of_name (by decide)) (Nat.le_of_ble_eq_true rfl) ?_
  intro p e s m args below meth c A ls S hK Y hA hl hr hlk hZ
  have hx := S.1
  have hb := S.2.1
  have hl : lv_has ls 3 [(0, .ref (h 0)), (1, .int p1), (2, .int p2)] := hl
  unfold fX8_isBefore at hrun
  refine lv_aload_n hx hb dX8_isBefore_0 rfl (lv_at hl 0 rfl) ?_
  refine lv_iload_n hx hb dX8_isBefore_1 rfl (lv_at hl 1 rfl) ?_
  refine lv_iconst (v := (0 : Int32)) hx hb dX8_isBefore_2 (by decide) ?_
  obtain ⟨r_1, e_2, hrun⟩ := o_bh hrun
  refine cf_v (As := [.int p1, .int (0 : Int32)]) (rest := []) S hK hA hZ Y hl.1 (mX8_of l D cI cC h σ p1 (0 : Int32) r_1 e_2) kX8_53 (T := TX8) (N := 11) rfl (q0 := 0) rfl ⟨Nat.le_of_ble_eq_true rfl, Nat.le_of_ble_eq_true rfl⟩ rfl rfl (Nat.le_of_ble_eq_true rfl) ⟨Nat.le_of_ble_eq_true rfl, Nat.le_of_ble_eq_true rfl⟩ dX8_isBefore_3 (fun H locs Y => ?_)
  refine lv_aload_n hx hb dX8_isBefore_6 rfl (lv_at hl 0 rfl) ?_
  refine lv_iload_n hx hb dX8_isBefore_7 rfl (lv_at hl 2 rfl) ?_
  refine lv_iconst (v := (0 : Int32)) hx hb dX8_isBefore_8 (by decide) ?_
  obtain ⟨r_3, e_4, hrun⟩ := o_bh hrun
  refine cf_v (As := [.int p2, .int (0 : Int32)]) (rest := [.int r_1]) S hK hA hZ Y hl.1 (mX8_of l D cI cC h σ p2 (0 : Int32) r_3 e_4) kX8_53 (T := TX8) (N := 11) rfl (q0 := 0) rfl ⟨Nat.le_of_ble_eq_true rfl, Nat.le_of_ble_eq_true rfl⟩ rfl rfl (Nat.le_of_ble_eq_true rfl) ⟨Nat.le_of_ble_eq_true rfl, Nat.le_of_ble_eq_true rfl⟩ dX8_isBefore_9 (fun H locs Y => ?_)
  refine lv_icmp_eq (tgt := 36) hx hb dX8_isBefore_12 (by decide) (fun c_5 => ?_) (fun c_5 => ?_)
  · have hrun := o_t hrun c_5
    refine lv_aload_n hx hb dX8_isBefore_36 rfl (lv_at hl 0 rfl) ?_
    refine lv_iload_n hx hb dX8_isBefore_37 rfl (lv_at hl 1 rfl) ?_
    refine lv_iconst (v := (3 : Int32)) hx hb dX8_isBefore_38 (by decide) ?_
    obtain ⟨r_6, e_7, hrun⟩ := o_bh hrun
    refine cf_v (As := [.int p1, .int (3 : Int32)]) (rest := []) S hK hA hZ Y hl.1 (mX8_of l D cI cC h σ p1 (3 : Int32) r_6 e_7) kX8_53 (T := TX8) (N := 11) rfl (q0 := 0) rfl ⟨Nat.le_of_ble_eq_true rfl, Nat.le_of_ble_eq_true rfl⟩ rfl rfl (Nat.le_of_ble_eq_true rfl) ⟨Nat.le_of_ble_eq_true rfl, Nat.le_of_ble_eq_true rfl⟩ dX8_isBefore_39 (fun H locs Y => ?_)
    refine lv_aload_n hx hb dX8_isBefore_42 rfl (lv_at hl 0 rfl) ?_
    refine lv_iload_n hx hb dX8_isBefore_43 rfl (lv_at hl 2 rfl) ?_
    refine lv_iconst (v := (3 : Int32)) hx hb dX8_isBefore_44 (by decide) ?_
    obtain ⟨r_8, e_9, hrun⟩ := o_bh hrun
    refine cf_v (As := [.int p2, .int (3 : Int32)]) (rest := [.int r_6]) S hK hA hZ Y hl.1 (mX8_of l D cI cC h σ p2 (3 : Int32) r_8 e_9) kX8_53 (T := TX8) (N := 11) rfl (q0 := 0) rfl ⟨Nat.le_of_ble_eq_true rfl, Nat.le_of_ble_eq_true rfl⟩ rfl rfl (Nat.le_of_ble_eq_true rfl) ⟨Nat.le_of_ble_eq_true rfl, Nat.le_of_ble_eq_true rfl⟩ dX8_isBefore_45 (fun H locs Y => ?_)
    refine lv_icmp_eq (tgt := 74) hx hb dX8_isBefore_48 (by decide) (fun c_10 => ?_) (fun c_10 => ?_)
    · have hrun := o_t hrun c_10
      refine lv_iload_n hx hb dX8_isBefore_74 rfl (lv_at hl 1 rfl) ?_
      refine lv_iload_n hx hb dX8_isBefore_75 rfl (lv_at hl 2 rfl) ?_
      refine lv_icmp_ge (tgt := 83) hx hb dX8_isBefore_76 (by decide) (fun c_11 => ?_) (fun c_11 => ?_)
      · have hrun := o_t hrun c_11
        refine lv_iconst (v := (0 : Int32)) hx hb dX8_isBefore_83 (by decide) ?_
        cases hrun
        exact me_ri S hK Y hr hlk rfl dX8_isBefore_84
      · have hrun := o_f hrun c_11
        refine lv_iconst (v := (1 : Int32)) hx hb dX8_isBefore_79 (by decide) ?_
        refine lv_goto (tgt := 84) hx hb dX8_isBefore_80 (by decide) ?_
        cases hrun
        exact me_ri S hK Y hr hlk rfl dX8_isBefore_84
    · have hrun := o_f hrun c_10
      refine lv_aload_n hx hb dX8_isBefore_51 rfl (lv_at hl 0 rfl) ?_
      refine lv_iload_n hx hb dX8_isBefore_52 rfl (lv_at hl 1 rfl) ?_
      refine lv_iconst (v := (3 : Int32)) hx hb dX8_isBefore_53 (by decide) ?_
      obtain ⟨r_12, e_13, hrun⟩ := o_bh hrun
      refine cf_v (As := [.int p1, .int (3 : Int32)]) (rest := []) S hK hA hZ Y hl.1 (mX8_of l D cI cC h σ p1 (3 : Int32) r_12 e_13) kX8_53 (T := TX8) (N := 11) rfl (q0 := 0) rfl ⟨Nat.le_of_ble_eq_true rfl, Nat.le_of_ble_eq_true rfl⟩ rfl rfl (Nat.le_of_ble_eq_true rfl) ⟨Nat.le_of_ble_eq_true rfl, Nat.le_of_ble_eq_true rfl⟩ dX8_isBefore_54 (fun H locs Y => ?_)
      refine lv_aload_n hx hb dX8_isBefore_57 rfl (lv_at hl 0 rfl) ?_
      refine lv_iload_n hx hb dX8_isBefore_58 rfl (lv_at hl 2 rfl) ?_
      refine lv_iconst (v := (3 : Int32)) hx hb dX8_isBefore_59 (by decide) ?_
      obtain ⟨r_14, e_15, hrun⟩ := o_bh hrun
      refine cf_v (As := [.int p2, .int (3 : Int32)]) (rest := [.int r_12]) S hK hA hZ Y hl.1 (mX8_of l D cI cC h σ p2 (3 : Int32) r_14 e_15) kX8_53 (T := TX8) (N := 11) rfl (q0 := 0) rfl ⟨Nat.le_of_ble_eq_true rfl, Nat.le_of_ble_eq_true rfl⟩ rfl rfl (Nat.le_of_ble_eq_true rfl) ⟨Nat.le_of_ble_eq_true rfl, Nat.le_of_ble_eq_true rfl⟩ dX8_isBefore_60 (fun H locs Y => ?_)
      refine lv_icmp_ge (tgt := 70) hx hb dX8_isBefore_63 (by decide) (fun c_16 => ?_) (fun c_16 => ?_)
      · have hrun := o_t hrun c_16
        refine lv_iconst (v := (0 : Int32)) hx hb dX8_isBefore_70 (by decide) ?_
        refine lv_goto (tgt := 84) hx hb dX8_isBefore_71 (by decide) ?_
        cases hrun
        exact me_ri S hK Y hr hlk rfl dX8_isBefore_84
      · have hrun := o_f hrun c_16
        refine lv_iconst (v := (1 : Int32)) hx hb dX8_isBefore_66 (by decide) ?_
        refine lv_goto (tgt := 84) hx hb dX8_isBefore_67 (by decide) ?_
        cases hrun
        exact me_ri S hK Y hr hlk rfl dX8_isBefore_84
  · have hrun := o_f hrun c_5
    refine lv_aload_n hx hb dX8_isBefore_15 rfl (lv_at hl 0 rfl) ?_
    refine lv_iload_n hx hb dX8_isBefore_16 rfl (lv_at hl 1 rfl) ?_
    refine lv_iconst (v := (0 : Int32)) hx hb dX8_isBefore_17 (by decide) ?_
    obtain ⟨r_17, e_18, hrun⟩ := o_bh hrun
    refine cf_v (As := [.int p1, .int (0 : Int32)]) (rest := []) S hK hA hZ Y hl.1 (mX8_of l D cI cC h σ p1 (0 : Int32) r_17 e_18) kX8_53 (T := TX8) (N := 11) rfl (q0 := 0) rfl ⟨Nat.le_of_ble_eq_true rfl, Nat.le_of_ble_eq_true rfl⟩ rfl rfl (Nat.le_of_ble_eq_true rfl) ⟨Nat.le_of_ble_eq_true rfl, Nat.le_of_ble_eq_true rfl⟩ dX8_isBefore_18 (fun H locs Y => ?_)
    refine lv_aload_n hx hb dX8_isBefore_21 rfl (lv_at hl 0 rfl) ?_
    refine lv_iload_n hx hb dX8_isBefore_22 rfl (lv_at hl 2 rfl) ?_
    refine lv_iconst (v := (0 : Int32)) hx hb dX8_isBefore_23 (by decide) ?_
    obtain ⟨r_19, e_20, hrun⟩ := o_bh hrun
    refine cf_v (As := [.int p2, .int (0 : Int32)]) (rest := [.int r_17]) S hK hA hZ Y hl.1 (mX8_of l D cI cC h σ p2 (0 : Int32) r_19 e_20) kX8_53 (T := TX8) (N := 11) rfl (q0 := 0) rfl ⟨Nat.le_of_ble_eq_true rfl, Nat.le_of_ble_eq_true rfl⟩ rfl rfl (Nat.le_of_ble_eq_true rfl) ⟨Nat.le_of_ble_eq_true rfl, Nat.le_of_ble_eq_true rfl⟩ dX8_isBefore_24 (fun H locs Y => ?_)
    refine lv_icmp_le (tgt := 34) hx hb dX8_isBefore_27 (by decide) (fun c_21 => ?_) (fun c_21 => ?_)
    · have hrun := o_t hrun c_21
      refine lv_iconst (v := (0 : Int32)) hx hb dX8_isBefore_34 (by decide) ?_
      cases hrun
      exact me_ri S hK Y hr hlk rfl dX8_isBefore_35
    · have hrun := o_f hrun c_21
      refine lv_iconst (v := (1 : Int32)) hx hb dX8_isBefore_30 (by decide) ?_
      refine lv_goto (tgt := 35) hx hb dX8_isBefore_31 (by decide) ?_
      cases hrun
      exact me_ri S hK Y hr hlk rfl dX8_isBefore_35
def lX8_placeOf_4 : Nat → Int32 → Int32 → Int32 → (sg_T) → Option (Int32)
  | 0, _, _, _, _ => none
  | n + 1, a1, a2, a3, σ => (if ((σ 1) ((4 : Int32)).toNatClampNeg) ≤ a3 then (some a2) else (if a3 = a1 then (lX8_placeOf_4 n a1 (a2 + (0 : Int32)) (a3 + (1 : Int32)) σ) else ((fX8_isBefore a3 a1 σ).bind fun r_3 => (if r_3 = 0 then (lX8_placeOf_4 n a1 (a2 + (0 : Int32)) (a3 + (1 : Int32)) σ) else (lX8_placeOf_4 n a1 (a2 + (1 : Int32)) (a3 + (1 : Int32)) σ)))))
def fX8_placeOf (p1 : Int32) (σ : sg_T) : Option (Int32) := (lX8_placeOf_4 70 p1 (0 : Int32) (0 : Int32) σ)
set_option maxRecDepth 100000 in
set_option maxHeartbeats 4000000 in
theorem mX8_placeOf (l : Launch) (D : va_G) (cI cC : ClassId) (h : Nat → Nat) (σ : sg_T) (p1 : Int32) (r : Int32) (hrun : fX8_placeOf p1 σ = some r) : me_I l D (tM cI cC) yX8_placeOf cX8_placeOf 4 .int 2 44 (wM cI cC h σ) [.ref (h 0), .int p1] r (wM cI cC h σ) := by
  refine me_ofI (plainFor_of_name (by decide)) (Nat.le_of_ble_eq_true rfl) ?_
  intro p e s m args below meth c A ls S hK Y hA hl hr hlk hZ
  have hx := S.1
  have hb := S.2.1
  have hl : lv_has ls 4 [(0, .ref (h 0)), (1, .int p1)] := hl
  have lp4 : ∀ (n : Nat) (a1 : Int32) (a2 : Int32) (a3 : Int32), lX8_placeOf_4 n a1 a2 a3 σ = some r → ∀ (H : Heap) (locs : List Loc) (ls : Array Slot), dy_ D A s (wM cI cC h σ) H locs → lv_has ls 4 [(0, .ref (h 0)), (1, .int a1), (2, .int a2), (3, .int a3)] → W p l e (rm_ 2 44) s m args below meth c H locs 0 0 (MQ below (me_Qi D (tM cI cC) A r (wM cI cC h σ)) args s 0 0 A) (F0 m 4 ls []) := by
    intro n
    induction n with
    | zero => intro a1 a2 a3 hrun; cases hrun
    | succ n ih =>
      intro a1 a2 a3 hrun H locs ls Y hl
      unfold lX8_placeOf_4 at hrun
      refine lv_iload_n hx hb dX8_placeOf_4 rfl (lv_at hl 3 rfl) ?_
      refine lv_aload_n hx hb dX8_placeOf_5 rfl (lv_at hl 0 rfl) ?_
      refine ig S hK Y fX8_7 0 rfl (v := .ref (h 1)) rfl dX8_placeOf_6 ?_
      refine lv_iconst (v := (4 : Int32)) hx hb dX8_placeOf_9 (by decide) ?_
      refine ia S hK Y 1 0 (f := (σ 1)) rfl rfl (show ¬ ((4 : Int32) < 0 ∨ 108 ≤ ((4 : Int32)).toNatClampNeg) by decide) dX8_placeOf_10 ?_
      refine lv_icmp_ge (tgt := 42) hx hb dX8_placeOf_11 (by decide) (fun c_1 => ?_) (fun c_1 => ?_)
      · have hrun := o_t hrun c_1
        refine lv_iload_n hx hb dX8_placeOf_42 rfl (lv_at hl 2 rfl) ?_
        cases hrun
        exact me_ri S hK Y hr hlk rfl dX8_placeOf_43
      · have hrun := o_f hrun c_1
        refine lv_iload_n hx hb dX8_placeOf_14 rfl (lv_at hl 2 rfl) ?_
        refine lv_iload_n hx hb dX8_placeOf_15 rfl (lv_at hl 3 rfl) ?_
        refine lv_iload_n hx hb dX8_placeOf_16 rfl (lv_at hl 1 rfl) ?_
        refine lv_icmp_eq (tgt := 33) hx hb dX8_placeOf_17 (by decide) (fun c_2 => ?_) (fun c_2 => ?_)
        · have hrun := o_t hrun c_2
          refine lv_iconst (v := (0 : Int32)) hx hb dX8_placeOf_33 (by decide) ?_
          refine lv_iadd hx hb dX8_placeOf_34 ?_
          refine lv_istore_n (lv' := [(2, .int (a2 + (0 : Int32))), (0, .ref (h 0)), (1, .int a1), (3, .int a3)]) hx hb dX8_placeOf_35 rfl hl (Nat.le_of_ble_eq_true rfl) rfl (fun ls hl => ?_)
          refine lv_iinc (v := (a3 + (1 : Int32))) (lv' := [(3, .int (a3 + (1 : Int32))), (2, .int (a2 + (0 : Int32))), (0, .ref (h 0)), (1, .int a1)]) hx hb dX8_placeOf_36 hl (k := 3) rfl (by rfl) (Nat.le_of_ble_eq_true rfl) rfl (fun ls hl => ?_)
          refine lv_goto (tgt := 4) hx hb dX8_placeOf_39 (by decide) ?_
          exact ih a1 (a2 + (0 : Int32)) (a3 + (1 : Int32)) hrun _ _ _ Y (lv_sub hl [2, 3, 1, 0] rfl)
        · have hrun := o_f hrun c_2
          refine lv_aload_n hx hb dX8_placeOf_20 rfl (lv_at hl 0 rfl) ?_
          refine lv_iload_n hx hb dX8_placeOf_21 rfl (lv_at hl 3 rfl) ?_
          refine lv_iload_n hx hb dX8_placeOf_22 rfl (lv_at hl 1 rfl) ?_
          obtain ⟨r_3, e_4, hrun⟩ := o_bh hrun
          refine cf_v (As := [.int a3, .int a1]) (rest := [.int a2]) S hK hA hZ Y hl.1 (mX8_isBefore l D cI cC h σ a3 a1 r_3 e_4) kX8_127 (T := TX8) (N := 11) rfl (q0 := 0) rfl ⟨Nat.le_of_ble_eq_true rfl, Nat.le_of_ble_eq_true rfl⟩ rfl rfl (Nat.le_of_ble_eq_true rfl) ⟨Nat.le_of_ble_eq_true rfl, Nat.le_of_ble_eq_true rfl⟩ dX8_placeOf_23 (fun H locs Y => ?_)
          refine lv_if_eq (tgt := 33) hx hb dX8_placeOf_26 (by decide) (fun c_5 => ?_) (fun c_5 => ?_)
          · have hrun := o_t hrun c_5
            refine lv_iconst (v := (0 : Int32)) hx hb dX8_placeOf_33 (by decide) ?_
            refine lv_iadd hx hb dX8_placeOf_34 ?_
            refine lv_istore_n (lv' := [(2, .int (a2 + (0 : Int32))), (0, .ref (h 0)), (1, .int a1), (3, .int a3)]) hx hb dX8_placeOf_35 rfl hl (Nat.le_of_ble_eq_true rfl) rfl (fun ls hl => ?_)
            refine lv_iinc (v := (a3 + (1 : Int32))) (lv' := [(3, .int (a3 + (1 : Int32))), (2, .int (a2 + (0 : Int32))), (0, .ref (h 0)), (1, .int a1)]) hx hb dX8_placeOf_36 hl (k := 3) rfl (by rfl) (Nat.le_of_ble_eq_true rfl) rfl (fun ls hl => ?_)
            refine lv_goto (tgt := 4) hx hb dX8_placeOf_39 (by decide) ?_
            exact ih a1 (a2 + (0 : Int32)) (a3 + (1 : Int32)) hrun _ _ _ Y (lv_sub hl [2, 3, 1, 0] rfl)
          · have hrun := o_f hrun c_5
            refine lv_iconst (v := (1 : Int32)) hx hb dX8_placeOf_29 (by decide) ?_
            refine lv_goto (tgt := 34) hx hb dX8_placeOf_30 (by decide) ?_
            refine lv_iadd hx hb dX8_placeOf_34 ?_
            refine lv_istore_n (lv' := [(2, .int (a2 + (1 : Int32))), (0, .ref (h 0)), (1, .int a1), (3, .int a3)]) hx hb dX8_placeOf_35 rfl hl (Nat.le_of_ble_eq_true rfl) rfl (fun ls hl => ?_)
            refine lv_iinc (v := (a3 + (1 : Int32))) (lv' := [(3, .int (a3 + (1 : Int32))), (2, .int (a2 + (1 : Int32))), (0, .ref (h 0)), (1, .int a1)]) hx hb dX8_placeOf_36 hl (k := 3) rfl (by rfl) (Nat.le_of_ble_eq_true rfl) rfl (fun ls hl => ?_)
            refine lv_goto (tgt := 4) hx hb dX8_placeOf_39 (by decide) ?_
            exact ih a1 (a2 + (1 : Int32)) (a3 + (1 : Int32)) hrun _ _ _ Y (lv_sub hl [2, 3, 1, 0] rfl)
  unfold fX8_placeOf at hrun
  refine lv_iconst (v := (0 : Int32)) hx hb dX8_placeOf_0 (by decide) ?_
  refine lv_istore_n (lv' := [(2, .int (0 : Int32)), (0, .ref (h 0)), (1, .int p1)]) hx hb dX8_placeOf_1 rfl hl (Nat.le_of_ble_eq_true rfl) rfl (fun ls hl => ?_)
  refine lv_iconst (v := (0 : Int32)) hx hb dX8_placeOf_2 (by decide) ?_
  refine lv_istore_n (lv' := [(3, .int (0 : Int32)), (2, .int (0 : Int32)), (0, .ref (h 0)), (1, .int p1)]) hx hb dX8_placeOf_3 rfl hl (Nat.le_of_ble_eq_true rfl) rfl (fun ls hl => ?_)
  exact lp4 70 p1 (0 : Int32) (0 : Int32) hrun _ _ _ Y (lv_sub hl [2, 3, 1, 0] rfl)
def fX8_player (p1 p2 : Int32) (σ : sg_T) : Option (Int32) := ((fX8_isPlayer p1 σ).bind fun r_1 => (if r_1 = 0 then (some (-10001 : Int32)) else (if p2 = (5 : Int32) then ((fX8_placeOf p1 σ).bind fun r_13 => (some r_13)) else (if p2 = (6 : Int32) then ((fX8_of p1 (5 : Int32) σ).bind fun r_11 => (some r_11)) else ((fX8_in p2 (0 : Int32) (4 : Int32)).bind fun r_6 => (if r_6 = 0 then (some (-10002 : Int32)) else ((fX8_of p1 p2 σ).bind fun r_9 => (some r_9))))))))
set_option maxRecDepth 100000 in
set_option maxHeartbeats 4000000 in
theorem mX8_player (l : Launch) (D : va_G) (cI cC : ClassId) (h : Nat → Nat) (σ : sg_T) (p1 p2 : Int32) (r : Int32) (hrun : fX8_player p1 p2 σ = some r) : me_I l D (tM cI cC) yX8_player cX8_player 3 .int 3 67 (wM cI cC h σ) [.ref (h 0), .int p1, .int p2] r (wM cI cC h σ) := by
  refine me_ofI (plainFor_of_name (by decide)) (Nat.le_of_ble_eq_true rfl) ?_
  intro p e s m args below meth c A ls S hK Y hA hl hr hlk hZ
  have hx := S.1
  have hb := S.2.1
  have hl : lv_has ls 3 [(0, .ref (h 0)), (1, .int p1), (2, .int p2)] := hl
  unfold fX8_player at hrun
  refine lv_aload_n hx hb dX8_player_0 rfl (lv_at hl 0 rfl) ?_
  refine lv_iload_n hx hb dX8_player_1 rfl (lv_at hl 1 rfl) ?_
  obtain ⟨r_1, e_2, hrun⟩ := o_bh hrun
  refine cf_v (As := [.int p1]) (rest := []) S hK hA hZ Y hl.1 (mX8_isPlayer l D cI cC h σ p1 r_1 e_2) kX8_73 (T := TX8) (N := 11) rfl (q0 := 0) rfl ⟨Nat.le_of_ble_eq_true rfl, Nat.le_of_ble_eq_true rfl⟩ rfl rfl (Nat.le_of_ble_eq_true rfl) ⟨Nat.le_of_ble_eq_true rfl, Nat.le_of_ble_eq_true rfl⟩ dX8_player_2 (fun H locs Y => ?_)
  refine lv_if_ne (tgt := 12) hx hb dX8_player_5 (by decide) (fun c_3 => ?_) (fun c_3 => ?_)
  · have hrun := o_f hrun c_3
    refine lv_iload_n hx hb dX8_player_12 rfl (lv_at hl 2 rfl) ?_
    refine lv_iconst (v := (5 : Int32)) hx hb dX8_player_13 (by decide) ?_
    refine lv_icmp_ne (tgt := 25) hx hb dX8_player_14 (by decide) (fun c_4 => ?_) (fun c_4 => ?_)
    · have hrun := o_f hrun c_4
      refine lv_iload_n hx hb dX8_player_25 rfl (lv_at hl 2 rfl) ?_
      refine lv_bipush (v := (6 : Int32)) hx hb dX8_player_26 (by decide) ?_
      refine lv_icmp_ne (tgt := 40) hx hb dX8_player_28 (by decide) (fun c_5 => ?_) (fun c_5 => ?_)
      · have hrun := o_f hrun c_5
        refine lv_iload_n hx hb dX8_player_40 rfl (lv_at hl 2 rfl) ?_
        refine lv_iconst (v := (0 : Int32)) hx hb dX8_player_41 (by decide) ?_
        refine lv_iconst (v := (4 : Int32)) hx hb dX8_player_42 (by decide) ?_
        obtain ⟨r_6, e_7, hrun⟩ := o_bh hrun
        refine cp_s (As := [.int p2, .int (0 : Int32), .int (4 : Int32)]) (rest := []) S hK hA hZ Y hl.1 (mX8_in l D p2 (0 : Int32) (4 : Int32) r_6 e_7) kX8_26 ⟨Nat.le_of_ble_eq_true rfl, Nat.le_of_ble_eq_true rfl⟩ rfl rfl (Nat.le_of_ble_eq_true rfl) ⟨Nat.le_of_ble_eq_true rfl, Nat.le_of_ble_eq_true rfl⟩ dX8_player_43 (fun H locs Y => ?_)
        refine lv_if_eq (tgt := 58) hx hb dX8_player_46 (by decide) (fun c_8 => ?_) (fun c_8 => ?_)
        · have hrun := o_t hrun c_8
          refine lv_sipush (v := (-10002 : Int32)) hx hb dX8_player_58 (by decide) ?_
          cases hrun
          exact me_ri S hK Y hr hlk rfl dX8_player_61
        · have hrun := o_f hrun c_8
          refine lv_aload_n hx hb dX8_player_49 rfl (lv_at hl 0 rfl) ?_
          refine lv_iload_n hx hb dX8_player_50 rfl (lv_at hl 1 rfl) ?_
          refine lv_iload_n hx hb dX8_player_51 rfl (lv_at hl 2 rfl) ?_
          obtain ⟨r_9, e_10, hrun⟩ := o_bh hrun
          refine cf_v (As := [.int p1, .int p2]) (rest := []) S hK hA hZ Y hl.1 (mX8_of l D cI cC h σ p1 p2 r_9 e_10) kX8_53 (T := TX8) (N := 11) rfl (q0 := 0) rfl ⟨Nat.le_of_ble_eq_true rfl, Nat.le_of_ble_eq_true rfl⟩ rfl rfl (Nat.le_of_ble_eq_true rfl) ⟨Nat.le_of_ble_eq_true rfl, Nat.le_of_ble_eq_true rfl⟩ dX8_player_52 (fun H locs Y => ?_)
          refine lv_goto (tgt := 61) hx hb dX8_player_55 (by decide) ?_
          cases hrun
          exact me_ri S hK Y hr hlk rfl dX8_player_61
      · have hrun := o_t hrun c_5
        refine lv_aload_n hx hb dX8_player_31 rfl (lv_at hl 0 rfl) ?_
        refine lv_iload_n hx hb dX8_player_32 rfl (lv_at hl 1 rfl) ?_
        refine lv_iconst (v := (5 : Int32)) hx hb dX8_player_33 (by decide) ?_
        obtain ⟨r_11, e_12, hrun⟩ := o_bh hrun
        refine cf_v (As := [.int p1, .int (5 : Int32)]) (rest := []) S hK hA hZ Y hl.1 (mX8_of l D cI cC h σ p1 (5 : Int32) r_11 e_12) kX8_53 (T := TX8) (N := 11) rfl (q0 := 0) rfl ⟨Nat.le_of_ble_eq_true rfl, Nat.le_of_ble_eq_true rfl⟩ rfl rfl (Nat.le_of_ble_eq_true rfl) ⟨Nat.le_of_ble_eq_true rfl, Nat.le_of_ble_eq_true rfl⟩ dX8_player_34 (fun H locs Y => ?_)
        refine lv_goto (tgt := 61) hx hb dX8_player_37 (by decide) ?_
        cases hrun
        exact me_ri S hK Y hr hlk rfl dX8_player_61
    · have hrun := o_t hrun c_4
      refine lv_aload_n hx hb dX8_player_17 rfl (lv_at hl 0 rfl) ?_
      refine lv_iload_n hx hb dX8_player_18 rfl (lv_at hl 1 rfl) ?_
      obtain ⟨r_13, e_14, hrun⟩ := o_bh hrun
      refine cf_v (As := [.int p1]) (rest := []) S hK hA hZ Y hl.1 (mX8_placeOf l D cI cC h σ p1 r_13 e_14) kX8_130 (T := TX8) (N := 11) rfl (q0 := 0) rfl ⟨Nat.le_of_ble_eq_true rfl, Nat.le_of_ble_eq_true rfl⟩ rfl rfl (Nat.le_of_ble_eq_true rfl) ⟨Nat.le_of_ble_eq_true rfl, Nat.le_of_ble_eq_true rfl⟩ dX8_player_19 (fun H locs Y => ?_)
      refine lv_goto (tgt := 61) hx hb dX8_player_22 (by decide) ?_
      cases hrun
      exact me_ri S hK Y hr hlk rfl dX8_player_61
  · have hrun := o_t hrun c_3
    refine lv_sipush (v := (-10001 : Int32)) hx hb dX8_player_8 (by decide) ?_
    cases hrun
    exact me_ri S hK Y hr hlk rfl dX8_player_11
def fX8_spot (p1 p2 : Int32) (σ : sg_T) : Option (Int32) := ((fX8_isSpot p1).bind fun r_1 => (if r_1 = 0 then (some (-10001 : Int32)) else (if p2 = (0 : Int32) then ((fX8_distance p1 (0 : Int32)).bind fun r_5 => (some r_5)) else (if p2 = (1 : Int32) then ((fX8_ofSpot p1 (p2 - (1 : Int32)) σ).bind fun r_8 => (some r_8)) else (if p2 = (2 : Int32) then ((fX8_ofSpot p1 (p2 - (1 : Int32)) σ).bind fun r_11 => (some r_11)) else (if p2 = (3 : Int32) then ((fX8_hidersAt p1 σ).bind fun r_14 => (some r_14)) else (some (-10002 : Int32))))))))
set_option maxRecDepth 100000 in
set_option maxHeartbeats 4000000 in
theorem mX8_spot (l : Launch) (D : va_G) (cI cC : ClassId) (h : Nat → Nat) (σ : sg_T) (p1 p2 : Int32) (r : Int32) (hrun : fX8_spot p1 p2 σ = some r) : me_I l D (tM cI cC) yX8_spot cX8_spot 3 .int 2 45 (wM cI cC h σ) [.ref (h 0), .int p1, .int p2] r (wM cI cC h σ) := by
  refine me_ofI (plainFor_of_name (by decide)) (Nat.le_of_ble_eq_true rfl) ?_
  intro p e s m args below meth c A ls S hK Y hA hl hr hlk hZ
  have hx := S.1
  have hb := S.2.1
  have hl : lv_has ls 3 [(0, .ref (h 0)), (1, .int p1), (2, .int p2)] := hl
  unfold fX8_spot at hrun
  refine lv_iload_n hx hb dX8_spot_0 rfl (lv_at hl 1 rfl) ?_
  obtain ⟨r_1, e_2, hrun⟩ := o_bh hrun
  refine cp_s (As := [.int p1]) (rest := []) S hK hA hZ Y hl.1 (mX8_isSpot l D p1 r_1 e_2) kX8_83 ⟨Nat.le_of_ble_eq_true rfl, Nat.le_of_ble_eq_true rfl⟩ rfl rfl (Nat.le_of_ble_eq_true rfl) ⟨Nat.le_of_ble_eq_true rfl, Nat.le_of_ble_eq_true rfl⟩ dX8_spot_1 (fun H locs Y => ?_)
  refine lv_if_ne (tgt := 11) hx hb dX8_spot_4 (by decide) (fun c_3 => ?_) (fun c_3 => ?_)
  · have hrun := o_f hrun c_3
    refine lv_iload_n hx hb dX8_spot_11 rfl (lv_at hl 2 rfl) ?_
    rcases Decidable.em (p2 = (0 : Int32)) with c_4 | c_4
    · have hrun := o_t hrun c_4
      refine lv_tableIn (off := 32) (tgt := 44) hx hb dX8_spot_12 (by rw [c_4]; decide) (by rw [c_4]; decide) (by rw [c_4]; rfl) (by decide) ?_
      refine lv_iload_n hx hb dX8_spot_44 rfl (lv_at hl 1 rfl) ?_
      refine lv_iconst (v := (0 : Int32)) hx hb dX8_spot_45 (by decide) ?_
      obtain ⟨r_5, e_6, hrun⟩ := o_bh hrun
      refine cp_s (As := [.int p1, .int (0 : Int32)]) (rest := []) S hK hA hZ Y hl.1 (mX8_distance l D p1 (0 : Int32) r_5 e_6) kX8_56 ⟨Nat.le_of_ble_eq_true rfl, Nat.le_of_ble_eq_true rfl⟩ rfl rfl (Nat.le_of_ble_eq_true rfl) ⟨Nat.le_of_ble_eq_true rfl, Nat.le_of_ble_eq_true rfl⟩ dX8_spot_46 (fun H locs Y => ?_)
      cases hrun
      exact me_ri S hK Y hr hlk rfl dX8_spot_49
    · have hrun := o_f hrun c_4
      rcases Decidable.em (p2 = (1 : Int32)) with c_7 | c_7
      · have hrun := o_t hrun c_7
        refine lv_tableIn (off := 38) (tgt := 50) hx hb dX8_spot_12 (by rw [c_7]; decide) (by rw [c_7]; decide) (by rw [c_7]; rfl) (by decide) ?_
        refine lv_aload_n hx hb dX8_spot_50 rfl (lv_at hl 0 rfl) ?_
        refine lv_iload_n hx hb dX8_spot_51 rfl (lv_at hl 1 rfl) ?_
        refine lv_iload_n hx hb dX8_spot_52 rfl (lv_at hl 2 rfl) ?_
        refine lv_iconst (v := (1 : Int32)) hx hb dX8_spot_53 (by decide) ?_
        refine lv_isub hx hb dX8_spot_54 ?_
        obtain ⟨r_8, e_9, hrun⟩ := o_bh hrun
        refine cf_v (As := [.int p1, .int (p2 - (1 : Int32))]) (rest := []) S hK hA hZ Y hl.1 (mX8_ofSpot l D cI cC h σ p1 (p2 - (1 : Int32)) r_8 e_9) kX8_30 (T := TX8) (N := 11) rfl (q0 := 0) rfl ⟨Nat.le_of_ble_eq_true rfl, Nat.le_of_ble_eq_true rfl⟩ rfl rfl (Nat.le_of_ble_eq_true rfl) ⟨Nat.le_of_ble_eq_true rfl, Nat.le_of_ble_eq_true rfl⟩ dX8_spot_55 (fun H locs Y => ?_)
        cases hrun
        exact me_ri S hK Y hr hlk rfl dX8_spot_58
      · have hrun := o_f hrun c_7
        rcases Decidable.em (p2 = (2 : Int32)) with c_10 | c_10
        · have hrun := o_t hrun c_10
          refine lv_tableIn (off := 38) (tgt := 50) hx hb dX8_spot_12 (by rw [c_10]; decide) (by rw [c_10]; decide) (by rw [c_10]; rfl) (by decide) ?_
          refine lv_aload_n hx hb dX8_spot_50 rfl (lv_at hl 0 rfl) ?_
          refine lv_iload_n hx hb dX8_spot_51 rfl (lv_at hl 1 rfl) ?_
          refine lv_iload_n hx hb dX8_spot_52 rfl (lv_at hl 2 rfl) ?_
          refine lv_iconst (v := (1 : Int32)) hx hb dX8_spot_53 (by decide) ?_
          refine lv_isub hx hb dX8_spot_54 ?_
          obtain ⟨r_11, e_12, hrun⟩ := o_bh hrun
          refine cf_v (As := [.int p1, .int (p2 - (1 : Int32))]) (rest := []) S hK hA hZ Y hl.1 (mX8_ofSpot l D cI cC h σ p1 (p2 - (1 : Int32)) r_11 e_12) kX8_30 (T := TX8) (N := 11) rfl (q0 := 0) rfl ⟨Nat.le_of_ble_eq_true rfl, Nat.le_of_ble_eq_true rfl⟩ rfl rfl (Nat.le_of_ble_eq_true rfl) ⟨Nat.le_of_ble_eq_true rfl, Nat.le_of_ble_eq_true rfl⟩ dX8_spot_55 (fun H locs Y => ?_)
          cases hrun
          exact me_ri S hK Y hr hlk rfl dX8_spot_58
        · have hrun := o_f hrun c_10
          rcases Decidable.em (p2 = (3 : Int32)) with c_13 | c_13
          · have hrun := o_t hrun c_13
            refine lv_tableIn (off := 47) (tgt := 59) hx hb dX8_spot_12 (by rw [c_13]; decide) (by rw [c_13]; decide) (by rw [c_13]; rfl) (by decide) ?_
            refine lv_aload_n hx hb dX8_spot_59 rfl (lv_at hl 0 rfl) ?_
            refine lv_iload_n hx hb dX8_spot_60 rfl (lv_at hl 1 rfl) ?_
            obtain ⟨r_14, e_15, hrun⟩ := o_bh hrun
            refine cf_v (As := [.int p1]) (rest := []) S hK hA hZ Y hl.1 (mX8_hidersAt l D cI cC h σ p1 r_14 e_15) kX8_66 (T := TX8) (N := 11) rfl (q0 := 0) rfl ⟨Nat.le_of_ble_eq_true rfl, Nat.le_of_ble_eq_true rfl⟩ rfl rfl (Nat.le_of_ble_eq_true rfl) ⟨Nat.le_of_ble_eq_true rfl, Nat.le_of_ble_eq_true rfl⟩ dX8_spot_61 (fun H locs Y => ?_)
            cases hrun
            exact me_ri S hK Y hr hlk rfl dX8_spot_64
          · have hrun := o_f hrun c_13
            have tc_4 := lv_neT c_4 (show ((0 : Int32)).toInt = 0 by decide)
            have tc_7 := lv_neT c_7 (show ((1 : Int32)).toInt = 1 by decide)
            have tc_10 := lv_neT c_10 (show ((2 : Int32)).toInt = 2 by decide)
            have tc_13 := lv_neT c_13 (show ((3 : Int32)).toInt = 3 by decide)
            refine lv_tableOut (tgt := 65) hx hb dX8_spot_12 (by omega) (by decide) ?_
            refine lv_sipush (v := (-10002 : Int32)) hx hb dX8_spot_65 (by decide) ?_
            cases hrun
            exact me_ri S hK Y hr hlk rfl dX8_spot_68
  · have hrun := o_t hrun c_3
    refine lv_sipush (v := (-10001 : Int32)) hx hb dX8_spot_7 (by decide) ?_
    cases hrun
    exact me_ri S hK Y hr hlk rfl dX8_spot_10
def lX8_ranked_6 : Nat → Int32 → Int32 → Int32 → (sg_T) → Option (Int32)
  | 0, _, _, _, _ => none
  | n + 1, a1, a2, a3, σ => (if ((σ 1) ((4 : Int32)).toNatClampNeg) ≤ a3 then (some a2) else ((fX8_placeOf a3 σ).bind fun r_2 => (if r_2 = a1 then (lX8_ranked_6 n a1 a3 (a3 + (1 : Int32)) σ) else (lX8_ranked_6 n a1 a2 (a3 + (1 : Int32)) σ))))
def fX8_ranked (p1 : Int32) (σ : sg_T) : Option (Int32) := (lX8_ranked_6 70 p1 (-10001 : Int32) (0 : Int32) σ)
set_option maxRecDepth 100000 in
set_option maxHeartbeats 4000000 in
theorem mX8_ranked (l : Launch) (D : va_G) (cI cC : ClassId) (h : Nat → Nat) (σ : sg_T) (p1 : Int32) (r : Int32) (hrun : fX8_ranked p1 σ = some r) : me_I l D (tM cI cC) yX8_ranked cX8_ranked 4 .int 3 67 (wM cI cC h σ) [.ref (h 0), .int p1] r (wM cI cC h σ) := by
  refine me_ofI (plainFor_of_name (by decide)) (Nat.le_of_ble_eq_true rfl) ?_
  intro p e s m args below meth c A ls S hK Y hA hl hr hlk hZ
  have hx := S.1
  have hb := S.2.1
  have hl : lv_has ls 4 [(0, .ref (h 0)), (1, .int p1)] := hl
  have lp6 : ∀ (n : Nat) (a1 : Int32) (a2 : Int32) (a3 : Int32), lX8_ranked_6 n a1 a2 a3 σ = some r → ∀ (H : Heap) (locs : List Loc) (ls : Array Slot), dy_ D A s (wM cI cC h σ) H locs → lv_has ls 4 [(0, .ref (h 0)), (1, .int a1), (2, .int a2), (3, .int a3)] → W p l e (rm_ 3 67) s m args below meth c H locs 0 0 (MQ below (me_Qi D (tM cI cC) A r (wM cI cC h σ)) args s 0 0 A) (F0 m 6 ls []) := by
    intro n
    induction n with
    | zero => intro a1 a2 a3 hrun; cases hrun
    | succ n ih =>
      intro a1 a2 a3 hrun H locs ls Y hl
      unfold lX8_ranked_6 at hrun
      refine lv_iload_n hx hb dX8_ranked_6 rfl (lv_at hl 3 rfl) ?_
      refine lv_aload_n hx hb dX8_ranked_7 rfl (lv_at hl 0 rfl) ?_
      refine ig S hK Y fX8_7 0 rfl (v := .ref (h 1)) rfl dX8_ranked_8 ?_
      refine lv_iconst (v := (4 : Int32)) hx hb dX8_ranked_11 (by decide) ?_
      refine ia S hK Y 1 0 (f := (σ 1)) rfl rfl (show ¬ ((4 : Int32) < 0 ∨ 108 ≤ ((4 : Int32)).toNatClampNeg) by decide) dX8_ranked_12 ?_
      refine lv_icmp_ge (tgt := 37) hx hb dX8_ranked_13 (by decide) (fun c_1 => ?_) (fun c_1 => ?_)
      · have hrun := o_t hrun c_1
        refine lv_iload_n hx hb dX8_ranked_37 rfl (lv_at hl 2 rfl) ?_
        cases hrun
        exact me_ri S hK Y hr hlk rfl dX8_ranked_38
      · have hrun := o_f hrun c_1
        refine lv_aload_n hx hb dX8_ranked_16 rfl (lv_at hl 0 rfl) ?_
        refine lv_iload_n hx hb dX8_ranked_17 rfl (lv_at hl 3 rfl) ?_
        obtain ⟨r_2, e_3, hrun⟩ := o_bh hrun
        refine cf_v (As := [.int a3]) (rest := []) S hK hA hZ Y hl.1 (mX8_placeOf l D cI cC h σ a3 r_2 e_3) kX8_130 (T := TX8) (N := 11) rfl (q0 := 0) rfl ⟨Nat.le_of_ble_eq_true rfl, Nat.le_of_ble_eq_true rfl⟩ rfl rfl (Nat.le_of_ble_eq_true rfl) ⟨Nat.le_of_ble_eq_true rfl, Nat.le_of_ble_eq_true rfl⟩ dX8_ranked_18 (fun H locs Y => ?_)
        refine lv_iload_n hx hb dX8_ranked_21 rfl (lv_at hl 1 rfl) ?_
        refine lv_icmp_ne (tgt := 29) hx hb dX8_ranked_22 (by decide) (fun c_4 => ?_) (fun c_4 => ?_)
        · have hrun := o_f hrun c_4
          refine lv_iload_n hx hb dX8_ranked_29 rfl (lv_at hl 2 rfl) ?_
          refine lv_istore_n (lv' := [(2, .int a2), (0, .ref (h 0)), (1, .int a1), (3, .int a3)]) hx hb dX8_ranked_30 rfl hl (Nat.le_of_ble_eq_true rfl) rfl (fun ls hl => ?_)
          refine lv_iinc (v := (a3 + (1 : Int32))) (lv' := [(3, .int (a3 + (1 : Int32))), (2, .int a2), (0, .ref (h 0)), (1, .int a1)]) hx hb dX8_ranked_31 hl (k := 3) rfl (by rfl) (Nat.le_of_ble_eq_true rfl) rfl (fun ls hl => ?_)
          refine lv_goto (tgt := 6) hx hb dX8_ranked_34 (by decide) ?_
          exact ih a1 a2 (a3 + (1 : Int32)) hrun _ _ _ Y (lv_sub hl [2, 3, 1, 0] rfl)
        · have hrun := o_t hrun c_4
          refine lv_iload_n hx hb dX8_ranked_25 rfl (lv_at hl 3 rfl) ?_
          refine lv_goto (tgt := 30) hx hb dX8_ranked_26 (by decide) ?_
          refine lv_istore_n (lv' := [(2, .int a3), (0, .ref (h 0)), (1, .int a1), (3, .int a3)]) hx hb dX8_ranked_30 rfl hl (Nat.le_of_ble_eq_true rfl) rfl (fun ls hl => ?_)
          refine lv_iinc (v := (a3 + (1 : Int32))) (lv' := [(3, .int (a3 + (1 : Int32))), (2, .int a3), (0, .ref (h 0)), (1, .int a1)]) hx hb dX8_ranked_31 hl (k := 3) rfl (by rfl) (Nat.le_of_ble_eq_true rfl) rfl (fun ls hl => ?_)
          refine lv_goto (tgt := 6) hx hb dX8_ranked_34 (by decide) ?_
          exact ih a1 a3 (a3 + (1 : Int32)) hrun _ _ _ Y (lv_sub hl [2, 3, 1, 0] rfl)
  unfold fX8_ranked at hrun
  refine lv_sipush (v := (-10001 : Int32)) hx hb dX8_ranked_0 (by decide) ?_
  refine lv_istore_n (lv' := [(2, .int (-10001 : Int32)), (0, .ref (h 0)), (1, .int p1)]) hx hb dX8_ranked_3 rfl hl (Nat.le_of_ble_eq_true rfl) rfl (fun ls hl => ?_)
  refine lv_iconst (v := (0 : Int32)) hx hb dX8_ranked_4 (by decide) ?_
  refine lv_istore_n (lv' := [(3, .int (0 : Int32)), (2, .int (-10001 : Int32)), (0, .ref (h 0)), (1, .int p1)]) hx hb dX8_ranked_5 rfl hl (Nat.le_of_ble_eq_true rfl) rfl (fun ls hl => ?_)
  exact lp6 70 p1 (-10001 : Int32) (0 : Int32) hrun _ _ _ Y (lv_sub hl [2, 3, 1, 0] rfl)
def lX8_nextSeeker_6 : Nat → Int32 → Int32 → (sg_T) → Option (Int32)
  | 0, _, _, _ => none
  | n + 1, a1, a2, σ => (if ((σ 1) ((4 : Int32)).toNatClampNeg) ≤ a2 then (some a1) else (if a1 = (-10006 : Int32) then (lX8_nextSeeker_6 n a2 (a2 + (1 : Int32)) σ) else ((fX8_of a2 (1 : Int32) σ).bind fun r_3 => ((fX8_of a1 (1 : Int32) σ).bind fun r_5 => (if r_3 < r_5 then (lX8_nextSeeker_6 n a2 (a2 + (1 : Int32)) σ) else ((fX8_of a2 (1 : Int32) σ).bind fun r_8 => ((fX8_of a1 (1 : Int32) σ).bind fun r_10 => (if r_8 = r_10 then ((fX8_isBefore a1 a2 σ).bind fun r_13 => (if r_13 = 0 then (lX8_nextSeeker_6 n a1 (a2 + (1 : Int32)) σ) else (lX8_nextSeeker_6 n a2 (a2 + (1 : Int32)) σ))) else (lX8_nextSeeker_6 n a1 (a2 + (1 : Int32)) σ)))))))))
def fX8_nextSeeker (σ : sg_T) : Option (Int32) := (lX8_nextSeeker_6 70 (-10006 : Int32) (0 : Int32) σ)
set_option maxRecDepth 100000 in
set_option maxHeartbeats 4000000 in
theorem mX8_nextSeeker (l : Launch) (D : va_G) (cI cC : ClassId) (h : Nat → Nat) (σ : sg_T) (r : Int32) (hrun : fX8_nextSeeker σ = some r) : me_I l D (tM cI cC) yX8_nextSeeker cX8_nextSeeker 4 .int 2 44 (wM cI cC h σ) [.ref (h 0)] r (wM cI cC h σ) := by
  refine me_ofI (plainFor_of_name (by decide)) (Nat.le_of_ble_eq_true rfl) ?_
  intro p e s m args below meth c A ls S hK Y hA hl hr hlk hZ
  have hx := S.1
  have hb := S.2.1
  have hl : lv_has ls 4 [(0, .ref (h 0))] := hl
  have lp6 : ∀ (n : Nat) (a1 : Int32) (a2 : Int32), lX8_nextSeeker_6 n a1 a2 σ = some r → ∀ (H : Heap) (locs : List Loc) (ls : Array Slot), dy_ D A s (wM cI cC h σ) H locs → lv_has ls 4 [(0, .ref (h 0)), (1, .int a1), (2, .int a2)] → W p l e (rm_ 2 44) s m args below meth c H locs 0 0 (MQ below (me_Qi D (tM cI cC) A r (wM cI cC h σ)) args s 0 0 A) (F0 m 6 ls []) := by
    intro n
    induction n with
    | zero => intro a1 a2 hrun; cases hrun
    | succ n ih =>
      intro a1 a2 hrun H locs ls Y hl
      unfold lX8_nextSeeker_6 at hrun
      refine lv_iload_n hx hb dX8_nextSeeker_6 rfl (lv_at hl 2 rfl) ?_
      refine lv_aload_n hx hb dX8_nextSeeker_7 rfl (lv_at hl 0 rfl) ?_
      refine ig S hK Y fX8_7 0 rfl (v := .ref (h 1)) rfl dX8_nextSeeker_8 ?_
      refine lv_iconst (v := (4 : Int32)) hx hb dX8_nextSeeker_11 (by decide) ?_
      refine ia S hK Y 1 0 (f := (σ 1)) rfl rfl (show ¬ ((4 : Int32) < 0 ∨ 108 ≤ ((4 : Int32)).toNatClampNeg) by decide) dX8_nextSeeker_12 ?_
      refine lv_icmp_ge (tgt := 84) hx hb dX8_nextSeeker_13 (by decide) (fun c_1 => ?_) (fun c_1 => ?_)
      · have hrun := o_t hrun c_1
        refine lv_iload_n hx hb dX8_nextSeeker_84 rfl (lv_at hl 1 rfl) ?_
        cases hrun
        exact me_ri S hK Y hr hlk rfl dX8_nextSeeker_85
      · have hrun := o_f hrun c_1
        refine lv_iload_n hx hb dX8_nextSeeker_16 rfl (lv_at hl 1 rfl) ?_
        refine lv_sipush (v := (-10006 : Int32)) hx hb dX8_nextSeeker_17 (by decide) ?_
        refine lv_icmp_eq (tgt := 62) hx hb dX8_nextSeeker_20 (by decide) (fun c_2 => ?_) (fun c_2 => ?_)
        · have hrun := o_t hrun c_2
          refine lv_iconst (v := (1 : Int32)) hx hb dX8_nextSeeker_62 (by decide) ?_
          refine lv_goto (tgt := 67) hx hb dX8_nextSeeker_63 (by decide) ?_
          refine lv_istore_n (lv' := [(3, .int (1 : Int32)), (0, .ref (h 0)), (1, .int a1), (2, .int a2)]) hx hb dX8_nextSeeker_67 rfl hl (Nat.le_of_ble_eq_true rfl) rfl (fun ls hl => ?_)
          refine lv_iload_n hx hb dX8_nextSeeker_68 rfl (lv_at hl 0 rfl) ?_
          refine lv_if_eq (tgt := 76) hx hb dX8_nextSeeker_69 (by decide) (fun q => absurd q (by decide)) (fun _ => ?_)
          refine lv_iload_n hx hb dX8_nextSeeker_72 rfl (lv_at hl 3 rfl) ?_
          refine lv_goto (tgt := 77) hx hb dX8_nextSeeker_73 (by decide) ?_
          refine lv_istore_n (lv' := [(1, .int a2), (3, .int (1 : Int32)), (0, .ref (h 0)), (2, .int a2)]) hx hb dX8_nextSeeker_77 rfl hl (Nat.le_of_ble_eq_true rfl) rfl (fun ls hl => ?_)
          refine lv_iinc (v := (a2 + (1 : Int32))) (lv' := [(2, .int (a2 + (1 : Int32))), (1, .int a2), (3, .int (1 : Int32)), (0, .ref (h 0))]) hx hb dX8_nextSeeker_78 hl (k := 3) rfl (by rfl) (Nat.le_of_ble_eq_true rfl) rfl (fun ls hl => ?_)
          refine lv_goto (tgt := 6) hx hb dX8_nextSeeker_81 (by decide) ?_
          exact ih a2 (a2 + (1 : Int32)) hrun _ _ _ Y (lv_sub hl [3, 1, 0] rfl)
        · have hrun := o_f hrun c_2
          refine lv_aload_n hx hb dX8_nextSeeker_23 rfl (lv_at hl 0 rfl) ?_
          refine lv_iload_n hx hb dX8_nextSeeker_24 rfl (lv_at hl 2 rfl) ?_
          refine lv_iconst (v := (1 : Int32)) hx hb dX8_nextSeeker_25 (by decide) ?_
          obtain ⟨r_3, e_4, hrun⟩ := o_bh hrun
          refine cf_v (As := [.int a2, .int (1 : Int32)]) (rest := []) S hK hA hZ Y hl.1 (mX8_of l D cI cC h σ a2 (1 : Int32) r_3 e_4) kX8_53 (T := TX8) (N := 11) rfl (q0 := 0) rfl ⟨Nat.le_of_ble_eq_true rfl, Nat.le_of_ble_eq_true rfl⟩ rfl rfl (Nat.le_of_ble_eq_true rfl) ⟨Nat.le_of_ble_eq_true rfl, Nat.le_of_ble_eq_true rfl⟩ dX8_nextSeeker_26 (fun H locs Y => ?_)
          refine lv_aload_n hx hb dX8_nextSeeker_29 rfl (lv_at hl 0 rfl) ?_
          refine lv_iload_n hx hb dX8_nextSeeker_30 rfl (lv_at hl 1 rfl) ?_
          refine lv_iconst (v := (1 : Int32)) hx hb dX8_nextSeeker_31 (by decide) ?_
          obtain ⟨r_5, e_6, hrun⟩ := o_bh hrun
          refine cf_v (As := [.int a1, .int (1 : Int32)]) (rest := [.int r_3]) S hK hA hZ Y hl.1 (mX8_of l D cI cC h σ a1 (1 : Int32) r_5 e_6) kX8_53 (T := TX8) (N := 11) rfl (q0 := 0) rfl ⟨Nat.le_of_ble_eq_true rfl, Nat.le_of_ble_eq_true rfl⟩ rfl rfl (Nat.le_of_ble_eq_true rfl) ⟨Nat.le_of_ble_eq_true rfl, Nat.le_of_ble_eq_true rfl⟩ dX8_nextSeeker_32 (fun H locs Y => ?_)
          refine lv_icmp_lt (tgt := 62) hx hb dX8_nextSeeker_35 (by decide) (fun c_7 => ?_) (fun c_7 => ?_)
          · have hrun := o_t hrun c_7
            refine lv_iconst (v := (1 : Int32)) hx hb dX8_nextSeeker_62 (by decide) ?_
            refine lv_goto (tgt := 67) hx hb dX8_nextSeeker_63 (by decide) ?_
            refine lv_istore_n (lv' := [(3, .int (1 : Int32)), (0, .ref (h 0)), (1, .int a1), (2, .int a2)]) hx hb dX8_nextSeeker_67 rfl hl (Nat.le_of_ble_eq_true rfl) rfl (fun ls hl => ?_)
            refine lv_iload_n hx hb dX8_nextSeeker_68 rfl (lv_at hl 0 rfl) ?_
            refine lv_if_eq (tgt := 76) hx hb dX8_nextSeeker_69 (by decide) (fun q => absurd q (by decide)) (fun _ => ?_)
            refine lv_iload_n hx hb dX8_nextSeeker_72 rfl (lv_at hl 3 rfl) ?_
            refine lv_goto (tgt := 77) hx hb dX8_nextSeeker_73 (by decide) ?_
            refine lv_istore_n (lv' := [(1, .int a2), (3, .int (1 : Int32)), (0, .ref (h 0)), (2, .int a2)]) hx hb dX8_nextSeeker_77 rfl hl (Nat.le_of_ble_eq_true rfl) rfl (fun ls hl => ?_)
            refine lv_iinc (v := (a2 + (1 : Int32))) (lv' := [(2, .int (a2 + (1 : Int32))), (1, .int a2), (3, .int (1 : Int32)), (0, .ref (h 0))]) hx hb dX8_nextSeeker_78 hl (k := 3) rfl (by rfl) (Nat.le_of_ble_eq_true rfl) rfl (fun ls hl => ?_)
            refine lv_goto (tgt := 6) hx hb dX8_nextSeeker_81 (by decide) ?_
            exact ih a2 (a2 + (1 : Int32)) hrun _ _ _ Y (lv_sub hl [3, 1, 0] rfl)
          · have hrun := o_f hrun c_7
            refine lv_aload_n hx hb dX8_nextSeeker_38 rfl (lv_at hl 0 rfl) ?_
            refine lv_iload_n hx hb dX8_nextSeeker_39 rfl (lv_at hl 2 rfl) ?_
            refine lv_iconst (v := (1 : Int32)) hx hb dX8_nextSeeker_40 (by decide) ?_
            obtain ⟨r_8, e_9, hrun⟩ := o_bh hrun
            refine cf_v (As := [.int a2, .int (1 : Int32)]) (rest := []) S hK hA hZ Y hl.1 (mX8_of l D cI cC h σ a2 (1 : Int32) r_8 e_9) kX8_53 (T := TX8) (N := 11) rfl (q0 := 0) rfl ⟨Nat.le_of_ble_eq_true rfl, Nat.le_of_ble_eq_true rfl⟩ rfl rfl (Nat.le_of_ble_eq_true rfl) ⟨Nat.le_of_ble_eq_true rfl, Nat.le_of_ble_eq_true rfl⟩ dX8_nextSeeker_41 (fun H locs Y => ?_)
            refine lv_aload_n hx hb dX8_nextSeeker_44 rfl (lv_at hl 0 rfl) ?_
            refine lv_iload_n hx hb dX8_nextSeeker_45 rfl (lv_at hl 1 rfl) ?_
            refine lv_iconst (v := (1 : Int32)) hx hb dX8_nextSeeker_46 (by decide) ?_
            obtain ⟨r_10, e_11, hrun⟩ := o_bh hrun
            refine cf_v (As := [.int a1, .int (1 : Int32)]) (rest := [.int r_8]) S hK hA hZ Y hl.1 (mX8_of l D cI cC h σ a1 (1 : Int32) r_10 e_11) kX8_53 (T := TX8) (N := 11) rfl (q0 := 0) rfl ⟨Nat.le_of_ble_eq_true rfl, Nat.le_of_ble_eq_true rfl⟩ rfl rfl (Nat.le_of_ble_eq_true rfl) ⟨Nat.le_of_ble_eq_true rfl, Nat.le_of_ble_eq_true rfl⟩ dX8_nextSeeker_47 (fun H locs Y => ?_)
            refine lv_icmp_ne (tgt := 66) hx hb dX8_nextSeeker_50 (by decide) (fun c_12 => ?_) (fun c_12 => ?_)
            · have hrun := o_f hrun c_12
              refine lv_iconst (v := (0 : Int32)) hx hb dX8_nextSeeker_66 (by decide) ?_
              refine lv_istore_n (lv' := [(3, .int (0 : Int32)), (0, .ref (h 0)), (1, .int a1), (2, .int a2)]) hx hb dX8_nextSeeker_67 rfl hl (Nat.le_of_ble_eq_true rfl) rfl (fun ls hl => ?_)
              refine lv_iload_n hx hb dX8_nextSeeker_68 rfl (lv_at hl 0 rfl) ?_
              refine lv_if_eq (tgt := 76) hx hb dX8_nextSeeker_69 (by decide) (fun _ => ?_) (fun q => absurd (by decide) q)
              refine lv_iload_n hx hb dX8_nextSeeker_76 rfl (lv_at hl 2 rfl) ?_
              refine lv_istore_n (lv' := [(1, .int a1), (3, .int (0 : Int32)), (0, .ref (h 0)), (2, .int a2)]) hx hb dX8_nextSeeker_77 rfl hl (Nat.le_of_ble_eq_true rfl) rfl (fun ls hl => ?_)
              refine lv_iinc (v := (a2 + (1 : Int32))) (lv' := [(2, .int (a2 + (1 : Int32))), (1, .int a1), (3, .int (0 : Int32)), (0, .ref (h 0))]) hx hb dX8_nextSeeker_78 hl (k := 3) rfl (by rfl) (Nat.le_of_ble_eq_true rfl) rfl (fun ls hl => ?_)
              refine lv_goto (tgt := 6) hx hb dX8_nextSeeker_81 (by decide) ?_
              exact ih a1 (a2 + (1 : Int32)) hrun _ _ _ Y (lv_sub hl [3, 1, 0] rfl)
            · have hrun := o_t hrun c_12
              refine lv_aload_n hx hb dX8_nextSeeker_53 rfl (lv_at hl 0 rfl) ?_
              refine lv_iload_n hx hb dX8_nextSeeker_54 rfl (lv_at hl 1 rfl) ?_
              refine lv_iload_n hx hb dX8_nextSeeker_55 rfl (lv_at hl 2 rfl) ?_
              obtain ⟨r_13, e_14, hrun⟩ := o_bh hrun
              refine cf_v (As := [.int a1, .int a2]) (rest := []) S hK hA hZ Y hl.1 (mX8_isBefore l D cI cC h σ a1 a2 r_13 e_14) kX8_127 (T := TX8) (N := 11) rfl (q0 := 0) rfl ⟨Nat.le_of_ble_eq_true rfl, Nat.le_of_ble_eq_true rfl⟩ rfl rfl (Nat.le_of_ble_eq_true rfl) ⟨Nat.le_of_ble_eq_true rfl, Nat.le_of_ble_eq_true rfl⟩ dX8_nextSeeker_56 (fun H locs Y => ?_)
              refine lv_if_eq (tgt := 66) hx hb dX8_nextSeeker_59 (by decide) (fun c_15 => ?_) (fun c_15 => ?_)
              · have hrun := o_t hrun c_15
                refine lv_iconst (v := (0 : Int32)) hx hb dX8_nextSeeker_66 (by decide) ?_
                refine lv_istore_n (lv' := [(3, .int (0 : Int32)), (0, .ref (h 0)), (1, .int a1), (2, .int a2)]) hx hb dX8_nextSeeker_67 rfl hl (Nat.le_of_ble_eq_true rfl) rfl (fun ls hl => ?_)
                refine lv_iload_n hx hb dX8_nextSeeker_68 rfl (lv_at hl 0 rfl) ?_
                refine lv_if_eq (tgt := 76) hx hb dX8_nextSeeker_69 (by decide) (fun _ => ?_) (fun q => absurd (by decide) q)
                refine lv_iload_n hx hb dX8_nextSeeker_76 rfl (lv_at hl 2 rfl) ?_
                refine lv_istore_n (lv' := [(1, .int a1), (3, .int (0 : Int32)), (0, .ref (h 0)), (2, .int a2)]) hx hb dX8_nextSeeker_77 rfl hl (Nat.le_of_ble_eq_true rfl) rfl (fun ls hl => ?_)
                refine lv_iinc (v := (a2 + (1 : Int32))) (lv' := [(2, .int (a2 + (1 : Int32))), (1, .int a1), (3, .int (0 : Int32)), (0, .ref (h 0))]) hx hb dX8_nextSeeker_78 hl (k := 3) rfl (by rfl) (Nat.le_of_ble_eq_true rfl) rfl (fun ls hl => ?_)
                refine lv_goto (tgt := 6) hx hb dX8_nextSeeker_81 (by decide) ?_
                exact ih a1 (a2 + (1 : Int32)) hrun _ _ _ Y (lv_sub hl [3, 1, 0] rfl)
              · have hrun := o_f hrun c_15
                refine lv_iconst (v := (1 : Int32)) hx hb dX8_nextSeeker_62 (by decide) ?_
                refine lv_goto (tgt := 67) hx hb dX8_nextSeeker_63 (by decide) ?_
                refine lv_istore_n (lv' := [(3, .int (1 : Int32)), (0, .ref (h 0)), (1, .int a1), (2, .int a2)]) hx hb dX8_nextSeeker_67 rfl hl (Nat.le_of_ble_eq_true rfl) rfl (fun ls hl => ?_)
                refine lv_iload_n hx hb dX8_nextSeeker_68 rfl (lv_at hl 0 rfl) ?_
                refine lv_if_eq (tgt := 76) hx hb dX8_nextSeeker_69 (by decide) (fun q => absurd q (by decide)) (fun _ => ?_)
                refine lv_iload_n hx hb dX8_nextSeeker_72 rfl (lv_at hl 3 rfl) ?_
                refine lv_goto (tgt := 77) hx hb dX8_nextSeeker_73 (by decide) ?_
                refine lv_istore_n (lv' := [(1, .int a2), (3, .int (1 : Int32)), (0, .ref (h 0)), (2, .int a2)]) hx hb dX8_nextSeeker_77 rfl hl (Nat.le_of_ble_eq_true rfl) rfl (fun ls hl => ?_)
                refine lv_iinc (v := (a2 + (1 : Int32))) (lv' := [(2, .int (a2 + (1 : Int32))), (1, .int a2), (3, .int (1 : Int32)), (0, .ref (h 0))]) hx hb dX8_nextSeeker_78 hl (k := 3) rfl (by rfl) (Nat.le_of_ble_eq_true rfl) rfl (fun ls hl => ?_)
                refine lv_goto (tgt := 6) hx hb dX8_nextSeeker_81 (by decide) ?_
                exact ih a2 (a2 + (1 : Int32)) hrun _ _ _ Y (lv_sub hl [3, 1, 0] rfl)
  unfold fX8_nextSeeker at hrun
  refine lv_sipush (v := (-10006 : Int32)) hx hb dX8_nextSeeker_0 (by decide) ?_
  refine lv_istore_n (lv' := [(1, .int (-10006 : Int32)), (0, .ref (h 0))]) hx hb dX8_nextSeeker_3 rfl hl (Nat.le_of_ble_eq_true rfl) rfl (fun ls hl => ?_)
  refine lv_iconst (v := (0 : Int32)) hx hb dX8_nextSeeker_4 (by decide) ?_
  refine lv_istore_n (lv' := [(2, .int (0 : Int32)), (1, .int (-10006 : Int32)), (0, .ref (h 0))]) hx hb dX8_nextSeeker_5 rfl hl (Nat.le_of_ble_eq_true rfl) rfl (fun ls hl => ?_)
  exact lp6 70 (-10006 : Int32) (0 : Int32) hrun _ _ _ Y (lv_sub hl [2, 1, 0] rfl)
def lX8_sumOfPoints_4 : Nat → Int32 → Int32 → (sg_T) → Option (Int32)
  | 0, _, _, _ => none
  | n + 1, a1, a2, σ => (if ((σ 1) ((4 : Int32)).toNatClampNeg) ≤ a2 then (some a1) else ((fX8_of a2 (0 : Int32) σ).bind fun r_2 => (lX8_sumOfPoints_4 n (a1 + r_2) (a2 + (1 : Int32)) σ)))
def fX8_sumOfPoints (σ : sg_T) : Option (Int32) := (lX8_sumOfPoints_4 70 (0 : Int32) (0 : Int32) σ)
set_option maxRecDepth 100000 in
set_option maxHeartbeats 4000000 in
theorem mX8_sumOfPoints (l : Launch) (D : va_G) (cI cC : ClassId) (h : Nat → Nat) (σ : sg_T) (r : Int32) (hrun : fX8_sumOfPoints σ = some r) : me_I l D (tM cI cC) yX8_sumOfPoints cX8_sumOfPoints 3 .int 1 22 (wM cI cC h σ) [.ref (h 0)] r (wM cI cC h σ) := by
  refine me_ofI (plainFor_of_name (by decide)) (Nat.le_of_ble_eq_true rfl) ?_
  intro p e s m args below meth c A ls S hK Y hA hl hr hlk hZ
  have hx := S.1
  have hb := S.2.1
  have hl : lv_has ls 3 [(0, .ref (h 0))] := hl
  have lp4 : ∀ (n : Nat) (a1 : Int32) (a2 : Int32), lX8_sumOfPoints_4 n a1 a2 σ = some r → ∀ (H : Heap) (locs : List Loc) (ls : Array Slot), dy_ D A s (wM cI cC h σ) H locs → lv_has ls 3 [(0, .ref (h 0)), (1, .int a1), (2, .int a2)] → W p l e (rm_ 1 22) s m args below meth c H locs 0 0 (MQ below (me_Qi D (tM cI cC) A r (wM cI cC h σ)) args s 0 0 A) (F0 m 4 ls []) := by
    intro n
    induction n with
    | zero => intro a1 a2 hrun; cases hrun
    | succ n ih =>
      intro a1 a2 hrun H locs ls Y hl
      unfold lX8_sumOfPoints_4 at hrun
      refine lv_iload_n hx hb dX8_sumOfPoints_4 rfl (lv_at hl 2 rfl) ?_
      refine lv_aload_n hx hb dX8_sumOfPoints_5 rfl (lv_at hl 0 rfl) ?_
      refine ig S hK Y fX8_7 0 rfl (v := .ref (h 1)) rfl dX8_sumOfPoints_6 ?_
      refine lv_iconst (v := (4 : Int32)) hx hb dX8_sumOfPoints_9 (by decide) ?_
      refine ia S hK Y 1 0 (f := (σ 1)) rfl rfl (show ¬ ((4 : Int32) < 0 ∨ 108 ≤ ((4 : Int32)).toNatClampNeg) by decide) dX8_sumOfPoints_10 ?_
      refine lv_icmp_ge (tgt := 29) hx hb dX8_sumOfPoints_11 (by decide) (fun c_1 => ?_) (fun c_1 => ?_)
      · have hrun := o_t hrun c_1
        refine lv_iload_n hx hb dX8_sumOfPoints_29 rfl (lv_at hl 1 rfl) ?_
        cases hrun
        exact me_ri S hK Y hr hlk rfl dX8_sumOfPoints_30
      · have hrun := o_f hrun c_1
        refine lv_iload_n hx hb dX8_sumOfPoints_14 rfl (lv_at hl 1 rfl) ?_
        refine lv_aload_n hx hb dX8_sumOfPoints_15 rfl (lv_at hl 0 rfl) ?_
        refine lv_iload_n hx hb dX8_sumOfPoints_16 rfl (lv_at hl 2 rfl) ?_
        refine lv_iconst (v := (0 : Int32)) hx hb dX8_sumOfPoints_17 (by decide) ?_
        obtain ⟨r_2, e_3, hrun⟩ := o_bh hrun
        refine cf_v (As := [.int a2, .int (0 : Int32)]) (rest := [.int a1]) S hK hA hZ Y hl.1 (mX8_of l D cI cC h σ a2 (0 : Int32) r_2 e_3) kX8_53 (T := TX8) (N := 11) rfl (q0 := 0) rfl ⟨Nat.le_of_ble_eq_true rfl, Nat.le_of_ble_eq_true rfl⟩ rfl rfl (Nat.le_of_ble_eq_true rfl) ⟨Nat.le_of_ble_eq_true rfl, Nat.le_of_ble_eq_true rfl⟩ dX8_sumOfPoints_18 (fun H locs Y => ?_)
        refine lv_iadd hx hb dX8_sumOfPoints_21 ?_
        refine lv_istore_n (lv' := [(1, .int (a1 + r_2)), (0, .ref (h 0)), (2, .int a2)]) hx hb dX8_sumOfPoints_22 rfl hl (Nat.le_of_ble_eq_true rfl) rfl (fun ls hl => ?_)
        refine lv_iinc (v := (a2 + (1 : Int32))) (lv' := [(2, .int (a2 + (1 : Int32))), (1, .int (a1 + r_2)), (0, .ref (h 0))]) hx hb dX8_sumOfPoints_23 hl (k := 2) rfl (by rfl) (Nat.le_of_ble_eq_true rfl) rfl (fun ls hl => ?_)
        refine lv_goto (tgt := 4) hx hb dX8_sumOfPoints_26 (by decide) ?_
        exact ih (a1 + r_2) (a2 + (1 : Int32)) hrun _ _ _ Y (lv_sub hl [2, 1, 0] rfl)
  unfold fX8_sumOfPoints at hrun
  refine lv_iconst (v := (0 : Int32)) hx hb dX8_sumOfPoints_0 (by decide) ?_
  refine lv_istore_n (lv' := [(1, .int (0 : Int32)), (0, .ref (h 0))]) hx hb dX8_sumOfPoints_1 rfl hl (Nat.le_of_ble_eq_true rfl) rfl (fun ls hl => ?_)
  refine lv_iconst (v := (0 : Int32)) hx hb dX8_sumOfPoints_2 (by decide) ?_
  refine lv_istore_n (lv' := [(2, .int (0 : Int32)), (1, .int (0 : Int32)), (0, .ref (h 0))]) hx hb dX8_sumOfPoints_3 rfl hl (Nat.le_of_ble_eq_true rfl) rfl (fun ls hl => ?_)
  exact lp4 70 (0 : Int32) (0 : Int32) hrun _ _ _ Y (lv_sub hl [2, 1, 0] rfl)
def lX8_retired_4 : Nat → Int32 → Int32 → (sg_T) → Option (Int32)
  | 0, _, _, _ => none
  | n + 1, a1, a2, σ => (if (16 : Int32) ≤ a2 then (some a1) else ((fX8_ofSpot a2 (1 : Int32) σ).bind fun r_2 => (lX8_retired_4 n (a1 + r_2) (a2 + (1 : Int32)) σ)))
def fX8_retired (σ : sg_T) : Option (Int32) := (lX8_retired_4 70 (0 : Int32) (0 : Int32) σ)
set_option maxRecDepth 100000 in
set_option maxHeartbeats 4000000 in
theorem mX8_retired (l : Launch) (D : va_G) (cI cC : ClassId) (h : Nat → Nat) (σ : sg_T) (r : Int32) (hrun : fX8_retired σ = some r) : me_I l D (tM cI cC) yX8_retired cX8_retired 3 .int 1 22 (wM cI cC h σ) [.ref (h 0)] r (wM cI cC h σ) := by
  refine me_ofI (plainFor_of_name (by decide)) (Nat.le_of_ble_eq_true rfl) ?_
  intro p e s m args below meth c A ls S hK Y hA hl hr hlk hZ
  have hx := S.1
  have hb := S.2.1
  have hl : lv_has ls 3 [(0, .ref (h 0))] := hl
  have lp4 : ∀ (n : Nat) (a1 : Int32) (a2 : Int32), lX8_retired_4 n a1 a2 σ = some r → ∀ (H : Heap) (locs : List Loc) (ls : Array Slot), dy_ D A s (wM cI cC h σ) H locs → lv_has ls 3 [(0, .ref (h 0)), (1, .int a1), (2, .int a2)] → W p l e (rm_ 1 22) s m args below meth c H locs 0 0 (MQ below (me_Qi D (tM cI cC) A r (wM cI cC h σ)) args s 0 0 A) (F0 m 4 ls []) := by
    intro n
    induction n with
    | zero => intro a1 a2 hrun; cases hrun
    | succ n ih =>
      intro a1 a2 hrun H locs ls Y hl
      unfold lX8_retired_4 at hrun
      refine lv_iload_n hx hb dX8_retired_4 rfl (lv_at hl 2 rfl) ?_
      refine lv_bipush (v := (16 : Int32)) hx hb dX8_retired_5 (by decide) ?_
      refine lv_icmp_ge (tgt := 25) hx hb dX8_retired_7 (by decide) (fun c_1 => ?_) (fun c_1 => ?_)
      · have hrun := o_t hrun c_1
        refine lv_iload_n hx hb dX8_retired_25 rfl (lv_at hl 1 rfl) ?_
        cases hrun
        exact me_ri S hK Y hr hlk rfl dX8_retired_26
      · have hrun := o_f hrun c_1
        refine lv_iload_n hx hb dX8_retired_10 rfl (lv_at hl 1 rfl) ?_
        refine lv_aload_n hx hb dX8_retired_11 rfl (lv_at hl 0 rfl) ?_
        refine lv_iload_n hx hb dX8_retired_12 rfl (lv_at hl 2 rfl) ?_
        refine lv_iconst (v := (1 : Int32)) hx hb dX8_retired_13 (by decide) ?_
        obtain ⟨r_2, e_3, hrun⟩ := o_bh hrun
        refine cf_v (As := [.int a2, .int (1 : Int32)]) (rest := [.int a1]) S hK hA hZ Y hl.1 (mX8_ofSpot l D cI cC h σ a2 (1 : Int32) r_2 e_3) kX8_30 (T := TX8) (N := 11) rfl (q0 := 0) rfl ⟨Nat.le_of_ble_eq_true rfl, Nat.le_of_ble_eq_true rfl⟩ rfl rfl (Nat.le_of_ble_eq_true rfl) ⟨Nat.le_of_ble_eq_true rfl, Nat.le_of_ble_eq_true rfl⟩ dX8_retired_14 (fun H locs Y => ?_)
        refine lv_iadd hx hb dX8_retired_17 ?_
        refine lv_istore_n (lv' := [(1, .int (a1 + r_2)), (0, .ref (h 0)), (2, .int a2)]) hx hb dX8_retired_18 rfl hl (Nat.le_of_ble_eq_true rfl) rfl (fun ls hl => ?_)
        refine lv_iinc (v := (a2 + (1 : Int32))) (lv' := [(2, .int (a2 + (1 : Int32))), (1, .int (a1 + r_2)), (0, .ref (h 0))]) hx hb dX8_retired_19 hl (k := 2) rfl (by rfl) (Nat.le_of_ble_eq_true rfl) rfl (fun ls hl => ?_)
        refine lv_goto (tgt := 4) hx hb dX8_retired_22 (by decide) ?_
        exact ih (a1 + r_2) (a2 + (1 : Int32)) hrun _ _ _ Y (lv_sub hl [2, 1, 0] rfl)
  unfold fX8_retired at hrun
  refine lv_iconst (v := (0 : Int32)) hx hb dX8_retired_0 (by decide) ?_
  refine lv_istore_n (lv' := [(1, .int (0 : Int32)), (0, .ref (h 0))]) hx hb dX8_retired_1 rfl hl (Nat.le_of_ble_eq_true rfl) rfl (fun ls hl => ?_)
  refine lv_iconst (v := (0 : Int32)) hx hb dX8_retired_2 (by decide) ?_
  refine lv_istore_n (lv' := [(2, .int (0 : Int32)), (1, .int (0 : Int32)), (0, .ref (h 0))]) hx hb dX8_retired_3 rfl hl (Nat.le_of_ble_eq_true rfl) rfl (fun ls hl => ?_)
  exact lp4 70 (0 : Int32) (0 : Int32) hrun _ _ _ Y (lv_sub hl [2, 1, 0] rfl)
def fX8_total (p1 : Int32) (σ : sg_T) : Option (Int32) := (if p1 = (0 : Int32) then (some ((σ 1) ((4 : Int32)).toNatClampNeg)) else (if p1 = (1 : Int32) then (some ((σ 1) ((5 : Int32)).toNatClampNeg)) else (if p1 = (2 : Int32) then (some ((σ 1) ((6 : Int32)).toNatClampNeg)) else (if p1 = (3 : Int32) then (if ((σ 1) ((6 : Int32)).toNatClampNeg) = 0 then (some (-10006 : Int32)) else (some ((σ 1) ((7 : Int32)).toNatClampNeg))) else (if p1 = (4 : Int32) then (if ((σ 1) ((6 : Int32)).toNatClampNeg) = 0 then (some (-10006 : Int32)) else (some ((σ 1) ((8 : Int32)).toNatClampNeg))) else (if p1 = (5 : Int32) then (if ((σ 1) ((6 : Int32)).toNatClampNeg) = (2 : Int32) then (some ((σ 1) ((9 : Int32)).toNatClampNeg)) else (some (-10006 : Int32))) else (if p1 = (6 : Int32) then (some ((σ 1) ((10 : Int32)).toNatClampNeg)) else (if p1 = (7 : Int32) then ((fX8_hidden σ).bind fun r_12 => (some r_12)) else (if p1 = (8 : Int32) then ((fX8_retired σ).bind fun r_15 => (some r_15)) else (if p1 = (9 : Int32) then ((fX8_sumOfPoints σ).bind fun r_18 => (some r_18)) else (some (-10002 : Int32))))))))))))
set_option maxRecDepth 100000 in
set_option maxHeartbeats 4000000 in
theorem mX8_total (l : Launch) (D : va_G) (cI cC : ClassId) (h : Nat → Nat) (σ : sg_T) (p1 : Int32) (r : Int32) (hrun : fX8_total p1 σ = some r) : me_I l D (tM cI cC) yX8_total cX8_total 2 .int 2 44 (wM cI cC h σ) [.ref (h 0), .int p1] r (wM cI cC h σ) := by
  refine me_ofI (plainFor_of_name (by decide)) (Nat.le_of_ble_eq_true rfl) ?_
  intro p e s m args below meth c A ls S hK Y hA hl hr hlk hZ
  have hx := S.1
  have hb := S.2.1
  have hl : lv_has ls 2 [(0, .ref (h 0)), (1, .int p1)] := hl
  unfold fX8_total at hrun
  refine lv_iload_n hx hb dX8_total_0 rfl (lv_at hl 1 rfl) ?_
  rcases Decidable.em (p1 = (0 : Int32)) with c_1 | c_1
  · have hrun := o_t hrun c_1
    refine lv_tableIn (off := 55) (tgt := 56) hx hb dX8_total_1 (by rw [c_1]; decide) (by rw [c_1]; decide) (by rw [c_1]; rfl) (by decide) ?_
    refine lv_aload_n hx hb dX8_total_56 rfl (lv_at hl 0 rfl) ?_
    refine ig S hK Y fX8_7 0 rfl (v := .ref (h 1)) rfl dX8_total_57 ?_
    refine lv_iconst (v := (4 : Int32)) hx hb dX8_total_60 (by decide) ?_
    refine ia S hK Y 1 0 (f := (σ 1)) rfl rfl (show ¬ ((4 : Int32) < 0 ∨ 108 ≤ ((4 : Int32)).toNatClampNeg) by decide) dX8_total_61 ?_
    cases hrun
    exact me_ri S hK Y hr hlk rfl dX8_total_62
  · have hrun := o_f hrun c_1
    rcases Decidable.em (p1 = (1 : Int32)) with c_2 | c_2
    · have hrun := o_t hrun c_2
      refine lv_tableIn (off := 62) (tgt := 63) hx hb dX8_total_1 (by rw [c_2]; decide) (by rw [c_2]; decide) (by rw [c_2]; rfl) (by decide) ?_
      refine lv_aload_n hx hb dX8_total_63 rfl (lv_at hl 0 rfl) ?_
      refine ig S hK Y fX8_7 0 rfl (v := .ref (h 1)) rfl dX8_total_64 ?_
      refine lv_iconst (v := (5 : Int32)) hx hb dX8_total_67 (by decide) ?_
      refine ia S hK Y 1 0 (f := (σ 1)) rfl rfl (show ¬ ((5 : Int32) < 0 ∨ 108 ≤ ((5 : Int32)).toNatClampNeg) by decide) dX8_total_68 ?_
      cases hrun
      exact me_ri S hK Y hr hlk rfl dX8_total_69
    · have hrun := o_f hrun c_2
      rcases Decidable.em (p1 = (2 : Int32)) with c_3 | c_3
      · have hrun := o_t hrun c_3
        refine lv_tableIn (off := 69) (tgt := 70) hx hb dX8_total_1 (by rw [c_3]; decide) (by rw [c_3]; decide) (by rw [c_3]; rfl) (by decide) ?_
        refine lv_aload_n hx hb dX8_total_70 rfl (lv_at hl 0 rfl) ?_
        refine ig S hK Y fX8_7 0 rfl (v := .ref (h 1)) rfl dX8_total_71 ?_
        refine lv_bipush (v := (6 : Int32)) hx hb dX8_total_74 (by decide) ?_
        refine ia S hK Y 1 0 (f := (σ 1)) rfl rfl (show ¬ ((6 : Int32) < 0 ∨ 108 ≤ ((6 : Int32)).toNatClampNeg) by decide) dX8_total_76 ?_
        cases hrun
        exact me_ri S hK Y hr hlk rfl dX8_total_77
      · have hrun := o_f hrun c_3
        rcases Decidable.em (p1 = (3 : Int32)) with c_4 | c_4
        · have hrun := o_t hrun c_4
          refine lv_tableIn (off := 77) (tgt := 78) hx hb dX8_total_1 (by rw [c_4]; decide) (by rw [c_4]; decide) (by rw [c_4]; rfl) (by decide) ?_
          refine lv_aload_n hx hb dX8_total_78 rfl (lv_at hl 0 rfl) ?_
          refine ig S hK Y fX8_7 0 rfl (v := .ref (h 1)) rfl dX8_total_79 ?_
          refine lv_bipush (v := (6 : Int32)) hx hb dX8_total_82 (by decide) ?_
          refine ia S hK Y 1 0 (f := (σ 1)) rfl rfl (show ¬ ((6 : Int32) < 0 ∨ 108 ≤ ((6 : Int32)).toNatClampNeg) by decide) dX8_total_84 ?_
          refine lv_if_ne (tgt := 94) hx hb dX8_total_85 (by decide) (fun c_5 => ?_) (fun c_5 => ?_)
          · have hrun := o_f hrun c_5
            refine lv_aload_n hx hb dX8_total_94 rfl (lv_at hl 0 rfl) ?_
            refine ig S hK Y fX8_7 0 rfl (v := .ref (h 1)) rfl dX8_total_95 ?_
            refine lv_bipush (v := (7 : Int32)) hx hb dX8_total_98 (by decide) ?_
            refine ia S hK Y 1 0 (f := (σ 1)) rfl rfl (show ¬ ((7 : Int32) < 0 ∨ 108 ≤ ((7 : Int32)).toNatClampNeg) by decide) dX8_total_100 ?_
            cases hrun
            exact me_ri S hK Y hr hlk rfl dX8_total_101
          · have hrun := o_t hrun c_5
            refine lv_sipush (v := (-10006 : Int32)) hx hb dX8_total_88 (by decide) ?_
            refine lv_goto (tgt := 101) hx hb dX8_total_91 (by decide) ?_
            cases hrun
            exact me_ri S hK Y hr hlk rfl dX8_total_101
        · have hrun := o_f hrun c_4
          rcases Decidable.em (p1 = (4 : Int32)) with c_6 | c_6
          · have hrun := o_t hrun c_6
            refine lv_tableIn (off := 101) (tgt := 102) hx hb dX8_total_1 (by rw [c_6]; decide) (by rw [c_6]; decide) (by rw [c_6]; rfl) (by decide) ?_
            refine lv_aload_n hx hb dX8_total_102 rfl (lv_at hl 0 rfl) ?_
            refine ig S hK Y fX8_7 0 rfl (v := .ref (h 1)) rfl dX8_total_103 ?_
            refine lv_bipush (v := (6 : Int32)) hx hb dX8_total_106 (by decide) ?_
            refine ia S hK Y 1 0 (f := (σ 1)) rfl rfl (show ¬ ((6 : Int32) < 0 ∨ 108 ≤ ((6 : Int32)).toNatClampNeg) by decide) dX8_total_108 ?_
            refine lv_if_ne (tgt := 118) hx hb dX8_total_109 (by decide) (fun c_7 => ?_) (fun c_7 => ?_)
            · have hrun := o_f hrun c_7
              refine lv_aload_n hx hb dX8_total_118 rfl (lv_at hl 0 rfl) ?_
              refine ig S hK Y fX8_7 0 rfl (v := .ref (h 1)) rfl dX8_total_119 ?_
              refine lv_bipush (v := (8 : Int32)) hx hb dX8_total_122 (by decide) ?_
              refine ia S hK Y 1 0 (f := (σ 1)) rfl rfl (show ¬ ((8 : Int32) < 0 ∨ 108 ≤ ((8 : Int32)).toNatClampNeg) by decide) dX8_total_124 ?_
              cases hrun
              exact me_ri S hK Y hr hlk rfl dX8_total_125
            · have hrun := o_t hrun c_7
              refine lv_sipush (v := (-10006 : Int32)) hx hb dX8_total_112 (by decide) ?_
              refine lv_goto (tgt := 125) hx hb dX8_total_115 (by decide) ?_
              cases hrun
              exact me_ri S hK Y hr hlk rfl dX8_total_125
          · have hrun := o_f hrun c_6
            rcases Decidable.em (p1 = (5 : Int32)) with c_8 | c_8
            · have hrun := o_t hrun c_8
              refine lv_tableIn (off := 125) (tgt := 126) hx hb dX8_total_1 (by rw [c_8]; decide) (by rw [c_8]; decide) (by rw [c_8]; rfl) (by decide) ?_
              refine lv_aload_n hx hb dX8_total_126 rfl (lv_at hl 0 rfl) ?_
              refine ig S hK Y fX8_7 0 rfl (v := .ref (h 1)) rfl dX8_total_127 ?_
              refine lv_bipush (v := (6 : Int32)) hx hb dX8_total_130 (by decide) ?_
              refine ia S hK Y 1 0 (f := (σ 1)) rfl rfl (show ¬ ((6 : Int32) < 0 ∨ 108 ≤ ((6 : Int32)).toNatClampNeg) by decide) dX8_total_132 ?_
              refine lv_iconst (v := (2 : Int32)) hx hb dX8_total_133 (by decide) ?_
              refine lv_icmp_ne (tgt := 147) hx hb dX8_total_134 (by decide) (fun c_9 => ?_) (fun c_9 => ?_)
              · have hrun := o_f hrun c_9
                refine lv_sipush (v := (-10006 : Int32)) hx hb dX8_total_147 (by decide) ?_
                cases hrun
                exact me_ri S hK Y hr hlk rfl dX8_total_150
              · have hrun := o_t hrun c_9
                refine lv_aload_n hx hb dX8_total_137 rfl (lv_at hl 0 rfl) ?_
                refine ig S hK Y fX8_7 0 rfl (v := .ref (h 1)) rfl dX8_total_138 ?_
                refine lv_bipush (v := (9 : Int32)) hx hb dX8_total_141 (by decide) ?_
                refine ia S hK Y 1 0 (f := (σ 1)) rfl rfl (show ¬ ((9 : Int32) < 0 ∨ 108 ≤ ((9 : Int32)).toNatClampNeg) by decide) dX8_total_143 ?_
                refine lv_goto (tgt := 150) hx hb dX8_total_144 (by decide) ?_
                cases hrun
                exact me_ri S hK Y hr hlk rfl dX8_total_150
            · have hrun := o_f hrun c_8
              rcases Decidable.em (p1 = (6 : Int32)) with c_10 | c_10
              · have hrun := o_t hrun c_10
                refine lv_tableIn (off := 150) (tgt := 151) hx hb dX8_total_1 (by rw [c_10]; decide) (by rw [c_10]; decide) (by rw [c_10]; rfl) (by decide) ?_
                refine lv_aload_n hx hb dX8_total_151 rfl (lv_at hl 0 rfl) ?_
                refine ig S hK Y fX8_7 0 rfl (v := .ref (h 1)) rfl dX8_total_152 ?_
                refine lv_bipush (v := (10 : Int32)) hx hb dX8_total_155 (by decide) ?_
                refine ia S hK Y 1 0 (f := (σ 1)) rfl rfl (show ¬ ((10 : Int32) < 0 ∨ 108 ≤ ((10 : Int32)).toNatClampNeg) by decide) dX8_total_157 ?_
                cases hrun
                exact me_ri S hK Y hr hlk rfl dX8_total_158
              · have hrun := o_f hrun c_10
                rcases Decidable.em (p1 = (7 : Int32)) with c_11 | c_11
                · have hrun := o_t hrun c_11
                  refine lv_tableIn (off := 158) (tgt := 159) hx hb dX8_total_1 (by rw [c_11]; decide) (by rw [c_11]; decide) (by rw [c_11]; rfl) (by decide) ?_
                  refine lv_aload_n hx hb dX8_total_159 rfl (lv_at hl 0 rfl) ?_
                  obtain ⟨r_12, e_13, hrun⟩ := o_bh hrun
                  refine cf_v (As := []) (rest := []) S hK hA hZ Y hl.1 (mX8_hidden l D cI cC h σ r_12 e_13) kX8_89 (T := TX8) (N := 11) rfl (q0 := 0) rfl ⟨Nat.le_of_ble_eq_true rfl, Nat.le_of_ble_eq_true rfl⟩ rfl rfl (Nat.le_of_ble_eq_true rfl) ⟨Nat.le_of_ble_eq_true rfl, Nat.le_of_ble_eq_true rfl⟩ dX8_total_160 (fun H locs Y => ?_)
                  cases hrun
                  exact me_ri S hK Y hr hlk rfl dX8_total_163
                · have hrun := o_f hrun c_11
                  rcases Decidable.em (p1 = (8 : Int32)) with c_14 | c_14
                  · have hrun := o_t hrun c_14
                    refine lv_tableIn (off := 163) (tgt := 164) hx hb dX8_total_1 (by rw [c_14]; decide) (by rw [c_14]; decide) (by rw [c_14]; rfl) (by decide) ?_
                    refine lv_aload_n hx hb dX8_total_164 rfl (lv_at hl 0 rfl) ?_
                    obtain ⟨r_15, e_16, hrun⟩ := o_bh hrun
                    refine cf_v (As := []) (rest := []) S hK hA hZ Y hl.1 (mX8_retired l D cI cC h σ r_15 e_16) kX8_133 (T := TX8) (N := 11) rfl (q0 := 0) rfl ⟨Nat.le_of_ble_eq_true rfl, Nat.le_of_ble_eq_true rfl⟩ rfl rfl (Nat.le_of_ble_eq_true rfl) ⟨Nat.le_of_ble_eq_true rfl, Nat.le_of_ble_eq_true rfl⟩ dX8_total_165 (fun H locs Y => ?_)
                    cases hrun
                    exact me_ri S hK Y hr hlk rfl dX8_total_168
                  · have hrun := o_f hrun c_14
                    rcases Decidable.em (p1 = (9 : Int32)) with c_17 | c_17
                    · have hrun := o_t hrun c_17
                      refine lv_tableIn (off := 168) (tgt := 169) hx hb dX8_total_1 (by rw [c_17]; decide) (by rw [c_17]; decide) (by rw [c_17]; rfl) (by decide) ?_
                      refine lv_aload_n hx hb dX8_total_169 rfl (lv_at hl 0 rfl) ?_
                      obtain ⟨r_18, e_19, hrun⟩ := o_bh hrun
                      refine cf_v (As := []) (rest := []) S hK hA hZ Y hl.1 (mX8_sumOfPoints l D cI cC h σ r_18 e_19) kX8_136 (T := TX8) (N := 11) rfl (q0 := 0) rfl ⟨Nat.le_of_ble_eq_true rfl, Nat.le_of_ble_eq_true rfl⟩ rfl rfl (Nat.le_of_ble_eq_true rfl) ⟨Nat.le_of_ble_eq_true rfl, Nat.le_of_ble_eq_true rfl⟩ dX8_total_170 (fun H locs Y => ?_)
                      cases hrun
                      exact me_ri S hK Y hr hlk rfl dX8_total_173
                    · have hrun := o_f hrun c_17
                      have tc_1 := lv_neT c_1 (show ((0 : Int32)).toInt = 0 by decide)
                      have tc_2 := lv_neT c_2 (show ((1 : Int32)).toInt = 1 by decide)
                      have tc_3 := lv_neT c_3 (show ((2 : Int32)).toInt = 2 by decide)
                      have tc_4 := lv_neT c_4 (show ((3 : Int32)).toInt = 3 by decide)
                      have tc_6 := lv_neT c_6 (show ((4 : Int32)).toInt = 4 by decide)
                      have tc_8 := lv_neT c_8 (show ((5 : Int32)).toInt = 5 by decide)
                      have tc_10 := lv_neT c_10 (show ((6 : Int32)).toInt = 6 by decide)
                      have tc_11 := lv_neT c_11 (show ((7 : Int32)).toInt = 7 by decide)
                      have tc_14 := lv_neT c_14 (show ((8 : Int32)).toInt = 8 by decide)
                      have tc_17 := lv_neT c_17 (show ((9 : Int32)).toInt = 9 by decide)
                      refine lv_tableOut (tgt := 174) hx hb dX8_total_1 (by omega) (by decide) ?_
                      refine lv_sipush (v := (-10002 : Int32)) hx hb dX8_total_174 (by decide) ?_
                      cases hrun
                      exact me_ri S hK Y hr hlk rfl dX8_total_177
def lX8_inSight_19 : Nat → Int32 → Int32 → (sg_T) → Option (Int32)
  | 0, _, _, _ => none
  | n + 1, a1, a2, σ => (if (16 : Int32) ≤ a2 then (some a1) else ((fX8_distance a2 ((σ 1) ((9 : Int32)).toNatClampNeg)).bind fun r_3 => (if ((σ 1) ((0 : Int32)).toNatClampNeg) < r_3 then (lX8_inSight_19 n (a1 ||| (0 : Int32)) (a2 + (1 : Int32)) σ) else (lX8_inSight_19 n (a1 ||| ((1 : Int32) <<< (a2 &&& 31))) (a2 + (1 : Int32)) σ))))
def fX8_inSight (σ : sg_T) : Option (Int32) := (if ((σ 1) ((6 : Int32)).toNatClampNeg) = (2 : Int32) then (lX8_inSight_19 70 (0 : Int32) (0 : Int32) σ) else (some (-10003 : Int32)))
set_option maxRecDepth 100000 in
set_option maxHeartbeats 4000000 in
theorem mX8_inSight (l : Launch) (D : va_G) (cI cC : ClassId) (h : Nat → Nat) (σ : sg_T) (r : Int32) (hrun : fX8_inSight σ = some r) : me_I l D (tM cI cC) yX8_inSight cX8_inSight 3 .int 1 22 (wM cI cC h σ) [.ref (h 0)] r (wM cI cC h σ) := by
  refine me_ofI (plainFor_of_name (by decide)) (Nat.le_of_ble_eq_true rfl) ?_
  intro p e s m args below meth c A ls S hK Y hA hl hr hlk hZ
  have hx := S.1
  have hb := S.2.1
  have hl : lv_has ls 3 [(0, .ref (h 0))] := hl
  have lp19 : ∀ (n : Nat) (a1 : Int32) (a2 : Int32), lX8_inSight_19 n a1 a2 σ = some r → ∀ (H : Heap) (locs : List Loc) (ls : Array Slot), dy_ D A s (wM cI cC h σ) H locs → lv_has ls 3 [(0, .ref (h 0)), (1, .int a1), (2, .int a2)] → W p l e (rm_ 1 22) s m args below meth c H locs 0 0 (MQ below (me_Qi D (tM cI cC) A r (wM cI cC h σ)) args s 0 0 A) (F0 m 19 ls []) := by
    intro n
    induction n with
    | zero => intro a1 a2 hrun; cases hrun
    | succ n ih =>
      intro a1 a2 hrun H locs ls Y hl
      unfold lX8_inSight_19 at hrun
      refine lv_iload_n hx hb dX8_inSight_19 rfl (lv_at hl 2 rfl) ?_
      refine lv_bipush (v := (16 : Int32)) hx hb dX8_inSight_20 (by decide) ?_
      refine lv_icmp_ge (tgt := 61) hx hb dX8_inSight_22 (by decide) (fun c_2 => ?_) (fun c_2 => ?_)
      · have hrun := o_t hrun c_2
        refine lv_iload_n hx hb dX8_inSight_61 rfl (lv_at hl 1 rfl) ?_
        cases hrun
        exact me_ri S hK Y hr hlk rfl dX8_inSight_62
      · have hrun := o_f hrun c_2
        refine lv_iload_n hx hb dX8_inSight_25 rfl (lv_at hl 1 rfl) ?_
        refine lv_iload_n hx hb dX8_inSight_26 rfl (lv_at hl 2 rfl) ?_
        refine lv_aload_n hx hb dX8_inSight_27 rfl (lv_at hl 0 rfl) ?_
        refine ig S hK Y fX8_7 0 rfl (v := .ref (h 1)) rfl dX8_inSight_28 ?_
        refine lv_bipush (v := (9 : Int32)) hx hb dX8_inSight_31 (by decide) ?_
        refine ia S hK Y 1 0 (f := (σ 1)) rfl rfl (show ¬ ((9 : Int32) < 0 ∨ 108 ≤ ((9 : Int32)).toNatClampNeg) by decide) dX8_inSight_33 ?_
        obtain ⟨r_3, e_4, hrun⟩ := o_bh hrun
        refine cp_s (As := [.int a2, .int ((σ 1) ((9 : Int32)).toNatClampNeg)]) (rest := [.int a1]) S hK hA hZ Y hl.1 (mX8_distance l D a2 ((σ 1) ((9 : Int32)).toNatClampNeg) r_3 e_4) kX8_56 ⟨Nat.le_of_ble_eq_true rfl, Nat.le_of_ble_eq_true rfl⟩ rfl rfl (Nat.le_of_ble_eq_true rfl) ⟨Nat.le_of_ble_eq_true rfl, Nat.le_of_ble_eq_true rfl⟩ dX8_inSight_34 (fun H locs Y => ?_)
        refine lv_aload_n hx hb dX8_inSight_37 rfl (lv_at hl 0 rfl) ?_
        refine ig S hK Y fX8_7 0 rfl (v := .ref (h 1)) rfl dX8_inSight_38 ?_
        refine lv_iconst (v := (0 : Int32)) hx hb dX8_inSight_41 (by decide) ?_
        refine ia S hK Y 1 0 (f := (σ 1)) rfl rfl (show ¬ ((0 : Int32) < 0 ∨ 108 ≤ ((0 : Int32)).toNatClampNeg) by decide) dX8_inSight_42 ?_
        refine lv_icmp_gt (tgt := 52) hx hb dX8_inSight_43 (by decide) (fun c_5 => ?_) (fun c_5 => ?_)
        · have hrun := o_t hrun c_5
          refine lv_iconst (v := (0 : Int32)) hx hb dX8_inSight_52 (by decide) ?_
          refine lv_ior hx hb dX8_inSight_53 ?_
          refine lv_istore_n (lv' := [(1, .int (a1 ||| (0 : Int32))), (0, .ref (h 0)), (2, .int a2)]) hx hb dX8_inSight_54 rfl hl (Nat.le_of_ble_eq_true rfl) rfl (fun ls hl => ?_)
          refine lv_iinc (v := (a2 + (1 : Int32))) (lv' := [(2, .int (a2 + (1 : Int32))), (1, .int (a1 ||| (0 : Int32))), (0, .ref (h 0))]) hx hb dX8_inSight_55 hl (k := 2) rfl (by rfl) (Nat.le_of_ble_eq_true rfl) rfl (fun ls hl => ?_)
          refine lv_goto (tgt := 19) hx hb dX8_inSight_58 (by decide) ?_
          exact ih (a1 ||| (0 : Int32)) (a2 + (1 : Int32)) hrun _ _ _ Y (lv_sub hl [2, 1, 0] rfl)
        · have hrun := o_f hrun c_5
          refine lv_iconst (v := (1 : Int32)) hx hb dX8_inSight_46 (by decide) ?_
          refine lv_iload_n hx hb dX8_inSight_47 rfl (lv_at hl 2 rfl) ?_
          refine lv_ishl hx hb dX8_inSight_48 ?_
          refine lv_goto (tgt := 53) hx hb dX8_inSight_49 (by decide) ?_
          refine lv_ior hx hb dX8_inSight_53 ?_
          refine lv_istore_n (lv' := [(1, .int (a1 ||| ((1 : Int32) <<< (a2 &&& 31)))), (0, .ref (h 0)), (2, .int a2)]) hx hb dX8_inSight_54 rfl hl (Nat.le_of_ble_eq_true rfl) rfl (fun ls hl => ?_)
          refine lv_iinc (v := (a2 + (1 : Int32))) (lv' := [(2, .int (a2 + (1 : Int32))), (1, .int (a1 ||| ((1 : Int32) <<< (a2 &&& 31)))), (0, .ref (h 0))]) hx hb dX8_inSight_55 hl (k := 2) rfl (by rfl) (Nat.le_of_ble_eq_true rfl) rfl (fun ls hl => ?_)
          refine lv_goto (tgt := 19) hx hb dX8_inSight_58 (by decide) ?_
          exact ih (a1 ||| ((1 : Int32) <<< (a2 &&& 31))) (a2 + (1 : Int32)) hrun _ _ _ Y (lv_sub hl [2, 1, 0] rfl)
  unfold fX8_inSight at hrun
  refine lv_aload_n hx hb dX8_inSight_0 rfl (lv_at hl 0 rfl) ?_
  refine ig S hK Y fX8_7 0 rfl (v := .ref (h 1)) rfl dX8_inSight_1 ?_
  refine lv_bipush (v := (6 : Int32)) hx hb dX8_inSight_4 (by decide) ?_
  refine ia S hK Y 1 0 (f := (σ 1)) rfl rfl (show ¬ ((6 : Int32) < 0 ∨ 108 ≤ ((6 : Int32)).toNatClampNeg) by decide) dX8_inSight_6 ?_
  refine lv_iconst (v := (2 : Int32)) hx hb dX8_inSight_7 (by decide) ?_
  refine lv_icmp_eq (tgt := 15) hx hb dX8_inSight_8 (by decide) (fun c_1 => ?_) (fun c_1 => ?_)
  · have hrun := o_t hrun c_1
    refine lv_iconst (v := (0 : Int32)) hx hb dX8_inSight_15 (by decide) ?_
    refine lv_istore_n (lv' := [(1, .int (0 : Int32)), (0, .ref (h 0))]) hx hb dX8_inSight_16 rfl hl (Nat.le_of_ble_eq_true rfl) rfl (fun ls hl => ?_)
    refine lv_iconst (v := (0 : Int32)) hx hb dX8_inSight_17 (by decide) ?_
    refine lv_istore_n (lv' := [(2, .int (0 : Int32)), (1, .int (0 : Int32)), (0, .ref (h 0))]) hx hb dX8_inSight_18 rfl hl (Nat.le_of_ble_eq_true rfl) rfl (fun ls hl => ?_)
    exact lp19 70 (0 : Int32) (0 : Int32) hrun _ _ _ Y (lv_sub hl [2, 1, 0] rfl)
  · have hrun := o_f hrun c_1
    refine lv_sipush (v := (-10003 : Int32)) hx hb dX8_inSight_11 (by decide) ?_
    cases hrun
    exact me_ri S hK Y hr hlk rfl dX8_inSight_14
def lX8_couldDash_19 : Nat → Int32 → Int32 → (sg_T) → Option (Int32)
  | 0, _, _, _ => none
  | n + 1, a1, a2, σ => (if ((σ 1) ((4 : Int32)).toNatClampNeg) ≤ a2 then (some a1) else ((fX8_of a2 (5 : Int32) σ).bind fun r_3 => (if r_3 = (-10006 : Int32) then (lX8_couldDash_19 n (a1 ||| (0 : Int32)) (a2 + (1 : Int32)) σ) else ((fX8_isFaster a2 σ).bind fun r_6 => (if r_6 = 0 then (lX8_couldDash_19 n (a1 ||| (0 : Int32)) (a2 + (1 : Int32)) σ) else (lX8_couldDash_19 n (a1 ||| ((1 : Int32) <<< (a2 &&& 31))) (a2 + (1 : Int32)) σ))))))
def fX8_couldDash (σ : sg_T) : Option (Int32) := (if ((σ 1) ((6 : Int32)).toNatClampNeg) = (2 : Int32) then (lX8_couldDash_19 70 (0 : Int32) (0 : Int32) σ) else (some (-10003 : Int32)))
set_option maxRecDepth 100000 in
set_option maxHeartbeats 4000000 in
theorem mX8_couldDash (l : Launch) (D : va_G) (cI cC : ClassId) (h : Nat → Nat) (σ : sg_T) (r : Int32) (hrun : fX8_couldDash σ = some r) : me_I l D (tM cI cC) yX8_couldDash cX8_couldDash 3 .int 2 43 (wM cI cC h σ) [.ref (h 0)] r (wM cI cC h σ) := by
  refine me_ofI (plainFor_of_name (by decide)) (Nat.le_of_ble_eq_true rfl) ?_
  intro p e s m args below meth c A ls S hK Y hA hl hr hlk hZ
  have hx := S.1
  have hb := S.2.1
  have hl : lv_has ls 3 [(0, .ref (h 0))] := hl
  have lp19 : ∀ (n : Nat) (a1 : Int32) (a2 : Int32), lX8_couldDash_19 n a1 a2 σ = some r → ∀ (H : Heap) (locs : List Loc) (ls : Array Slot), dy_ D A s (wM cI cC h σ) H locs → lv_has ls 3 [(0, .ref (h 0)), (1, .int a1), (2, .int a2)] → W p l e (rm_ 2 43) s m args below meth c H locs 0 0 (MQ below (me_Qi D (tM cI cC) A r (wM cI cC h σ)) args s 0 0 A) (F0 m 19 ls []) := by
    intro n
    induction n with
    | zero => intro a1 a2 hrun; cases hrun
    | succ n ih =>
      intro a1 a2 hrun H locs ls Y hl
      unfold lX8_couldDash_19 at hrun
      refine lv_iload_n hx hb dX8_couldDash_19 rfl (lv_at hl 2 rfl) ?_
      refine lv_aload_n hx hb dX8_couldDash_20 rfl (lv_at hl 0 rfl) ?_
      refine ig S hK Y fX8_7 0 rfl (v := .ref (h 1)) rfl dX8_couldDash_21 ?_
      refine lv_iconst (v := (4 : Int32)) hx hb dX8_couldDash_24 (by decide) ?_
      refine ia S hK Y 1 0 (f := (σ 1)) rfl rfl (show ¬ ((4 : Int32) < 0 ∨ 108 ≤ ((4 : Int32)).toNatClampNeg) by decide) dX8_couldDash_25 ?_
      refine lv_icmp_ge (tgt := 65) hx hb dX8_couldDash_26 (by decide) (fun c_2 => ?_) (fun c_2 => ?_)
      · have hrun := o_t hrun c_2
        refine lv_iload_n hx hb dX8_couldDash_65 rfl (lv_at hl 1 rfl) ?_
        cases hrun
        exact me_ri S hK Y hr hlk rfl dX8_couldDash_66
      · have hrun := o_f hrun c_2
        refine lv_iload_n hx hb dX8_couldDash_29 rfl (lv_at hl 1 rfl) ?_
        refine lv_aload_n hx hb dX8_couldDash_30 rfl (lv_at hl 0 rfl) ?_
        refine lv_iload_n hx hb dX8_couldDash_31 rfl (lv_at hl 2 rfl) ?_
        refine lv_iconst (v := (5 : Int32)) hx hb dX8_couldDash_32 (by decide) ?_
        obtain ⟨r_3, e_4, hrun⟩ := o_bh hrun
        refine cf_v (As := [.int a2, .int (5 : Int32)]) (rest := [.int a1]) S hK hA hZ Y hl.1 (mX8_of l D cI cC h σ a2 (5 : Int32) r_3 e_4) kX8_53 (T := TX8) (N := 11) rfl (q0 := 0) rfl ⟨Nat.le_of_ble_eq_true rfl, Nat.le_of_ble_eq_true rfl⟩ rfl rfl (Nat.le_of_ble_eq_true rfl) ⟨Nat.le_of_ble_eq_true rfl, Nat.le_of_ble_eq_true rfl⟩ dX8_couldDash_33 (fun H locs Y => ?_)
        refine lv_sipush (v := (-10006 : Int32)) hx hb dX8_couldDash_36 (by decide) ?_
        refine lv_icmp_eq (tgt := 56) hx hb dX8_couldDash_39 (by decide) (fun c_5 => ?_) (fun c_5 => ?_)
        · have hrun := o_t hrun c_5
          refine lv_iconst (v := (0 : Int32)) hx hb dX8_couldDash_56 (by decide) ?_
          refine lv_ior hx hb dX8_couldDash_57 ?_
          refine lv_istore_n (lv' := [(1, .int (a1 ||| (0 : Int32))), (0, .ref (h 0)), (2, .int a2)]) hx hb dX8_couldDash_58 rfl hl (Nat.le_of_ble_eq_true rfl) rfl (fun ls hl => ?_)
          refine lv_iinc (v := (a2 + (1 : Int32))) (lv' := [(2, .int (a2 + (1 : Int32))), (1, .int (a1 ||| (0 : Int32))), (0, .ref (h 0))]) hx hb dX8_couldDash_59 hl (k := 2) rfl (by rfl) (Nat.le_of_ble_eq_true rfl) rfl (fun ls hl => ?_)
          refine lv_goto (tgt := 19) hx hb dX8_couldDash_62 (by decide) ?_
          exact ih (a1 ||| (0 : Int32)) (a2 + (1 : Int32)) hrun _ _ _ Y (lv_sub hl [2, 1, 0] rfl)
        · have hrun := o_f hrun c_5
          refine lv_aload_n hx hb dX8_couldDash_42 rfl (lv_at hl 0 rfl) ?_
          refine lv_iload_n hx hb dX8_couldDash_43 rfl (lv_at hl 2 rfl) ?_
          obtain ⟨r_6, e_7, hrun⟩ := o_bh hrun
          refine cf_v (As := [.int a2]) (rest := [.int a1]) S hK hA hZ Y hl.1 (mX8_isFaster l D cI cC h σ a2 r_6 e_7) kX8_118 (T := TX8) (N := 11) rfl (q0 := 0) rfl ⟨Nat.le_of_ble_eq_true rfl, Nat.le_of_ble_eq_true rfl⟩ rfl rfl (Nat.le_of_ble_eq_true rfl) ⟨Nat.le_of_ble_eq_true rfl, Nat.le_of_ble_eq_true rfl⟩ dX8_couldDash_44 (fun H locs Y => ?_)
          refine lv_if_eq (tgt := 56) hx hb dX8_couldDash_47 (by decide) (fun c_8 => ?_) (fun c_8 => ?_)
          · have hrun := o_t hrun c_8
            refine lv_iconst (v := (0 : Int32)) hx hb dX8_couldDash_56 (by decide) ?_
            refine lv_ior hx hb dX8_couldDash_57 ?_
            refine lv_istore_n (lv' := [(1, .int (a1 ||| (0 : Int32))), (0, .ref (h 0)), (2, .int a2)]) hx hb dX8_couldDash_58 rfl hl (Nat.le_of_ble_eq_true rfl) rfl (fun ls hl => ?_)
            refine lv_iinc (v := (a2 + (1 : Int32))) (lv' := [(2, .int (a2 + (1 : Int32))), (1, .int (a1 ||| (0 : Int32))), (0, .ref (h 0))]) hx hb dX8_couldDash_59 hl (k := 2) rfl (by rfl) (Nat.le_of_ble_eq_true rfl) rfl (fun ls hl => ?_)
            refine lv_goto (tgt := 19) hx hb dX8_couldDash_62 (by decide) ?_
            exact ih (a1 ||| (0 : Int32)) (a2 + (1 : Int32)) hrun _ _ _ Y (lv_sub hl [2, 1, 0] rfl)
          · have hrun := o_f hrun c_8
            refine lv_iconst (v := (1 : Int32)) hx hb dX8_couldDash_50 (by decide) ?_
            refine lv_iload_n hx hb dX8_couldDash_51 rfl (lv_at hl 2 rfl) ?_
            refine lv_ishl hx hb dX8_couldDash_52 ?_
            refine lv_goto (tgt := 57) hx hb dX8_couldDash_53 (by decide) ?_
            refine lv_ior hx hb dX8_couldDash_57 ?_
            refine lv_istore_n (lv' := [(1, .int (a1 ||| ((1 : Int32) <<< (a2 &&& 31)))), (0, .ref (h 0)), (2, .int a2)]) hx hb dX8_couldDash_58 rfl hl (Nat.le_of_ble_eq_true rfl) rfl (fun ls hl => ?_)
            refine lv_iinc (v := (a2 + (1 : Int32))) (lv' := [(2, .int (a2 + (1 : Int32))), (1, .int (a1 ||| ((1 : Int32) <<< (a2 &&& 31)))), (0, .ref (h 0))]) hx hb dX8_couldDash_59 hl (k := 2) rfl (by rfl) (Nat.le_of_ble_eq_true rfl) rfl (fun ls hl => ?_)
            refine lv_goto (tgt := 19) hx hb dX8_couldDash_62 (by decide) ?_
            exact ih (a1 ||| ((1 : Int32) <<< (a2 &&& 31))) (a2 + (1 : Int32)) hrun _ _ _ Y (lv_sub hl [2, 1, 0] rfl)
  unfold fX8_couldDash at hrun
  refine lv_aload_n hx hb dX8_couldDash_0 rfl (lv_at hl 0 rfl) ?_
  refine ig S hK Y fX8_7 0 rfl (v := .ref (h 1)) rfl dX8_couldDash_1 ?_
  refine lv_bipush (v := (6 : Int32)) hx hb dX8_couldDash_4 (by decide) ?_
  refine ia S hK Y 1 0 (f := (σ 1)) rfl rfl (show ¬ ((6 : Int32) < 0 ∨ 108 ≤ ((6 : Int32)).toNatClampNeg) by decide) dX8_couldDash_6 ?_
  refine lv_iconst (v := (2 : Int32)) hx hb dX8_couldDash_7 (by decide) ?_
  refine lv_icmp_eq (tgt := 15) hx hb dX8_couldDash_8 (by decide) (fun c_1 => ?_) (fun c_1 => ?_)
  · have hrun := o_t hrun c_1
    refine lv_iconst (v := (0 : Int32)) hx hb dX8_couldDash_15 (by decide) ?_
    refine lv_istore_n (lv' := [(1, .int (0 : Int32)), (0, .ref (h 0))]) hx hb dX8_couldDash_16 rfl hl (Nat.le_of_ble_eq_true rfl) rfl (fun ls hl => ?_)
    refine lv_iconst (v := (0 : Int32)) hx hb dX8_couldDash_17 (by decide) ?_
    refine lv_istore_n (lv' := [(2, .int (0 : Int32)), (1, .int (0 : Int32)), (0, .ref (h 0))]) hx hb dX8_couldDash_18 rfl hl (Nat.le_of_ble_eq_true rfl) rfl (fun ls hl => ?_)
    exact lp19 70 (0 : Int32) (0 : Int32) hrun _ _ _ Y (lv_sub hl [2, 1, 0] rfl)
  · have hrun := o_f hrun c_1
    refine lv_sipush (v := (-10003 : Int32)) hx hb dX8_couldDash_11 (by decide) ?_
    cases hrun
    exact me_ri S hK Y hr hlk rfl dX8_couldDash_14
def fX8_isBetter (p1 p2 : Int32) (σ : sg_T) : Option (Int32) := ((fX8_distance p1 (0 : Int32)).bind fun r_1 => ((fX8_distance p2 (0 : Int32)).bind fun r_3 => (if r_1 = r_3 then ((fX8_ofSpot p1 (0 : Int32) σ).bind fun r_6 => ((fX8_ofSpot p2 (0 : Int32) σ).bind fun r_8 => (if r_6 = r_8 then ((fX8_hidersAt p1 σ).bind fun r_11 => ((fX8_bits r_11).bind fun r_13 => ((fX8_hidersAt p2 σ).bind fun r_15 => ((fX8_bits r_15).bind fun r_17 => (if r_17 ≤ r_13 then (some (0 : Int32)) else (some (1 : Int32))))))) else ((fX8_ofSpot p1 (0 : Int32) σ).bind fun r_20 => ((fX8_ofSpot p2 (0 : Int32) σ).bind fun r_22 => (if r_22 ≤ r_20 then (some (0 : Int32)) else (some (1 : Int32)))))))) else ((fX8_distance p1 (0 : Int32)).bind fun r_25 => ((fX8_distance p2 (0 : Int32)).bind fun r_27 => (if r_25 ≤ r_27 then (some (0 : Int32)) else (some (1 : Int32))))))))
set_option maxRecDepth 100000 in
set_option maxHeartbeats 4000000 in
theorem mX8_isBetter (l : Launch) (D : va_G) (cI cC : ClassId) (h : Nat → Nat) (σ : sg_T) (p1 p2 : Int32) (r : Int32) (hrun : fX8_isBetter p1 p2 σ = some r) : me_I l D (tM cI cC) yX8_isBetter cX8_isBetter 3 .boolean 2 45 (wM cI cC h σ) [.ref (h 0), .int p1, .int p2] r (wM cI cC h σ) := by
  refine me_ofI (plainFor_of_name (by decide)) (Nat.le_of_ble_eq_true rfl) ?_
  intro p e s m args below meth c A ls S hK Y hA hl hr hlk hZ
  have hx := S.1
  have hb := S.2.1
  have hl : lv_has ls 3 [(0, .ref (h 0)), (1, .int p1), (2, .int p2)] := hl
  unfold fX8_isBetter at hrun
  refine lv_iload_n hx hb dX8_isBetter_0 rfl (lv_at hl 1 rfl) ?_
  refine lv_iconst (v := (0 : Int32)) hx hb dX8_isBetter_1 (by decide) ?_
  obtain ⟨r_1, e_2, hrun⟩ := o_bh hrun
  refine cp_s (As := [.int p1, .int (0 : Int32)]) (rest := []) S hK hA hZ Y hl.1 (mX8_distance l D p1 (0 : Int32) r_1 e_2) kX8_56 ⟨Nat.le_of_ble_eq_true rfl, Nat.le_of_ble_eq_true rfl⟩ rfl rfl (Nat.le_of_ble_eq_true rfl) ⟨Nat.le_of_ble_eq_true rfl, Nat.le_of_ble_eq_true rfl⟩ dX8_isBetter_2 (fun H locs Y => ?_)
  refine lv_iload_n hx hb dX8_isBetter_5 rfl (lv_at hl 2 rfl) ?_
  refine lv_iconst (v := (0 : Int32)) hx hb dX8_isBetter_6 (by decide) ?_
  obtain ⟨r_3, e_4, hrun⟩ := o_bh hrun
  refine cp_s (As := [.int p2, .int (0 : Int32)]) (rest := [.int r_1]) S hK hA hZ Y hl.1 (mX8_distance l D p2 (0 : Int32) r_3 e_4) kX8_56 ⟨Nat.le_of_ble_eq_true rfl, Nat.le_of_ble_eq_true rfl⟩ rfl rfl (Nat.le_of_ble_eq_true rfl) ⟨Nat.le_of_ble_eq_true rfl, Nat.le_of_ble_eq_true rfl⟩ dX8_isBetter_7 (fun H locs Y => ?_)
  refine lv_icmp_eq (tgt := 32) hx hb dX8_isBetter_10 (by decide) (fun c_5 => ?_) (fun c_5 => ?_)
  · have hrun := o_t hrun c_5
    refine lv_aload_n hx hb dX8_isBetter_32 rfl (lv_at hl 0 rfl) ?_
    refine lv_iload_n hx hb dX8_isBetter_33 rfl (lv_at hl 1 rfl) ?_
    refine lv_iconst (v := (0 : Int32)) hx hb dX8_isBetter_34 (by decide) ?_
    obtain ⟨r_6, e_7, hrun⟩ := o_bh hrun
    refine cf_v (As := [.int p1, .int (0 : Int32)]) (rest := []) S hK hA hZ Y hl.1 (mX8_ofSpot l D cI cC h σ p1 (0 : Int32) r_6 e_7) kX8_30 (T := TX8) (N := 11) rfl (q0 := 0) rfl ⟨Nat.le_of_ble_eq_true rfl, Nat.le_of_ble_eq_true rfl⟩ rfl rfl (Nat.le_of_ble_eq_true rfl) ⟨Nat.le_of_ble_eq_true rfl, Nat.le_of_ble_eq_true rfl⟩ dX8_isBetter_35 (fun H locs Y => ?_)
    refine lv_aload_n hx hb dX8_isBetter_38 rfl (lv_at hl 0 rfl) ?_
    refine lv_iload_n hx hb dX8_isBetter_39 rfl (lv_at hl 2 rfl) ?_
    refine lv_iconst (v := (0 : Int32)) hx hb dX8_isBetter_40 (by decide) ?_
    obtain ⟨r_8, e_9, hrun⟩ := o_bh hrun
    refine cf_v (As := [.int p2, .int (0 : Int32)]) (rest := [.int r_6]) S hK hA hZ Y hl.1 (mX8_ofSpot l D cI cC h σ p2 (0 : Int32) r_8 e_9) kX8_30 (T := TX8) (N := 11) rfl (q0 := 0) rfl ⟨Nat.le_of_ble_eq_true rfl, Nat.le_of_ble_eq_true rfl⟩ rfl rfl (Nat.le_of_ble_eq_true rfl) ⟨Nat.le_of_ble_eq_true rfl, Nat.le_of_ble_eq_true rfl⟩ dX8_isBetter_41 (fun H locs Y => ?_)
    refine lv_icmp_eq (tgt := 68) hx hb dX8_isBetter_44 (by decide) (fun c_10 => ?_) (fun c_10 => ?_)
    · have hrun := o_t hrun c_10
      refine lv_aload_n hx hb dX8_isBetter_68 rfl (lv_at hl 0 rfl) ?_
      refine lv_iload_n hx hb dX8_isBetter_69 rfl (lv_at hl 1 rfl) ?_
      obtain ⟨r_11, e_12, hrun⟩ := o_bh hrun
      refine cf_v (As := [.int p1]) (rest := []) S hK hA hZ Y hl.1 (mX8_hidersAt l D cI cC h σ p1 r_11 e_12) kX8_66 (T := TX8) (N := 11) rfl (q0 := 0) rfl ⟨Nat.le_of_ble_eq_true rfl, Nat.le_of_ble_eq_true rfl⟩ rfl rfl (Nat.le_of_ble_eq_true rfl) ⟨Nat.le_of_ble_eq_true rfl, Nat.le_of_ble_eq_true rfl⟩ dX8_isBetter_70 (fun H locs Y => ?_)
      obtain ⟨r_13, e_14, hrun⟩ := o_bh hrun
      refine cp_s (As := [.int r_11]) (rest := []) S hK hA hZ Y hl.1 (mX8_bits l D r_11 r_13 e_14) kX8_70 ⟨Nat.le_of_ble_eq_true rfl, Nat.le_of_ble_eq_true rfl⟩ rfl rfl (Nat.le_of_ble_eq_true rfl) ⟨Nat.le_of_ble_eq_true rfl, Nat.le_of_ble_eq_true rfl⟩ dX8_isBetter_73 (fun H locs Y => ?_)
      refine lv_aload_n hx hb dX8_isBetter_76 rfl (lv_at hl 0 rfl) ?_
      refine lv_iload_n hx hb dX8_isBetter_77 rfl (lv_at hl 2 rfl) ?_
      obtain ⟨r_15, e_16, hrun⟩ := o_bh hrun
      refine cf_v (As := [.int p2]) (rest := [.int r_13]) S hK hA hZ Y hl.1 (mX8_hidersAt l D cI cC h σ p2 r_15 e_16) kX8_66 (T := TX8) (N := 11) rfl (q0 := 0) rfl ⟨Nat.le_of_ble_eq_true rfl, Nat.le_of_ble_eq_true rfl⟩ rfl rfl (Nat.le_of_ble_eq_true rfl) ⟨Nat.le_of_ble_eq_true rfl, Nat.le_of_ble_eq_true rfl⟩ dX8_isBetter_78 (fun H locs Y => ?_)
      obtain ⟨r_17, e_18, hrun⟩ := o_bh hrun
      refine cp_s (As := [.int r_15]) (rest := [.int r_13]) S hK hA hZ Y hl.1 (mX8_bits l D r_15 r_17 e_18) kX8_70 ⟨Nat.le_of_ble_eq_true rfl, Nat.le_of_ble_eq_true rfl⟩ rfl rfl (Nat.le_of_ble_eq_true rfl) ⟨Nat.le_of_ble_eq_true rfl, Nat.le_of_ble_eq_true rfl⟩ dX8_isBetter_81 (fun H locs Y => ?_)
      refine lv_icmp_ge (tgt := 91) hx hb dX8_isBetter_84 (by decide) (fun c_19 => ?_) (fun c_19 => ?_)
      · have hrun := o_t hrun c_19
        refine lv_iconst (v := (0 : Int32)) hx hb dX8_isBetter_91 (by decide) ?_
        cases hrun
        exact me_ri S hK Y hr hlk rfl dX8_isBetter_92
      · have hrun := o_f hrun c_19
        refine lv_iconst (v := (1 : Int32)) hx hb dX8_isBetter_87 (by decide) ?_
        refine lv_goto (tgt := 92) hx hb dX8_isBetter_88 (by decide) ?_
        cases hrun
        exact me_ri S hK Y hr hlk rfl dX8_isBetter_92
    · have hrun := o_f hrun c_10
      refine lv_aload_n hx hb dX8_isBetter_47 rfl (lv_at hl 0 rfl) ?_
      refine lv_iload_n hx hb dX8_isBetter_48 rfl (lv_at hl 1 rfl) ?_
      refine lv_iconst (v := (0 : Int32)) hx hb dX8_isBetter_49 (by decide) ?_
      obtain ⟨r_20, e_21, hrun⟩ := o_bh hrun
      refine cf_v (As := [.int p1, .int (0 : Int32)]) (rest := []) S hK hA hZ Y hl.1 (mX8_ofSpot l D cI cC h σ p1 (0 : Int32) r_20 e_21) kX8_30 (T := TX8) (N := 11) rfl (q0 := 0) rfl ⟨Nat.le_of_ble_eq_true rfl, Nat.le_of_ble_eq_true rfl⟩ rfl rfl (Nat.le_of_ble_eq_true rfl) ⟨Nat.le_of_ble_eq_true rfl, Nat.le_of_ble_eq_true rfl⟩ dX8_isBetter_50 (fun H locs Y => ?_)
      refine lv_aload_n hx hb dX8_isBetter_53 rfl (lv_at hl 0 rfl) ?_
      refine lv_iload_n hx hb dX8_isBetter_54 rfl (lv_at hl 2 rfl) ?_
      refine lv_iconst (v := (0 : Int32)) hx hb dX8_isBetter_55 (by decide) ?_
      obtain ⟨r_22, e_23, hrun⟩ := o_bh hrun
      refine cf_v (As := [.int p2, .int (0 : Int32)]) (rest := [.int r_20]) S hK hA hZ Y hl.1 (mX8_ofSpot l D cI cC h σ p2 (0 : Int32) r_22 e_23) kX8_30 (T := TX8) (N := 11) rfl (q0 := 0) rfl ⟨Nat.le_of_ble_eq_true rfl, Nat.le_of_ble_eq_true rfl⟩ rfl rfl (Nat.le_of_ble_eq_true rfl) ⟨Nat.le_of_ble_eq_true rfl, Nat.le_of_ble_eq_true rfl⟩ dX8_isBetter_56 (fun H locs Y => ?_)
      refine lv_icmp_ge (tgt := 66) hx hb dX8_isBetter_59 (by decide) (fun c_24 => ?_) (fun c_24 => ?_)
      · have hrun := o_t hrun c_24
        refine lv_iconst (v := (0 : Int32)) hx hb dX8_isBetter_66 (by decide) ?_
        cases hrun
        exact me_ri S hK Y hr hlk rfl dX8_isBetter_67
      · have hrun := o_f hrun c_24
        refine lv_iconst (v := (1 : Int32)) hx hb dX8_isBetter_62 (by decide) ?_
        refine lv_goto (tgt := 67) hx hb dX8_isBetter_63 (by decide) ?_
        cases hrun
        exact me_ri S hK Y hr hlk rfl dX8_isBetter_67
  · have hrun := o_f hrun c_5
    refine lv_iload_n hx hb dX8_isBetter_13 rfl (lv_at hl 1 rfl) ?_
    refine lv_iconst (v := (0 : Int32)) hx hb dX8_isBetter_14 (by decide) ?_
    obtain ⟨r_25, e_26, hrun⟩ := o_bh hrun
    refine cp_s (As := [.int p1, .int (0 : Int32)]) (rest := []) S hK hA hZ Y hl.1 (mX8_distance l D p1 (0 : Int32) r_25 e_26) kX8_56 ⟨Nat.le_of_ble_eq_true rfl, Nat.le_of_ble_eq_true rfl⟩ rfl rfl (Nat.le_of_ble_eq_true rfl) ⟨Nat.le_of_ble_eq_true rfl, Nat.le_of_ble_eq_true rfl⟩ dX8_isBetter_15 (fun H locs Y => ?_)
    refine lv_iload_n hx hb dX8_isBetter_18 rfl (lv_at hl 2 rfl) ?_
    refine lv_iconst (v := (0 : Int32)) hx hb dX8_isBetter_19 (by decide) ?_
    obtain ⟨r_27, e_28, hrun⟩ := o_bh hrun
    refine cp_s (As := [.int p2, .int (0 : Int32)]) (rest := [.int r_25]) S hK hA hZ Y hl.1 (mX8_distance l D p2 (0 : Int32) r_27 e_28) kX8_56 ⟨Nat.le_of_ble_eq_true rfl, Nat.le_of_ble_eq_true rfl⟩ rfl rfl (Nat.le_of_ble_eq_true rfl) ⟨Nat.le_of_ble_eq_true rfl, Nat.le_of_ble_eq_true rfl⟩ dX8_isBetter_20 (fun H locs Y => ?_)
    refine lv_icmp_le (tgt := 30) hx hb dX8_isBetter_23 (by decide) (fun c_29 => ?_) (fun c_29 => ?_)
    · have hrun := o_t hrun c_29
      refine lv_iconst (v := (0 : Int32)) hx hb dX8_isBetter_30 (by decide) ?_
      cases hrun
      exact me_ri S hK Y hr hlk rfl dX8_isBetter_31
    · have hrun := o_f hrun c_29
      refine lv_iconst (v := (1 : Int32)) hx hb dX8_isBetter_26 (by decide) ?_
      refine lv_goto (tgt := 31) hx hb dX8_isBetter_27 (by decide) ?_
      cases hrun
      exact me_ri S hK Y hr hlk rfl dX8_isBetter_31
def lX8_bestSpot_21 : Nat → Int32 → Int32 → (sg_T) → Option (Int32)
  | 0, _, _, _ => none
  | n + 1, a1, a2, σ => (if (16 : Int32) ≤ a2 then (some a1) else ((fX8_isOpen a2 σ).bind fun r_3 => (if r_3 = 0 then (lX8_bestSpot_21 n a1 (a2 + (1 : Int32)) σ) else (if a1 = (-10006 : Int32) then (lX8_bestSpot_21 n a2 (a2 + (1 : Int32)) σ) else ((fX8_isBetter a2 a1 σ).bind fun r_7 => (if r_7 = 0 then (lX8_bestSpot_21 n a1 (a2 + (1 : Int32)) σ) else (lX8_bestSpot_21 n a2 (a2 + (1 : Int32)) σ)))))))
def fX8_bestSpot (σ : sg_T) : Option (Int32) := (if ((σ 1) ((6 : Int32)).toNatClampNeg) = (1 : Int32) then (lX8_bestSpot_21 70 (-10006 : Int32) (1 : Int32) σ) else (some (-10003 : Int32)))
set_option maxRecDepth 100000 in
set_option maxHeartbeats 4000000 in
theorem mX8_bestSpot (l : Launch) (D : va_G) (cI cC : ClassId) (h : Nat → Nat) (σ : sg_T) (r : Int32) (hrun : fX8_bestSpot σ = some r) : me_I l D (tM cI cC) yX8_bestSpot cX8_bestSpot 3 .int 4 85 (wM cI cC h σ) [.ref (h 0)] r (wM cI cC h σ) := by
  refine me_ofI (plainFor_of_name (by decide)) (Nat.le_of_ble_eq_true rfl) ?_
  intro p e s m args below meth c A ls S hK Y hA hl hr hlk hZ
  have hx := S.1
  have hb := S.2.1
  have hl : lv_has ls 3 [(0, .ref (h 0))] := hl
  have lp21 : ∀ (n : Nat) (a1 : Int32) (a2 : Int32), lX8_bestSpot_21 n a1 a2 σ = some r → ∀ (H : Heap) (locs : List Loc) (ls : Array Slot), dy_ D A s (wM cI cC h σ) H locs → lv_has ls 3 [(0, .ref (h 0)), (1, .int a1), (2, .int a2)] → W p l e (rm_ 4 85) s m args below meth c H locs 0 0 (MQ below (me_Qi D (tM cI cC) A r (wM cI cC h σ)) args s 0 0 A) (F0 m 21 ls []) := by
    intro n
    induction n with
    | zero => intro a1 a2 hrun; cases hrun
    | succ n ih =>
      intro a1 a2 hrun H locs ls Y hl
      unfold lX8_bestSpot_21 at hrun
      refine lv_iload_n hx hb dX8_bestSpot_21 rfl (lv_at hl 2 rfl) ?_
      refine lv_bipush (v := (16 : Int32)) hx hb dX8_bestSpot_22 (by decide) ?_
      refine lv_icmp_ge (tgt := 63) hx hb dX8_bestSpot_24 (by decide) (fun c_2 => ?_) (fun c_2 => ?_)
      · have hrun := o_t hrun c_2
        refine lv_iload_n hx hb dX8_bestSpot_63 rfl (lv_at hl 1 rfl) ?_
        cases hrun
        exact me_ri S hK Y hr hlk rfl dX8_bestSpot_64
      · have hrun := o_f hrun c_2
        refine lv_aload_n hx hb dX8_bestSpot_27 rfl (lv_at hl 0 rfl) ?_
        refine lv_iload_n hx hb dX8_bestSpot_28 rfl (lv_at hl 2 rfl) ?_
        obtain ⟨r_3, e_4, hrun⟩ := o_bh hrun
        refine cf_v (As := [.int a2]) (rest := []) S hK hA hZ Y hl.1 (mX8_isOpen l D cI cC h σ a2 r_3 e_4) kX8_80 (T := TX8) (N := 11) rfl (q0 := 0) rfl ⟨Nat.le_of_ble_eq_true rfl, Nat.le_of_ble_eq_true rfl⟩ rfl rfl (Nat.le_of_ble_eq_true rfl) ⟨Nat.le_of_ble_eq_true rfl, Nat.le_of_ble_eq_true rfl⟩ dX8_bestSpot_29 (fun H locs Y => ?_)
        refine lv_if_eq (tgt := 55) hx hb dX8_bestSpot_32 (by decide) (fun c_5 => ?_) (fun c_5 => ?_)
        · have hrun := o_t hrun c_5
          refine lv_iload_n hx hb dX8_bestSpot_55 rfl (lv_at hl 1 rfl) ?_
          refine lv_istore_n (lv' := [(1, .int a1), (0, .ref (h 0)), (2, .int a2)]) hx hb dX8_bestSpot_56 rfl hl (Nat.le_of_ble_eq_true rfl) rfl (fun ls hl => ?_)
          refine lv_iinc (v := (a2 + (1 : Int32))) (lv' := [(2, .int (a2 + (1 : Int32))), (1, .int a1), (0, .ref (h 0))]) hx hb dX8_bestSpot_57 hl (k := 2) rfl (by rfl) (Nat.le_of_ble_eq_true rfl) rfl (fun ls hl => ?_)
          refine lv_goto (tgt := 21) hx hb dX8_bestSpot_60 (by decide) ?_
          exact ih a1 (a2 + (1 : Int32)) hrun _ _ _ Y (lv_sub hl [2, 1, 0] rfl)
        · have hrun := o_f hrun c_5
          refine lv_iload_n hx hb dX8_bestSpot_35 rfl (lv_at hl 1 rfl) ?_
          refine lv_sipush (v := (-10006 : Int32)) hx hb dX8_bestSpot_36 (by decide) ?_
          refine lv_icmp_eq (tgt := 51) hx hb dX8_bestSpot_39 (by decide) (fun c_6 => ?_) (fun c_6 => ?_)
          · have hrun := o_t hrun c_6
            refine lv_iload_n hx hb dX8_bestSpot_51 rfl (lv_at hl 2 rfl) ?_
            refine lv_goto (tgt := 56) hx hb dX8_bestSpot_52 (by decide) ?_
            refine lv_istore_n (lv' := [(1, .int a2), (0, .ref (h 0)), (2, .int a2)]) hx hb dX8_bestSpot_56 rfl hl (Nat.le_of_ble_eq_true rfl) rfl (fun ls hl => ?_)
            refine lv_iinc (v := (a2 + (1 : Int32))) (lv' := [(2, .int (a2 + (1 : Int32))), (1, .int a2), (0, .ref (h 0))]) hx hb dX8_bestSpot_57 hl (k := 2) rfl (by rfl) (Nat.le_of_ble_eq_true rfl) rfl (fun ls hl => ?_)
            refine lv_goto (tgt := 21) hx hb dX8_bestSpot_60 (by decide) ?_
            exact ih a2 (a2 + (1 : Int32)) hrun _ _ _ Y (lv_sub hl [2, 1, 0] rfl)
          · have hrun := o_f hrun c_6
            refine lv_aload_n hx hb dX8_bestSpot_42 rfl (lv_at hl 0 rfl) ?_
            refine lv_iload_n hx hb dX8_bestSpot_43 rfl (lv_at hl 2 rfl) ?_
            refine lv_iload_n hx hb dX8_bestSpot_44 rfl (lv_at hl 1 rfl) ?_
            obtain ⟨r_7, e_8, hrun⟩ := o_bh hrun
            refine cf_v (As := [.int a2, .int a1]) (rest := []) S hK hA hZ Y hl.1 (mX8_isBetter l D cI cC h σ a2 a1 r_7 e_8) kX8_139 (T := TX8) (N := 11) rfl (q0 := 0) rfl ⟨Nat.le_of_ble_eq_true rfl, Nat.le_of_ble_eq_true rfl⟩ rfl rfl (Nat.le_of_ble_eq_true rfl) ⟨Nat.le_of_ble_eq_true rfl, Nat.le_of_ble_eq_true rfl⟩ dX8_bestSpot_45 (fun H locs Y => ?_)
            refine lv_if_eq (tgt := 55) hx hb dX8_bestSpot_48 (by decide) (fun c_9 => ?_) (fun c_9 => ?_)
            · have hrun := o_t hrun c_9
              refine lv_iload_n hx hb dX8_bestSpot_55 rfl (lv_at hl 1 rfl) ?_
              refine lv_istore_n (lv' := [(1, .int a1), (0, .ref (h 0)), (2, .int a2)]) hx hb dX8_bestSpot_56 rfl hl (Nat.le_of_ble_eq_true rfl) rfl (fun ls hl => ?_)
              refine lv_iinc (v := (a2 + (1 : Int32))) (lv' := [(2, .int (a2 + (1 : Int32))), (1, .int a1), (0, .ref (h 0))]) hx hb dX8_bestSpot_57 hl (k := 2) rfl (by rfl) (Nat.le_of_ble_eq_true rfl) rfl (fun ls hl => ?_)
              refine lv_goto (tgt := 21) hx hb dX8_bestSpot_60 (by decide) ?_
              exact ih a1 (a2 + (1 : Int32)) hrun _ _ _ Y (lv_sub hl [2, 1, 0] rfl)
            · have hrun := o_f hrun c_9
              refine lv_iload_n hx hb dX8_bestSpot_51 rfl (lv_at hl 2 rfl) ?_
              refine lv_goto (tgt := 56) hx hb dX8_bestSpot_52 (by decide) ?_
              refine lv_istore_n (lv' := [(1, .int a2), (0, .ref (h 0)), (2, .int a2)]) hx hb dX8_bestSpot_56 rfl hl (Nat.le_of_ble_eq_true rfl) rfl (fun ls hl => ?_)
              refine lv_iinc (v := (a2 + (1 : Int32))) (lv' := [(2, .int (a2 + (1 : Int32))), (1, .int a2), (0, .ref (h 0))]) hx hb dX8_bestSpot_57 hl (k := 2) rfl (by rfl) (Nat.le_of_ble_eq_true rfl) rfl (fun ls hl => ?_)
              refine lv_goto (tgt := 21) hx hb dX8_bestSpot_60 (by decide) ?_
              exact ih a2 (a2 + (1 : Int32)) hrun _ _ _ Y (lv_sub hl [2, 1, 0] rfl)
  unfold fX8_bestSpot at hrun
  refine lv_aload_n hx hb dX8_bestSpot_0 rfl (lv_at hl 0 rfl) ?_
  refine ig S hK Y fX8_7 0 rfl (v := .ref (h 1)) rfl dX8_bestSpot_1 ?_
  refine lv_bipush (v := (6 : Int32)) hx hb dX8_bestSpot_4 (by decide) ?_
  refine ia S hK Y 1 0 (f := (σ 1)) rfl rfl (show ¬ ((6 : Int32) < 0 ∨ 108 ≤ ((6 : Int32)).toNatClampNeg) by decide) dX8_bestSpot_6 ?_
  refine lv_iconst (v := (1 : Int32)) hx hb dX8_bestSpot_7 (by decide) ?_
  refine lv_icmp_eq (tgt := 15) hx hb dX8_bestSpot_8 (by decide) (fun c_1 => ?_) (fun c_1 => ?_)
  · have hrun := o_t hrun c_1
    refine lv_sipush (v := (-10006 : Int32)) hx hb dX8_bestSpot_15 (by decide) ?_
    refine lv_istore_n (lv' := [(1, .int (-10006 : Int32)), (0, .ref (h 0))]) hx hb dX8_bestSpot_18 rfl hl (Nat.le_of_ble_eq_true rfl) rfl (fun ls hl => ?_)
    refine lv_iconst (v := (1 : Int32)) hx hb dX8_bestSpot_19 (by decide) ?_
    refine lv_istore_n (lv' := [(2, .int (1 : Int32)), (1, .int (-10006 : Int32)), (0, .ref (h 0))]) hx hb dX8_bestSpot_20 rfl hl (Nat.le_of_ble_eq_true rfl) rfl (fun ls hl => ?_)
    exact lp21 70 (-10006 : Int32) (1 : Int32) hrun _ _ _ Y (lv_sub hl [2, 1, 0] rfl)
  · have hrun := o_f hrun c_1
    refine lv_sipush (v := (-10003 : Int32)) hx hb dX8_bestSpot_11 (by decide) ?_
    cases hrun
    exact me_ri S hK Y hr hlk rfl dX8_bestSpot_14
def lX8_seesAll_40 : Nat → Int32 → Int32 → Int32 → Int32 → Int32 → Int32 → (sg_T) → Option (Int32 × Int32 × Int32 × Int32 × Int32 × Int32)
  | 0, _, _, _, _, _, _, _ => none
  | n + 1, a1, a2, a3, a4, a5, a6, σ => (if a1 < a6 then (some (a1, a2, a3, a4, a5, a6)) else (if a5 = 0 then ((fX8_of a4 (5 : Int32) σ).bind fun r_8 => ((fX8_distance r_8 (((((σ 1) ((9 : Int32)).toNatClampNeg) + a6) + (32 : Int32)) - ((((σ 1) ((9 : Int32)).toNatClampNeg) + a6) + (32 : Int32)) / (16 : Int32) * (16 : Int32))).bind fun r_10 => (if ((σ 1) ((0 : Int32)).toNatClampNeg) < r_10 then (lX8_seesAll_40 n a1 a2 a3 a4 (0 : Int32) (a6 + (1 : Int32)) σ) else (lX8_seesAll_40 n a1 a2 a3 a4 (1 : Int32) (a6 + (1 : Int32)) σ)))) else (lX8_seesAll_40 n a1 a2 a3 a4 (1 : Int32) (a6 + (1 : Int32)) σ)))
def lX8_seesAll_5 : Nat → Int32 → Int32 → Int32 → Int32 → (sg_T) → Option (Int32)
  | 0, _, _, _, _, _ => none
  | n + 1, a1, a2, a3, a4, σ => (if ((σ 1) ((4 : Int32)).toNatClampNeg) ≤ a4 then (o_k (a3 = 0 ∨ a3 = 1) (some a3)) else ((fX8_of a4 (5 : Int32) σ).bind fun r_3 => (if r_3 = (-10006 : Int32) then ((lX8_seesAll_40 70 a1 a2 a3 a4 (1 : Int32) (-a2) σ).bind fun q_17 => (if q_17.2.2.1 = 0 then (lX8_seesAll_5 n q_17.1 q_17.2.1 (0 : Int32) (q_17.2.2.2.1 + (1 : Int32)) σ) else (if q_17.2.2.2.2.1 = 0 then (lX8_seesAll_5 n q_17.1 q_17.2.1 (0 : Int32) (q_17.2.2.2.1 + (1 : Int32)) σ) else (lX8_seesAll_5 n q_17.1 q_17.2.1 (1 : Int32) (q_17.2.2.2.1 + (1 : Int32)) σ)))) else ((lX8_seesAll_40 70 a1 a2 a3 a4 (0 : Int32) (-a2) σ).bind fun q_13 => (if q_13.2.2.1 = 0 then (lX8_seesAll_5 n q_13.1 q_13.2.1 (0 : Int32) (q_13.2.2.2.1 + (1 : Int32)) σ) else (if q_13.2.2.2.2.1 = 0 then (lX8_seesAll_5 n q_13.1 q_13.2.1 (0 : Int32) (q_13.2.2.2.1 + (1 : Int32)) σ) else (lX8_seesAll_5 n q_13.1 q_13.2.1 (1 : Int32) (q_13.2.2.2.1 + (1 : Int32)) σ)))))))
def fX8_seesAll (p1 p2 : Int32) (σ : sg_T) : Option (Int32) := (lX8_seesAll_5 70 p1 p2 (1 : Int32) (0 : Int32) σ)
set_option maxRecDepth 100000 in
set_option maxHeartbeats 4000000 in
theorem mX8_seesAll (l : Launch) (D : va_G) (cI cC : ClassId) (h : Nat → Nat) (σ : sg_T) (p1 p2 : Int32) (r : Int32) (hrun : fX8_seesAll p1 p2 σ = some r) : me_I l D (tM cI cC) yX8_seesAll cX8_seesAll 7 .boolean 1 22 (wM cI cC h σ) [.ref (h 0), .int p1, .int p2] r (wM cI cC h σ) := by
  refine me_ofI (plainFor_of_name (by decide)) (Nat.le_of_ble_eq_true rfl) ?_
  intro p e s m args below meth c A ls S hK Y hA hl hr hlk hZ
  have hx := S.1
  have hb := S.2.1
  have hl : lv_has ls 7 [(0, .ref (h 0)), (1, .int p1), (2, .int p2)] := hl
  have lp40 : ∀ (n : Nat) (a1 : Int32) (a2 : Int32) (a3 : Int32) (a4 : Int32) (a5 : Int32) (a6 : Int32) (q_x : Int32 × Int32 × Int32 × Int32 × Int32 × Int32), lX8_seesAll_40 n a1 a2 a3 a4 a5 a6 σ = some q_x → (∀ (H : Heap) (locs : List Loc) (ls : Array Slot), dy_ D A s (wM cI cC h σ) H locs → lv_has ls 7 [(0, .ref (h 0)), (1, .int q_x.1), (2, .int q_x.2.1), (3, .int q_x.2.2.1), (4, .int q_x.2.2.2.1), (5, .int q_x.2.2.2.2.1), (6, .int q_x.2.2.2.2.2)] → W p l e (rm_ 1 22) s m args below meth c H locs 0 0 (MQ below (me_Qi D (tM cI cC) A r (wM cI cC h σ)) args s 0 0 A) (F0 m 99 ls [])) → ∀ (H : Heap) (locs : List Loc) (ls : Array Slot), dy_ D A s (wM cI cC h σ) H locs → lv_has ls 7 [(0, .ref (h 0)), (1, .int a1), (2, .int a2), (3, .int a3), (4, .int a4), (5, .int a5), (6, .int a6)] → W p l e (rm_ 1 22) s m args below meth c H locs 0 0 (MQ below (me_Qi D (tM cI cC) A r (wM cI cC h σ)) args s 0 0 A) (F0 m 40 ls []) := by
    intro n
    induction n with
    | zero => intro a1 a2 a3 a4 a5 a6 q_x hrun; cases hrun
    | succ n ih =>
      intro a1 a2 a3 a4 a5 a6 q_x hrun kx H locs ls Y hl
      unfold lX8_seesAll_40 at hrun
      refine lv_iload hx hb dX8_seesAll_40 (lv_at hl 6 rfl) ?_
      refine lv_iload_n hx hb dX8_seesAll_42 rfl (lv_at hl 1 rfl) ?_
      refine lv_icmp_gt (tgt := 99) hx hb dX8_seesAll_43 (by decide) (fun c_6 => ?_) (fun c_6 => ?_)
      · have hrun := o_t hrun c_6
        cases hrun
        exact kx _ _ _ Y (lv_sub hl [0, 1, 2, 3, 4, 5, 6] rfl)
      · have hrun := o_f hrun c_6
        refine lv_iload hx hb dX8_seesAll_46 (lv_at hl 5 rfl) ?_
        refine lv_if_ne (tgt := 86) hx hb dX8_seesAll_48 (by decide) (fun c_7 => ?_) (fun c_7 => ?_)
        · have hrun := o_f hrun c_7
          refine lv_iconst (v := (1 : Int32)) hx hb dX8_seesAll_86 (by decide) ?_
          refine lv_goto (tgt := 91) hx hb dX8_seesAll_87 (by decide) ?_
          refine lv_istore (lv' := [(5, .int (1 : Int32)), (0, .ref (h 0)), (1, .int a1), (2, .int a2), (3, .int a3), (4, .int a4), (6, .int a6)]) hx hb dX8_seesAll_91 hl (Nat.le_of_ble_eq_true rfl) rfl (fun ls hl => ?_)
          refine lv_iinc (v := (a6 + (1 : Int32))) (lv' := [(6, .int (a6 + (1 : Int32))), (5, .int (1 : Int32)), (0, .ref (h 0)), (1, .int a1), (2, .int a2), (3, .int a3), (4, .int a4)]) hx hb dX8_seesAll_93 hl (k := 6) rfl (by rfl) (Nat.le_of_ble_eq_true rfl) rfl (fun ls hl => ?_)
          refine lv_goto (tgt := 40) hx hb dX8_seesAll_96 (by decide) ?_
          exact ih a1 a2 a3 a4 (1 : Int32) (a6 + (1 : Int32)) q_x hrun kx _ _ _ Y (lv_sub hl [2, 3, 4, 5, 6, 1, 0] rfl)
        · have hrun := o_t hrun c_7
          refine lv_aload_n hx hb dX8_seesAll_51 rfl (lv_at hl 0 rfl) ?_
          refine lv_iload hx hb dX8_seesAll_52 (lv_at hl 4 rfl) ?_
          refine lv_iconst (v := (5 : Int32)) hx hb dX8_seesAll_54 (by decide) ?_
          obtain ⟨r_8, e_9, hrun⟩ := o_bh hrun
          refine cf_v (As := [.int a4, .int (5 : Int32)]) (rest := []) S hK hA hZ Y hl.1 (mX8_of l D cI cC h σ a4 (5 : Int32) r_8 e_9) kX8_53 (T := TX8) (N := 11) rfl (q0 := 0) rfl ⟨Nat.le_of_ble_eq_true rfl, Nat.le_of_ble_eq_true rfl⟩ rfl rfl (Nat.le_of_ble_eq_true rfl) ⟨Nat.le_of_ble_eq_true rfl, Nat.le_of_ble_eq_true rfl⟩ dX8_seesAll_55 (fun H locs Y => ?_)
          refine lv_aload_n hx hb dX8_seesAll_58 rfl (lv_at hl 0 rfl) ?_
          refine ig S hK Y fX8_7 0 rfl (v := .ref (h 1)) rfl dX8_seesAll_59 ?_
          refine lv_bipush (v := (9 : Int32)) hx hb dX8_seesAll_62 (by decide) ?_
          refine ia S hK Y 1 0 (f := (σ 1)) rfl rfl (show ¬ ((9 : Int32) < 0 ∨ 108 ≤ ((9 : Int32)).toNatClampNeg) by decide) dX8_seesAll_64 ?_
          refine lv_iload hx hb dX8_seesAll_65 (lv_at hl 6 rfl) ?_
          refine lv_iadd hx hb dX8_seesAll_67 ?_
          refine lv_bipush (v := (32 : Int32)) hx hb dX8_seesAll_68 (by decide) ?_
          refine lv_iadd hx hb dX8_seesAll_70 ?_
          refine lv_bipush (v := (16 : Int32)) hx hb dX8_seesAll_71 (by decide) ?_
          refine lv_irem hx hb dX8_seesAll_73 (by decide) ?_
          obtain ⟨r_10, e_11, hrun⟩ := o_bh hrun
          refine cp_s (As := [.int r_8, .int (((((σ 1) ((9 : Int32)).toNatClampNeg) + a6) + (32 : Int32)) - ((((σ 1) ((9 : Int32)).toNatClampNeg) + a6) + (32 : Int32)) / (16 : Int32) * (16 : Int32))]) (rest := []) S hK hA hZ Y hl.1 (mX8_distance l D r_8 (((((σ 1) ((9 : Int32)).toNatClampNeg) + a6) + (32 : Int32)) - ((((σ 1) ((9 : Int32)).toNatClampNeg) + a6) + (32 : Int32)) / (16 : Int32) * (16 : Int32)) r_10 e_11) kX8_56 ⟨Nat.le_of_ble_eq_true rfl, Nat.le_of_ble_eq_true rfl⟩ rfl rfl (Nat.le_of_ble_eq_true rfl) ⟨Nat.le_of_ble_eq_true rfl, Nat.le_of_ble_eq_true rfl⟩ dX8_seesAll_74 (fun H locs Y => ?_)
          refine lv_aload_n hx hb dX8_seesAll_77 rfl (lv_at hl 0 rfl) ?_
          refine ig S hK Y fX8_7 0 rfl (v := .ref (h 1)) rfl dX8_seesAll_78 ?_
          refine lv_iconst (v := (0 : Int32)) hx hb dX8_seesAll_81 (by decide) ?_
          refine ia S hK Y 1 0 (f := (σ 1)) rfl rfl (show ¬ ((0 : Int32) < 0 ∨ 108 ≤ ((0 : Int32)).toNatClampNeg) by decide) dX8_seesAll_82 ?_
          refine lv_icmp_gt (tgt := 90) hx hb dX8_seesAll_83 (by decide) (fun c_12 => ?_) (fun c_12 => ?_)
          · have hrun := o_t hrun c_12
            refine lv_iconst (v := (0 : Int32)) hx hb dX8_seesAll_90 (by decide) ?_
            refine lv_istore (lv' := [(5, .int (0 : Int32)), (0, .ref (h 0)), (1, .int a1), (2, .int a2), (3, .int a3), (4, .int a4), (6, .int a6)]) hx hb dX8_seesAll_91 hl (Nat.le_of_ble_eq_true rfl) rfl (fun ls hl => ?_)
            refine lv_iinc (v := (a6 + (1 : Int32))) (lv' := [(6, .int (a6 + (1 : Int32))), (5, .int (0 : Int32)), (0, .ref (h 0)), (1, .int a1), (2, .int a2), (3, .int a3), (4, .int a4)]) hx hb dX8_seesAll_93 hl (k := 6) rfl (by rfl) (Nat.le_of_ble_eq_true rfl) rfl (fun ls hl => ?_)
            refine lv_goto (tgt := 40) hx hb dX8_seesAll_96 (by decide) ?_
            exact ih a1 a2 a3 a4 (0 : Int32) (a6 + (1 : Int32)) q_x hrun kx _ _ _ Y (lv_sub hl [2, 3, 4, 5, 6, 1, 0] rfl)
          · have hrun := o_f hrun c_12
            refine lv_iconst (v := (1 : Int32)) hx hb dX8_seesAll_86 (by decide) ?_
            refine lv_goto (tgt := 91) hx hb dX8_seesAll_87 (by decide) ?_
            refine lv_istore (lv' := [(5, .int (1 : Int32)), (0, .ref (h 0)), (1, .int a1), (2, .int a2), (3, .int a3), (4, .int a4), (6, .int a6)]) hx hb dX8_seesAll_91 hl (Nat.le_of_ble_eq_true rfl) rfl (fun ls hl => ?_)
            refine lv_iinc (v := (a6 + (1 : Int32))) (lv' := [(6, .int (a6 + (1 : Int32))), (5, .int (1 : Int32)), (0, .ref (h 0)), (1, .int a1), (2, .int a2), (3, .int a3), (4, .int a4)]) hx hb dX8_seesAll_93 hl (k := 6) rfl (by rfl) (Nat.le_of_ble_eq_true rfl) rfl (fun ls hl => ?_)
            refine lv_goto (tgt := 40) hx hb dX8_seesAll_96 (by decide) ?_
            exact ih a1 a2 a3 a4 (1 : Int32) (a6 + (1 : Int32)) q_x hrun kx _ _ _ Y (lv_sub hl [2, 3, 4, 5, 6, 1, 0] rfl)
  have lp5 : ∀ (n : Nat) (a1 : Int32) (a2 : Int32) (a3 : Int32) (a4 : Int32), lX8_seesAll_5 n a1 a2 a3 a4 σ = some r → ∀ (H : Heap) (locs : List Loc) (ls : Array Slot), dy_ D A s (wM cI cC h σ) H locs → lv_has ls 7 [(0, .ref (h 0)), (1, .int a1), (2, .int a2), (3, .int a3), (4, .int a4)] → W p l e (rm_ 1 22) s m args below meth c H locs 0 0 (MQ below (me_Qi D (tM cI cC) A r (wM cI cC h σ)) args s 0 0 A) (F0 m 5 ls []) := by
    intro n
    induction n with
    | zero => intro a1 a2 a3 a4 hrun; cases hrun
    | succ n ih =>
      intro a1 a2 a3 a4 hrun H locs ls Y hl
      unfold lX8_seesAll_5 at hrun
      refine lv_iload hx hb dX8_seesAll_5 (lv_at hl 4 rfl) ?_
      refine lv_aload_n hx hb dX8_seesAll_7 rfl (lv_at hl 0 rfl) ?_
      refine ig S hK Y fX8_7 0 rfl (v := .ref (h 1)) rfl dX8_seesAll_8 ?_
      refine lv_iconst (v := (4 : Int32)) hx hb dX8_seesAll_11 (by decide) ?_
      refine ia S hK Y 1 0 (f := (σ 1)) rfl rfl (show ¬ ((4 : Int32) < 0 ∨ 108 ≤ ((4 : Int32)).toNatClampNeg) by decide) dX8_seesAll_12 ?_
      refine lv_icmp_ge (tgt := 120) hx hb dX8_seesAll_13 (by decide) (fun c_1 => ?_) (fun c_1 => ?_)
      · have hrun := o_t hrun c_1
        refine lv_iload_n hx hb dX8_seesAll_120 rfl (lv_at hl 3 rfl) ?_
        obtain ⟨c_2, hrun⟩ := o_kh hrun
        cases hrun
        exact me_ri S hK Y hr hlk (nb_ c_2) dX8_seesAll_121
      · have hrun := o_f hrun c_1
        refine lv_aload_n hx hb dX8_seesAll_16 rfl (lv_at hl 0 rfl) ?_
        refine lv_iload hx hb dX8_seesAll_17 (lv_at hl 4 rfl) ?_
        refine lv_iconst (v := (5 : Int32)) hx hb dX8_seesAll_19 (by decide) ?_
        obtain ⟨r_3, e_4, hrun⟩ := o_bh hrun
        refine cf_v (As := [.int a4, .int (5 : Int32)]) (rest := []) S hK hA hZ Y hl.1 (mX8_of l D cI cC h σ a4 (5 : Int32) r_3 e_4) kX8_53 (T := TX8) (N := 11) rfl (q0 := 0) rfl ⟨Nat.le_of_ble_eq_true rfl, Nat.le_of_ble_eq_true rfl⟩ rfl rfl (Nat.le_of_ble_eq_true rfl) ⟨Nat.le_of_ble_eq_true rfl, Nat.le_of_ble_eq_true rfl⟩ dX8_seesAll_20 (fun H locs Y => ?_)
        refine lv_sipush (v := (-10006 : Int32)) hx hb dX8_seesAll_23 (by decide) ?_
        refine lv_icmp_ne (tgt := 33) hx hb dX8_seesAll_26 (by decide) (fun c_5 => ?_) (fun c_5 => ?_)
        · have hrun := o_f hrun c_5
          refine lv_iconst (v := (0 : Int32)) hx hb dX8_seesAll_33 (by decide) ?_
          refine lv_istore (lv' := [(5, .int (0 : Int32)), (0, .ref (h 0)), (1, .int a1), (2, .int a2), (3, .int a3), (4, .int a4)]) hx hb dX8_seesAll_34 hl (Nat.le_of_ble_eq_true rfl) rfl (fun ls hl => ?_)
          refine lv_iload_n hx hb dX8_seesAll_36 rfl (lv_at hl 3 rfl) ?_
          refine lv_ineg hx hb dX8_seesAll_37 ?_
          refine lv_istore (lv' := [(6, .int (-a2)), (5, .int (0 : Int32)), (0, .ref (h 0)), (1, .int a1), (2, .int a2), (3, .int a3), (4, .int a4)]) hx hb dX8_seesAll_38 hl (Nat.le_of_ble_eq_true rfl) rfl (fun ls hl => ?_)
          obtain ⟨q_13, e_14, hrun⟩ := o_bh hrun
          refine lp40 70 a1 a2 a3 a4 (0 : Int32) (-a2) q_13 e_14 (fun H locs ls Y hl => ?_) _ _ _ Y (lv_sub hl [2, 3, 4, 5, 6, 1, 0] rfl)
          refine lv_iload_n hx hb dX8_seesAll_99 rfl (lv_at hl 3 rfl) ?_
          refine lv_if_eq (tgt := 112) hx hb dX8_seesAll_100 (by decide) (fun c_15 => ?_) (fun c_15 => ?_)
          · have hrun := o_t hrun c_15
            refine lv_iconst (v := (0 : Int32)) hx hb dX8_seesAll_112 (by decide) ?_
            refine lv_istore_n (lv' := [(3, .int (0 : Int32)), (0, .ref (h 0)), (1, .int q_13.1), (2, .int q_13.2.1), (4, .int q_13.2.2.2.1), (5, .int q_13.2.2.2.2.1), (6, .int q_13.2.2.2.2.2)]) hx hb dX8_seesAll_113 rfl hl (Nat.le_of_ble_eq_true rfl) rfl (fun ls hl => ?_)
            refine lv_iinc (v := (q_13.2.2.2.1 + (1 : Int32))) (lv' := [(4, .int (q_13.2.2.2.1 + (1 : Int32))), (3, .int (0 : Int32)), (0, .ref (h 0)), (1, .int q_13.1), (2, .int q_13.2.1), (5, .int q_13.2.2.2.2.1), (6, .int q_13.2.2.2.2.2)]) hx hb dX8_seesAll_114 hl (k := 4) rfl (by rfl) (Nat.le_of_ble_eq_true rfl) rfl (fun ls hl => ?_)
            refine lv_goto (tgt := 5) hx hb dX8_seesAll_117 (by decide) ?_
            exact ih q_13.1 q_13.2.1 (0 : Int32) (q_13.2.2.2.1 + (1 : Int32)) hrun _ _ _ Y (lv_sub hl [2, 3, 4, 1, 0] rfl)
          · have hrun := o_f hrun c_15
            refine lv_iload hx hb dX8_seesAll_103 (lv_at hl 5 rfl) ?_
            refine lv_if_eq (tgt := 112) hx hb dX8_seesAll_105 (by decide) (fun c_16 => ?_) (fun c_16 => ?_)
            · have hrun := o_t hrun c_16
              refine lv_iconst (v := (0 : Int32)) hx hb dX8_seesAll_112 (by decide) ?_
              refine lv_istore_n (lv' := [(3, .int (0 : Int32)), (0, .ref (h 0)), (1, .int q_13.1), (2, .int q_13.2.1), (4, .int q_13.2.2.2.1), (5, .int q_13.2.2.2.2.1), (6, .int q_13.2.2.2.2.2)]) hx hb dX8_seesAll_113 rfl hl (Nat.le_of_ble_eq_true rfl) rfl (fun ls hl => ?_)
              refine lv_iinc (v := (q_13.2.2.2.1 + (1 : Int32))) (lv' := [(4, .int (q_13.2.2.2.1 + (1 : Int32))), (3, .int (0 : Int32)), (0, .ref (h 0)), (1, .int q_13.1), (2, .int q_13.2.1), (5, .int q_13.2.2.2.2.1), (6, .int q_13.2.2.2.2.2)]) hx hb dX8_seesAll_114 hl (k := 4) rfl (by rfl) (Nat.le_of_ble_eq_true rfl) rfl (fun ls hl => ?_)
              refine lv_goto (tgt := 5) hx hb dX8_seesAll_117 (by decide) ?_
              exact ih q_13.1 q_13.2.1 (0 : Int32) (q_13.2.2.2.1 + (1 : Int32)) hrun _ _ _ Y (lv_sub hl [2, 3, 4, 1, 0] rfl)
            · have hrun := o_f hrun c_16
              refine lv_iconst (v := (1 : Int32)) hx hb dX8_seesAll_108 (by decide) ?_
              refine lv_goto (tgt := 113) hx hb dX8_seesAll_109 (by decide) ?_
              refine lv_istore_n (lv' := [(3, .int (1 : Int32)), (0, .ref (h 0)), (1, .int q_13.1), (2, .int q_13.2.1), (4, .int q_13.2.2.2.1), (5, .int q_13.2.2.2.2.1), (6, .int q_13.2.2.2.2.2)]) hx hb dX8_seesAll_113 rfl hl (Nat.le_of_ble_eq_true rfl) rfl (fun ls hl => ?_)
              refine lv_iinc (v := (q_13.2.2.2.1 + (1 : Int32))) (lv' := [(4, .int (q_13.2.2.2.1 + (1 : Int32))), (3, .int (1 : Int32)), (0, .ref (h 0)), (1, .int q_13.1), (2, .int q_13.2.1), (5, .int q_13.2.2.2.2.1), (6, .int q_13.2.2.2.2.2)]) hx hb dX8_seesAll_114 hl (k := 4) rfl (by rfl) (Nat.le_of_ble_eq_true rfl) rfl (fun ls hl => ?_)
              refine lv_goto (tgt := 5) hx hb dX8_seesAll_117 (by decide) ?_
              exact ih q_13.1 q_13.2.1 (1 : Int32) (q_13.2.2.2.1 + (1 : Int32)) hrun _ _ _ Y (lv_sub hl [2, 3, 4, 1, 0] rfl)
        · have hrun := o_t hrun c_5
          refine lv_iconst (v := (1 : Int32)) hx hb dX8_seesAll_29 (by decide) ?_
          refine lv_goto (tgt := 34) hx hb dX8_seesAll_30 (by decide) ?_
          refine lv_istore (lv' := [(5, .int (1 : Int32)), (0, .ref (h 0)), (1, .int a1), (2, .int a2), (3, .int a3), (4, .int a4)]) hx hb dX8_seesAll_34 hl (Nat.le_of_ble_eq_true rfl) rfl (fun ls hl => ?_)
          refine lv_iload_n hx hb dX8_seesAll_36 rfl (lv_at hl 3 rfl) ?_
          refine lv_ineg hx hb dX8_seesAll_37 ?_
          refine lv_istore (lv' := [(6, .int (-a2)), (5, .int (1 : Int32)), (0, .ref (h 0)), (1, .int a1), (2, .int a2), (3, .int a3), (4, .int a4)]) hx hb dX8_seesAll_38 hl (Nat.le_of_ble_eq_true rfl) rfl (fun ls hl => ?_)
          obtain ⟨q_17, e_18, hrun⟩ := o_bh hrun
          refine lp40 70 a1 a2 a3 a4 (1 : Int32) (-a2) q_17 e_18 (fun H locs ls Y hl => ?_) _ _ _ Y (lv_sub hl [2, 3, 4, 5, 6, 1, 0] rfl)
          refine lv_iload_n hx hb dX8_seesAll_99 rfl (lv_at hl 3 rfl) ?_
          refine lv_if_eq (tgt := 112) hx hb dX8_seesAll_100 (by decide) (fun c_19 => ?_) (fun c_19 => ?_)
          · have hrun := o_t hrun c_19
            refine lv_iconst (v := (0 : Int32)) hx hb dX8_seesAll_112 (by decide) ?_
            refine lv_istore_n (lv' := [(3, .int (0 : Int32)), (0, .ref (h 0)), (1, .int q_17.1), (2, .int q_17.2.1), (4, .int q_17.2.2.2.1), (5, .int q_17.2.2.2.2.1), (6, .int q_17.2.2.2.2.2)]) hx hb dX8_seesAll_113 rfl hl (Nat.le_of_ble_eq_true rfl) rfl (fun ls hl => ?_)
            refine lv_iinc (v := (q_17.2.2.2.1 + (1 : Int32))) (lv' := [(4, .int (q_17.2.2.2.1 + (1 : Int32))), (3, .int (0 : Int32)), (0, .ref (h 0)), (1, .int q_17.1), (2, .int q_17.2.1), (5, .int q_17.2.2.2.2.1), (6, .int q_17.2.2.2.2.2)]) hx hb dX8_seesAll_114 hl (k := 4) rfl (by rfl) (Nat.le_of_ble_eq_true rfl) rfl (fun ls hl => ?_)
            refine lv_goto (tgt := 5) hx hb dX8_seesAll_117 (by decide) ?_
            exact ih q_17.1 q_17.2.1 (0 : Int32) (q_17.2.2.2.1 + (1 : Int32)) hrun _ _ _ Y (lv_sub hl [2, 3, 4, 1, 0] rfl)
          · have hrun := o_f hrun c_19
            refine lv_iload hx hb dX8_seesAll_103 (lv_at hl 5 rfl) ?_
            refine lv_if_eq (tgt := 112) hx hb dX8_seesAll_105 (by decide) (fun c_20 => ?_) (fun c_20 => ?_)
            · have hrun := o_t hrun c_20
              refine lv_iconst (v := (0 : Int32)) hx hb dX8_seesAll_112 (by decide) ?_
              refine lv_istore_n (lv' := [(3, .int (0 : Int32)), (0, .ref (h 0)), (1, .int q_17.1), (2, .int q_17.2.1), (4, .int q_17.2.2.2.1), (5, .int q_17.2.2.2.2.1), (6, .int q_17.2.2.2.2.2)]) hx hb dX8_seesAll_113 rfl hl (Nat.le_of_ble_eq_true rfl) rfl (fun ls hl => ?_)
              refine lv_iinc (v := (q_17.2.2.2.1 + (1 : Int32))) (lv' := [(4, .int (q_17.2.2.2.1 + (1 : Int32))), (3, .int (0 : Int32)), (0, .ref (h 0)), (1, .int q_17.1), (2, .int q_17.2.1), (5, .int q_17.2.2.2.2.1), (6, .int q_17.2.2.2.2.2)]) hx hb dX8_seesAll_114 hl (k := 4) rfl (by rfl) (Nat.le_of_ble_eq_true rfl) rfl (fun ls hl => ?_)
              refine lv_goto (tgt := 5) hx hb dX8_seesAll_117 (by decide) ?_
              exact ih q_17.1 q_17.2.1 (0 : Int32) (q_17.2.2.2.1 + (1 : Int32)) hrun _ _ _ Y (lv_sub hl [2, 3, 4, 1, 0] rfl)
            · have hrun := o_f hrun c_20
              refine lv_iconst (v := (1 : Int32)) hx hb dX8_seesAll_108 (by decide) ?_
              refine lv_goto (tgt := 113) hx hb dX8_seesAll_109 (by decide) ?_
              refine lv_istore_n (lv' := [(3, .int (1 : Int32)), (0, .ref (h 0)), (1, .int q_17.1), (2, .int q_17.2.1), (4, .int q_17.2.2.2.1), (5, .int q_17.2.2.2.2.1), (6, .int q_17.2.2.2.2.2)]) hx hb dX8_seesAll_113 rfl hl (Nat.le_of_ble_eq_true rfl) rfl (fun ls hl => ?_)
              refine lv_iinc (v := (q_17.2.2.2.1 + (1 : Int32))) (lv' := [(4, .int (q_17.2.2.2.1 + (1 : Int32))), (3, .int (1 : Int32)), (0, .ref (h 0)), (1, .int q_17.1), (2, .int q_17.2.1), (5, .int q_17.2.2.2.2.1), (6, .int q_17.2.2.2.2.2)]) hx hb dX8_seesAll_114 hl (k := 4) rfl (by rfl) (Nat.le_of_ble_eq_true rfl) rfl (fun ls hl => ?_)
              refine lv_goto (tgt := 5) hx hb dX8_seesAll_117 (by decide) ?_
              exact ih q_17.1 q_17.2.1 (1 : Int32) (q_17.2.2.2.1 + (1 : Int32)) hrun _ _ _ Y (lv_sub hl [2, 3, 4, 1, 0] rfl)
  unfold fX8_seesAll at hrun
  refine lv_iconst (v := (1 : Int32)) hx hb dX8_seesAll_0 (by decide) ?_
  refine lv_istore_n (lv' := [(3, .int (1 : Int32)), (0, .ref (h 0)), (1, .int p1), (2, .int p2)]) hx hb dX8_seesAll_1 rfl hl (Nat.le_of_ble_eq_true rfl) rfl (fun ls hl => ?_)
  refine lv_iconst (v := (0 : Int32)) hx hb dX8_seesAll_2 (by decide) ?_
  refine lv_istore (lv' := [(4, .int (0 : Int32)), (3, .int (1 : Int32)), (0, .ref (h 0)), (1, .int p1), (2, .int p2)]) hx hb dX8_seesAll_3 hl (Nat.le_of_ble_eq_true rfl) rfl (fun ls hl => ?_)
  exact lp5 70 p1 p2 (1 : Int32) (0 : Int32) hrun _ _ _ Y (lv_sub hl [2, 3, 4, 1, 0] rfl)
