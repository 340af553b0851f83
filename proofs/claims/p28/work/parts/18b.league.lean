def lL_league_32 : Nat → Int32 → Int32 → Int32 → Int32 → Int32 → Int32 → Int32 → (s3_T) → (Nat → Nat) → (sg_T) → Option (Int32)
  | 0, _, _, _, _, _, _, _, _, _, _ => none
  | n + 1, a5, a6, a7, a8, a9, a10, a11, Λ, π, Ω => (if ((Ω 4) ((4 : Int32)).toNatClampNeg) ≤ a11 then (some a10) else ((if a11 = a9 then (some (0 : Int32)) else ((fL_ahead a11 a9 Ω).bind fun r_7 => (if r_7 = 0 then (some (0 : Int32)) else (some (1 : Int32))))).bind fun q_4 => (lL_league_32 n a5 a6 a7 a8 a9 (a10 + q_4) (a11 + (1 : Int32)) Λ π Ω)))
def lL_league_157 : Nat → Int32 → Int32 → Int32 → Int32 → Int32 → Int32 → Int32 → (s3_T) → (Nat → Nat) → (sg_T) → Option (Int32)
  | 0, _, _, _, _, _, _, _, _, _, _ => none
  | n + 1, a5, a6, a7, a8, a9, a10, a11, Λ, π, Ω => (if (5 : Int32) ≤ a11 then (some (0 : Int32)) else ((fX7_player a9 a11 Λ π).bind fun r_18 => (o_x (((6 : Int32) * a9) + a11) 48 (if r_18 = ((Ω 1) ((((6 : Int32) * a9) + a11)).toNatClampNeg) then (lL_league_157 n a5 a6 a7 a8 a9 a10 (a11 + (1 : Int32)) Λ π Ω) else none))))
def lL_league_17 : Nat → Int32 → Int32 → Int32 → Int32 → Int32 → (s3_T) → (Nat → Nat) → (sg_T) → Option (Int32 × Int32)
  | 0, _, _, _, _, _, _, _, _ => none
  | n + 1, a5, a6, a7, a8, a9, Λ, π, Ω => (if ((Ω 4) ((4 : Int32)).toNatClampNeg) ≤ a9 then (some (a6, a8)) else ((lL_league_32 70 a5 a6 a7 a8 a9 (0 : Int32) (0 : Int32) Λ π Ω).bind fun q_10 => (o_x ((6 : Int32) * a9) 48 ((if a8 < 0 then (some a9) else (o_x (((6 : Int32) * a9) + (1 : Int32)) 48 (o_x (((6 : Int32) * a8) + (1 : Int32)) 48 (if ((Ω 1) ((((6 : Int32) * a9) + (1 : Int32))).toNatClampNeg) < ((Ω 1) ((((6 : Int32) * a8) + (1 : Int32))).toNatClampNeg) then (some a9) else (if ((Ω 1) ((((6 : Int32) * a9) + (1 : Int32))).toNatClampNeg) = ((Ω 1) ((((6 : Int32) * a8) + (1 : Int32))).toNatClampNeg) then ((fL_ahead a8 a9 Ω).bind fun r_42 => (if r_42 = 0 then (some a8) else (some a9))) else (some a8)))))).bind fun q_14 => ((lL_league_157 70 a5 (a6 + ((Ω 1) (((6 : Int32) * a9)).toNatClampNeg)) a7 q_14 a9 q_10 (0 : Int32) Λ π Ω).bind fun q_22 => ((fX7_player a9 (5 : Int32) Λ π).bind fun r_24 => (if r_24 = q_10 then ((fX7_ranked q_10 Λ π).bind fun r_27 => (if r_27 = a9 then ((fX7_player a9 (6 : Int32) Λ π).bind fun r_30 => (o_x (((6 : Int32) * a9) + (5 : Int32)) 48 ((if 0 ≤ ((Ω 1) ((((6 : Int32) * a9) + (5 : Int32))).toNatClampNeg) then (some ((Ω 1) ((((6 : Int32) * a9) + (5 : Int32))).toNatClampNeg)) else (some a5)).bind fun q_34 => (if r_30 = q_34 then (lL_league_17 n a5 (a6 + ((Ω 1) (((6 : Int32) * a9)).toNatClampNeg)) a7 q_14 (a9 + (1 : Int32)) Λ π Ω) else none)))) else none)) else none)))))))
def lL_league_266 : Nat → Int32 → Int32 → Int32 → Int32 → Int32 → Int32 → (s3_T) → (Nat → Nat) → (sg_T) → Option (Int32 × Int32)
  | 0, _, _, _, _, _, _, _, _, _ => none
  | n + 1, a5, a6, a7, a8, a9, a10, Λ, π, Ω => (if (16 : Int32) ≤ a10 then (some (a7, a9)) else (o_x ((2 : Int32) * a10) 32 ((fX7_spot a10 (0 : Int32) Λ π).bind fun r_49 => ((fL_apart (0 : Int32) a10).bind fun r_51 => (if r_49 = r_51 then ((fX7_spot a10 (1 : Int32) Λ π).bind fun r_54 => (o_x a10 16 (if r_54 = ((Ω 2) (a10).toNatClampNeg) then ((fX7_spot a10 (2 : Int32) Λ π).bind fun r_58 => (if r_58 = ((Ω 3) (((2 : Int32) * a10)).toNatClampNeg) then ((fX7_spot a10 (3 : Int32) Λ π).bind fun r_61 => ((fL_here a10 Ω).bind fun r_63 => (if r_61 = r_63 then ((if ((Ω 4) ((6 : Int32)).toNatClampNeg) = (1 : Int32) then ((fL_good a10 Ω).bind fun r_70 => (if r_70 = 0 then (some a9) else ((fL_here a10 Ω).bind fun r_73 => ((fL_count r_73).bind fun r_75 => (if (2 : Int32) ≤ r_75 then (some a9) else ((if 0 ≤ a9 then ((fL_apart (0 : Int32) a10).bind fun r_86 => ((fL_apart (0 : Int32) a9).bind fun r_88 => (o_x a9 16 ((fL_here a10 Ω).bind fun r_91 => ((fL_count r_91).bind fun r_93 => ((fL_here a9 Ω).bind fun r_95 => ((fL_count r_95).bind fun r_97 => (some ((((1000 : Int32) * (r_86 - r_88)) - ((10 : Int32) * (((Ω 2) (a10).toNatClampNeg) - ((Ω 2) (a9).toNatClampNeg)))) - (r_93 - r_97)))))))))) else (some (1 : Int32))).bind fun q_79 => ((if q_79 ≤ 0 then (some a9) else (some a10)).bind fun q_83 => (some q_83)))))))) else (some a9)).bind fun q_67 => (lL_league_266 n a5 a6 (a7 + ((Ω 3) (((2 : Int32) * a10)).toNatClampNeg)) a8 q_67 (a10 + (1 : Int32)) Λ π Ω)) else none))) else none)) else none))) else none)))))
def lL_league_476 : Nat → Int32 → Int32 → Int32 → Int32 → Int32 → Int32 → Int32 → Int32 → Int32 → (s3_T) → (Nat → Nat) → (sg_T) → Option (Int32 × Int32)
  | 0, _, _, _, _, _, _, _, _, _, _, _, _ => none
  | n + 1, a5, a6, a7, a8, a9, a10, a11, a12, a13, Λ, π, Ω => (if (16 : Int32) ≤ a13 then (some (a11, a12)) else (if ((Ω 4) ((6 : Int32)).toNatClampNeg) = (2 : Int32) then ((fL_apart a13 ((Ω 4) ((9 : Int32)).toNatClampNeg)).bind fun r_103 => ((if ((Ω 4) ((0 : Int32)).toNatClampNeg) < r_103 then (some (0 : Int32)) else (some ((1 : Int32) <<< (a13 &&& 31)))).bind fun q_106 => ((fL_apart (0 : Int32) a13).bind fun r_109 => ((fL_apart (0 : Int32) ((Ω 4) ((9 : Int32)).toNatClampNeg)).bind fun r_111 => ((if r_111 ≤ r_109 then (some (0 : Int32)) else ((fL_here a13 Ω).bind fun r_117 => (some r_117))).bind fun q_114 => (lL_league_476 n a5 a6 a7 a8 a9 a10 (a11 ||| q_106) (a12 ||| q_114) (a13 + (1 : Int32)) Λ π Ω)))))) else (some (a11, a12))))
def fL_league (Λ : s3_T) (π : Nat → Nat) (Ω : sg_T) : Option (Int32) := ((lL_league_17 70 (-10006 : Int32) (0 : Int32) (0 : Int32) (-1 : Int32) (0 : Int32) Λ π Ω).bind fun q_45 => ((lL_league_266 70 (-10006 : Int32) q_45.1 (0 : Int32) q_45.2 (-1 : Int32) (0 : Int32) Λ π Ω).bind fun q_99 => ((lL_league_476 70 (-10006 : Int32) q_45.1 q_99.1 q_45.2 q_99.2 (-10003 : Int32) (0 : Int32) (0 : Int32) (0 : Int32) Λ π Ω).bind fun q_119 => ((fX7_bestSpot Λ π).bind fun r_121 => ((if ((Ω 4) ((6 : Int32)).toNatClampNeg) = (1 : Int32) then (if 0 ≤ q_99.2 then (some q_99.2) else (some (-10006 : Int32))) else (some (-10003 : Int32))).bind fun q_124 => (if r_121 = q_124 then ((fX7_inSight Λ π).bind fun r_128 => ((if ((Ω 4) ((6 : Int32)).toNatClampNeg) = (2 : Int32) then (some q_119.1) else (some (-10003 : Int32))).bind fun q_131 => (if r_128 = q_131 then ((fX7_couldDash Λ π).bind fun r_135 => ((if ((Ω 4) ((6 : Int32)).toNatClampNeg) = (2 : Int32) then (some q_119.2) else (some (-10003 : Int32))).bind fun q_138 => (if r_135 = q_138 then ((fX7_fewestSteps Λ π).bind fun r_142 => ((if ((Ω 4) ((6 : Int32)).toNatClampNeg) = (2 : Int32) then ((fL_steps Ω).bind fun r_203 => (some r_203)) else (some (-10003 : Int32))).bind fun q_145 => (if r_142 = q_145 then ((fX7_nextSeeker Λ π).bind fun r_149 => ((if 0 ≤ q_45.2 then (some q_45.2) else (some (-10006 : Int32))).bind fun q_152 => (if r_149 = q_152 then ((fX7_ranked ((Ω 4) ((4 : Int32)).toNatClampNeg) Λ π).bind fun r_156 => (if r_156 = (-10001 : Int32) then ((fX7_total (0 : Int32) Λ π).bind fun r_159 => (if r_159 = ((Ω 4) ((4 : Int32)).toNatClampNeg) then ((fX7_total (1 : Int32) Λ π).bind fun r_162 => (if r_162 = ((Ω 4) ((5 : Int32)).toNatClampNeg) then ((fX7_total (2 : Int32) Λ π).bind fun r_165 => (if r_165 = ((Ω 4) ((6 : Int32)).toNatClampNeg) then ((fX7_total (3 : Int32) Λ π).bind fun r_168 => ((if ((Ω 4) ((6 : Int32)).toNatClampNeg) = 0 then (some (-10006 : Int32)) else (some ((Ω 4) ((7 : Int32)).toNatClampNeg))).bind fun q_171 => (if r_168 = q_171 then ((fX7_total (4 : Int32) Λ π).bind fun r_175 => ((if ((Ω 4) ((6 : Int32)).toNatClampNeg) = 0 then (some (-10006 : Int32)) else (some ((Ω 4) ((8 : Int32)).toNatClampNeg))).bind fun q_178 => (if r_175 = q_178 then ((fX7_total (5 : Int32) Λ π).bind fun r_182 => ((if ((Ω 4) ((6 : Int32)).toNatClampNeg) = (2 : Int32) then (some ((Ω 4) ((9 : Int32)).toNatClampNeg)) else (some (-10006 : Int32))).bind fun q_185 => (if r_182 = q_185 then ((fX7_total (6 : Int32) Λ π).bind fun r_189 => (if r_189 = ((Ω 4) ((10 : Int32)).toNatClampNeg) then ((fX7_total (7 : Int32) Λ π).bind fun r_192 => ((fL_hidden Ω).bind fun r_194 => (if r_192 = r_194 then ((fX7_total (8 : Int32) Λ π).bind fun r_197 => (if r_197 = q_99.1 then ((fX7_total (9 : Int32) Λ π).bind fun r_200 => (if r_200 = q_45.1 then (some (1 : Int32)) else none)) else none)) else none))) else none)) else none))) else none))) else none))) else none)) else none)) else none)) else none)) else none))) else none))) else none))) else none))) else none))))))
set_option maxRecDepth 100000 in
set_option maxHeartbeats 16000000 in
theorem mL_league (l : Launch) (D : va_G) (cI cS : ClassId) (h : Nat → Nat → Nat) (g : Nat → Nat) (Λ : s3_T) (π : Nat → Nat) (Ω : sg_T) (r : Int32) (hrun : fL_league Λ π Ω = some r) : me_I l D (tL cI cS) yL_league cL_league 14 .boolean 7 153 (wB cI cS h g Λ π Ω) [.ref (h 8 0), .ref (g 1), .ref (g 2), .ref (g 3), .ref (g 4)] r (wB cI cS h g Λ π Ω) := by
  refine me_ofI (plainFor_of_name (by decide)) (Nat.le_of_ble_eq_true rfl) ?_
  intro p e s m args below meth c A ls S hK Y hA hl hr hlk hZ
  have hx := S.1
  have hb := S.2.1
  have hl : lv_has ls 14 [(0, .ref (h 8 0)), (1, .ref (g 1)), (2, .ref (g 2)), (3, .ref (g 3)), (4, .ref (g 4))] := hl
  have lp32 : ∀ (n : Nat) (a5 : Int32) (a6 : Int32) (a7 : Int32) (a8 : Int32) (a9 : Int32) (a10 : Int32) (a11 : Int32) (Λ : s3_T) (π : Nat → Nat) (Ω : sg_T) (q_x : Int32), lL_league_32 n a5 a6 a7 a8 a9 a10 a11 Λ π Ω = some q_x → (∀ (H : Heap) (locs : List Loc) (ls : Array Slot), dy_ D A s (wB cI cS h g Λ π Ω) H locs → lv_has ls 14 [(0, .ref (h 8 0)), (1, .ref (g 1)), (2, .ref (g 2)), (3, .ref (g 3)), (4, .ref (g 4)), (5, .int a5), (6, .int a6), (7, .int a7), (8, .int a8), (9, .int a9), (10, .int q_x)] → W p l e (rm_ 7 153) s m args below meth c H locs 0 0 (MQ below (me_Qi D (tL cI cS) A r (wB cI cS h g Λ π Ω)) args s 0 0 A) (F0 m 75 ls [])) → ∀ (H : Heap) (locs : List Loc) (ls : Array Slot), dy_ D A s (wB cI cS h g Λ π Ω) H locs → lv_has ls 14 [(0, .ref (h 8 0)), (1, .ref (g 1)), (2, .ref (g 2)), (3, .ref (g 3)), (4, .ref (g 4)), (5, .int a5), (6, .int a6), (7, .int a7), (8, .int a8), (9, .int a9), (10, .int a10), (11, .int a11)] → W p l e (rm_ 7 153) s m args below meth c H locs 0 0 (MQ below (me_Qi D (tL cI cS) A r (wB cI cS h g Λ π Ω)) args s 0 0 A) (F0 m 32 ls []) := by
    intro n
    induction n with
    | zero => intro a5 a6 a7 a8 a9 a10 a11 Λ π Ω q_x hrun; cases hrun
    | succ n ih =>
      intro a5 a6 a7 a8 a9 a10 a11 Λ π Ω q_x hrun kx H locs ls Y hl
      unfold lL_league_32 at hrun
      refine lv_iload hx hb dL_league_32 (lv_at hl 11 rfl) ?_
      refine lv_aload hx hb dL_league_34 (lv_at hl 4 rfl) ?_
      refine lv_iconst (v := (4 : Int32)) hx hb dL_league_36 (by decide) ?_
      refine ia S hK Y 88 0 (f := (Ω 4)) rfl rfl (show ¬ ((4 : Int32) < 0 ∨ 11 ≤ ((4 : Int32)).toNatClampNeg) by decide) dL_league_37 ?_
      refine lv_icmp_ge (tgt := 75) hx hb dL_league_38 (by decide) (fun c_2 => ?_) (fun c_2 => ?_)
      · have hrun := o_t hrun c_2
        cases hrun
        exact kx _ _ _ Y (lv_sub hl [0, 1, 2, 3, 4, 5, 6, 7, 8, 9, 10] rfl)
      · have hrun := o_f hrun c_2
        refine lv_iload hx hb dL_league_41 (lv_at hl 10 rfl) ?_
        refine lv_iload hx hb dL_league_43 (lv_at hl 11 rfl) ?_
        refine lv_iload hx hb dL_league_45 (lv_at hl 9 rfl) ?_
        obtain ⟨q_4, e_5, hrun⟩ := o_bh hrun
        have kx6 : ∀ (H : Heap) (locs : List Loc) (ls : Array Slot), dy_ D A s (wB cI cS h g Λ π Ω) H locs → lv_has ls 14 [(0, .ref (h 8 0)), (1, .ref (g 1)), (2, .ref (g 2)), (3, .ref (g 3)), (4, .ref (g 4)), (5, .int a5), (6, .int a6), (7, .int a7), (8, .int a8), (9, .int a9), (11, .int a11)] → W p l e (rm_ 7 153) s m args below meth c H locs 0 0 (MQ below (me_Qi D (tL cI cS) A r (wB cI cS h g Λ π Ω)) args s 0 0 A) (F0 m 66 ls [.int q_4, .int a10]) := by
          intro H locs ls Y hl
          refine lv_iadd hx hb dL_league_66 ?_
          refine lv_istore (lv' := [(10, .int (a10 + q_4)), (0, .ref (h 8 0)), (1, .ref (g 1)), (2, .ref (g 2)), (3, .ref (g 3)), (4, .ref (g 4)), (5, .int a5), (6, .int a6), (7, .int a7), (8, .int a8), (9, .int a9), (11, .int a11)]) hx hb dL_league_67 hl (Nat.le_of_ble_eq_true rfl) rfl (fun ls hl => ?_)
          refine lv_iinc (v := (a11 + (1 : Int32))) (lv' := [(11, .int (a11 + (1 : Int32))), (10, .int (a10 + q_4)), (0, .ref (h 8 0)), (1, .ref (g 1)), (2, .ref (g 2)), (3, .ref (g 3)), (4, .ref (g 4)), (5, .int a5), (6, .int a6), (7, .int a7), (8, .int a8), (9, .int a9)]) hx hb dL_league_69 hl (k := 11) rfl (by rfl) (Nat.le_of_ble_eq_true rfl) rfl (fun ls hl => ?_)
          refine lv_goto (tgt := 32) hx hb dL_league_72 (by decide) ?_
          exact ih a5 a6 a7 a8 a9 (a10 + q_4) (a11 + (1 : Int32)) Λ π Ω q_x hrun kx _ _ _ Y (lv_sub hl [2, 3, 4, 5, 6, 7, 8, 9, 10, 11, 1, 0] rfl)
        have hrun := e_5
        refine lv_icmp_eq (tgt := 65) hx hb dL_league_47 (by decide) (fun c_3 => ?_) (fun c_3 => ?_)
        · have hrun := o_t hrun c_3
          refine lv_iconst (v := (0 : Int32)) hx hb dL_league_65 (by decide) ?_
          cases hrun
          exact kx6 _ _ _ Y (lv_sub hl [0, 1, 2, 3, 4, 5, 6, 7, 8, 9, 11] rfl)
        · have hrun := o_f hrun c_3
          refine lv_aload_n hx hb dL_league_50 rfl (lv_at hl 1 rfl) ?_
          refine lv_iload hx hb dL_league_51 (lv_at hl 11 rfl) ?_
          refine lv_iload hx hb dL_league_53 (lv_at hl 9 rfl) ?_
          obtain ⟨r_7, e_8, hrun⟩ := o_bh hrun
          refine cg_s (it := [0]) (ws2 := (wB cI cS h g Λ π Ω)) (As := [.ref (g 1), .int a11, .int a9]) (rest := [.int a10]) S hK hA hZ Y hl.1 (mL_ahead l D cI g Ω a11 a9 r_7 e_8) (cBQC h g Λ π Ω) (cBLC h g Λ π Ω) nBQ nBL dBQ (cBQP h g Λ π Ω Ω) nPQ rfl kL_18 ⟨Nat.le_of_ble_eq_true rfl, Nat.le_of_ble_eq_true rfl⟩ rfl rfl (Nat.le_of_ble_eq_true rfl) ⟨Nat.le_of_ble_eq_true rfl, Nat.le_of_ble_eq_true rfl⟩ dL_league_55 (fun H locs Y => ?_)
          refine lv_if_eq (tgt := 65) hx hb dL_league_58 (by decide) (fun c_9 => ?_) (fun c_9 => ?_)
          · have hrun := o_t hrun c_9
            refine lv_iconst (v := (0 : Int32)) hx hb dL_league_65 (by decide) ?_
            cases hrun
            exact kx6 _ _ _ Y (lv_sub hl [0, 1, 2, 3, 4, 5, 6, 7, 8, 9, 11] rfl)
          · have hrun := o_f hrun c_9
            refine lv_iconst (v := (1 : Int32)) hx hb dL_league_61 (by decide) ?_
            refine lv_goto (tgt := 66) hx hb dL_league_62 (by decide) ?_
            cases hrun
            exact kx6 _ _ _ Y (lv_sub hl [0, 1, 2, 3, 4, 5, 6, 7, 8, 9, 11] rfl)
  have lp157 : ∀ (n : Nat) (a5 : Int32) (a6 : Int32) (a7 : Int32) (a8 : Int32) (a9 : Int32) (a10 : Int32) (a11 : Int32) (Λ : s3_T) (π : Nat → Nat) (Ω : sg_T) (q_x : Int32), lL_league_157 n a5 a6 a7 a8 a9 a10 a11 Λ π Ω = some q_x → (∀ (H : Heap) (locs : List Loc) (ls : Array Slot), dy_ D A s (wB cI cS h g Λ π Ω) H locs → lv_has ls 14 [(0, .ref (h 8 0)), (1, .ref (g 1)), (2, .ref (g 2)), (3, .ref (g 3)), (4, .ref (g 4)), (5, .int a5), (6, .int a6), (7, .int a7), (8, .int a8), (9, .int a9), (10, .int a10)] → W p l e (rm_ 7 153) s m args below meth c H locs 0 0 (MQ below (me_Qi D (tL cI cS) A r (wB cI cS h g Λ π Ω)) args s 0 0 A) (F0 m 192 ls [])) → ∀ (H : Heap) (locs : List Loc) (ls : Array Slot), dy_ D A s (wB cI cS h g Λ π Ω) H locs → lv_has ls 14 [(0, .ref (h 8 0)), (1, .ref (g 1)), (2, .ref (g 2)), (3, .ref (g 3)), (4, .ref (g 4)), (5, .int a5), (6, .int a6), (7, .int a7), (8, .int a8), (9, .int a9), (10, .int a10), (11, .int a11)] → W p l e (rm_ 7 153) s m args below meth c H locs 0 0 (MQ below (me_Qi D (tL cI cS) A r (wB cI cS h g Λ π Ω)) args s 0 0 A) (F0 m 157 ls []) := by
    intro n
    induction n with
    | zero => intro a5 a6 a7 a8 a9 a10 a11 Λ π Ω q_x hrun; cases hrun
    | succ n ih =>
      intro a5 a6 a7 a8 a9 a10 a11 Λ π Ω q_x hrun kx H locs ls Y hl
      unfold lL_league_157 at hrun
      refine lv_iload hx hb dL_league_157 (lv_at hl 11 rfl) ?_
      refine lv_iconst (v := (5 : Int32)) hx hb dL_league_159 (by decide) ?_
      refine lv_icmp_ge (tgt := 192) hx hb dL_league_160 (by decide) (fun c_17 => ?_) (fun c_17 => ?_)
      · have hrun := o_t hrun c_17
        cases hrun
        exact kx _ _ _ Y (lv_sub hl [0, 1, 2, 3, 4, 5, 6, 7, 8, 9, 10] rfl)
      · have hrun := o_f hrun c_17
        refine lv_aload_n hx hb dL_league_163 rfl (lv_at hl 0 rfl) ?_
        refine lv_iload hx hb dL_league_164 (lv_at hl 9 rfl) ?_
        refine lv_iload hx hb dL_league_166 (lv_at hl 11 rfl) ?_
        obtain ⟨r_18, e_19, hrun⟩ := o_bh hrun
        refine cg_v (it := [0, 1]) (ws2 := (wB cI cS h g Λ π Ω)) (As := [.int a9, .int a11]) (rest := []) S hK hA hZ Y hl.1 (mX7_player l D cI cS h Λ π a9 a11 r_18 e_19) (cBLC h g Λ π Ω) (cBQC h g Λ π Ω) nBL nBQ dBL (cBLP h g Λ π Ω Λ π) nPL rfl kL_22 (T := TX7) (N := 5) rfl (q0 := 0) rfl ⟨Nat.le_of_ble_eq_true rfl, Nat.le_of_ble_eq_true rfl⟩ rfl rfl (Nat.le_of_ble_eq_true rfl) ⟨Nat.le_of_ble_eq_true rfl, Nat.le_of_ble_eq_true rfl⟩ dL_league_168 (fun H locs Y => ?_)
        refine lv_aload_n hx hb dL_league_171 rfl (lv_at hl 1 rfl) ?_
        refine lv_bipush (v := (6 : Int32)) hx hb dL_league_172 (by decide) ?_
        refine lv_iload hx hb dL_league_174 (lv_at hl 9 rfl) ?_
        refine lv_imul hx hb dL_league_176 ?_
        refine lv_iload hx hb dL_league_177 (lv_at hl 11 rfl) ?_
        refine lv_iadd hx hb dL_league_179 ?_
        obtain ⟨b_20, hrun⟩ := o_xh hrun
        refine ia S hK Y 85 0 (f := (Ω 1)) rfl rfl b_20 dL_league_180 ?_
        refine lv_icmp_eq (tgt := 186) hx hb dL_league_181 (by decide) (fun c_21 => ?_) (fun c_21 => ?_)
        · have hrun := o_t hrun c_21
          refine lv_iinc (v := (a11 + (1 : Int32))) (lv' := [(11, .int (a11 + (1 : Int32))), (0, .ref (h 8 0)), (1, .ref (g 1)), (2, .ref (g 2)), (3, .ref (g 3)), (4, .ref (g 4)), (5, .int a5), (6, .int a6), (7, .int a7), (8, .int a8), (9, .int a9), (10, .int a10)]) hx hb dL_league_186 hl (k := 11) rfl (by rfl) (Nat.le_of_ble_eq_true rfl) rfl (fun ls hl => ?_)
          refine lv_goto (tgt := 157) hx hb dL_league_189 (by decide) ?_
          exact ih a5 a6 a7 a8 a9 a10 (a11 + (1 : Int32)) Λ π Ω q_x hrun kx _ _ _ Y (lv_sub hl [1, 2, 3, 4, 5, 6, 7, 8, 9, 10, 11, 0] rfl)
        · have hrun := o_f hrun c_21
          cases hrun
  have lp17 : ∀ (n : Nat) (a5 : Int32) (a6 : Int32) (a7 : Int32) (a8 : Int32) (a9 : Int32) (Λ : s3_T) (π : Nat → Nat) (Ω : sg_T) (q_x : Int32 × Int32), lL_league_17 n a5 a6 a7 a8 a9 Λ π Ω = some q_x → (∀ (H : Heap) (locs : List Loc) (ls : Array Slot), dy_ D A s (wB cI cS h g Λ π Ω) H locs → lv_has ls 14 [(0, .ref (h 8 0)), (1, .ref (g 1)), (2, .ref (g 2)), (3, .ref (g 3)), (4, .ref (g 4)), (5, .int a5), (6, .int q_x.1), (7, .int a7), (8, .int q_x.2)] → W p l e (rm_ 7 153) s m args below meth c H locs 0 0 (MQ below (me_Qi D (tL cI cS) A r (wB cI cS h g Λ π Ω)) args s 0 0 A) (F0 m 260 ls [])) → ∀ (H : Heap) (locs : List Loc) (ls : Array Slot), dy_ D A s (wB cI cS h g Λ π Ω) H locs → lv_has ls 14 [(0, .ref (h 8 0)), (1, .ref (g 1)), (2, .ref (g 2)), (3, .ref (g 3)), (4, .ref (g 4)), (5, .int a5), (6, .int a6), (7, .int a7), (8, .int a8), (9, .int a9)] → W p l e (rm_ 7 153) s m args below meth c H locs 0 0 (MQ below (me_Qi D (tL cI cS) A r (wB cI cS h g Λ π Ω)) args s 0 0 A) (F0 m 17 ls []) := by
    intro n
    induction n with
    | zero => intro a5 a6 a7 a8 a9 Λ π Ω q_x hrun; cases hrun
    | succ n ih =>
      intro a5 a6 a7 a8 a9 Λ π Ω q_x hrun kx H locs ls Y hl
      unfold lL_league_17 at hrun
      refine lv_iload hx hb dL_league_17 (lv_at hl 9 rfl) ?_
      refine lv_aload hx hb dL_league_19 (lv_at hl 4 rfl) ?_
      refine lv_iconst (v := (4 : Int32)) hx hb dL_league_21 (by decide) ?_
      refine ia S hK Y 88 0 (f := (Ω 4)) rfl rfl (show ¬ ((4 : Int32) < 0 ∨ 11 ≤ ((4 : Int32)).toNatClampNeg) by decide) dL_league_22 ?_
      refine lv_icmp_ge (tgt := 260) hx hb dL_league_23 (by decide) (fun c_1 => ?_) (fun c_1 => ?_)
      · have hrun := o_t hrun c_1
        cases hrun
        exact kx _ _ _ Y (lv_sub hl [0, 1, 2, 3, 4, 5, 6, 7, 8] rfl)
      · have hrun := o_f hrun c_1
        refine lv_iconst (v := (0 : Int32)) hx hb dL_league_26 (by decide) ?_
        refine lv_istore (lv' := [(10, .int (0 : Int32)), (0, .ref (h 8 0)), (1, .ref (g 1)), (2, .ref (g 2)), (3, .ref (g 3)), (4, .ref (g 4)), (5, .int a5), (6, .int a6), (7, .int a7), (8, .int a8), (9, .int a9)]) hx hb dL_league_27 hl (Nat.le_of_ble_eq_true rfl) rfl (fun ls hl => ?_)
        refine lv_iconst (v := (0 : Int32)) hx hb dL_league_29 (by decide) ?_
        refine lv_istore (lv' := [(11, .int (0 : Int32)), (10, .int (0 : Int32)), (0, .ref (h 8 0)), (1, .ref (g 1)), (2, .ref (g 2)), (3, .ref (g 3)), (4, .ref (g 4)), (5, .int a5), (6, .int a6), (7, .int a7), (8, .int a8), (9, .int a9)]) hx hb dL_league_30 hl (Nat.le_of_ble_eq_true rfl) rfl (fun ls hl => ?_)
        obtain ⟨q_10, e_11, hrun⟩ := o_bh hrun
        refine lp32 70 a5 a6 a7 a8 a9 (0 : Int32) (0 : Int32) Λ π Ω q_10 e_11 (fun H locs ls Y hl => ?_) _ _ _ Y (lv_sub hl [2, 3, 4, 5, 6, 7, 8, 9, 10, 11, 1, 0] rfl)
        refine lv_iload hx hb dL_league_75 (lv_at hl 6 rfl) ?_
        refine lv_aload_n hx hb dL_league_77 rfl (lv_at hl 1 rfl) ?_
        refine lv_bipush (v := (6 : Int32)) hx hb dL_league_78 (by decide) ?_
        refine lv_iload hx hb dL_league_80 (lv_at hl 9 rfl) ?_
        refine lv_imul hx hb dL_league_82 ?_
        obtain ⟨b_12, hrun⟩ := o_xh hrun
        refine ia S hK Y 85 0 (f := (Ω 1)) rfl rfl b_12 dL_league_83 ?_
        refine lv_iadd hx hb dL_league_84 ?_
        refine lv_istore (lv' := [(6, .int (a6 + ((Ω 1) (((6 : Int32) * a9)).toNatClampNeg))), (0, .ref (h 8 0)), (1, .ref (g 1)), (2, .ref (g 2)), (3, .ref (g 3)), (4, .ref (g 4)), (5, .int a5), (7, .int a7), (8, .int a8), (9, .int a9), (10, .int q_10)]) hx hb dL_league_85 hl (Nat.le_of_ble_eq_true rfl) rfl (fun ls hl => ?_)
        refine lv_iload hx hb dL_league_87 (lv_at hl 8 rfl) ?_
        obtain ⟨q_14, e_15, hrun⟩ := o_bh hrun
        have kx16 : ∀ (H : Heap) (locs : List Loc) (ls : Array Slot), dy_ D A s (wB cI cS h g Λ π Ω) H locs → lv_has ls 14 [(0, .ref (h 8 0)), (1, .ref (g 1)), (2, .ref (g 2)), (3, .ref (g 3)), (4, .ref (g 4)), (5, .int a5), (6, .int (a6 + ((Ω 1) (((6 : Int32) * a9)).toNatClampNeg))), (7, .int a7), (9, .int a9), (10, .int q_10)] → W p l e (rm_ 7 153) s m args below meth c H locs 0 0 (MQ below (me_Qi D (tL cI cS) A r (wB cI cS h g Λ π Ω)) args s 0 0 A) (F0 m 152 ls [.int q_14]) := by
          intro H locs ls Y hl
          refine lv_istore (lv' := [(8, .int q_14), (0, .ref (h 8 0)), (1, .ref (g 1)), (2, .ref (g 2)), (3, .ref (g 3)), (4, .ref (g 4)), (5, .int a5), (6, .int (a6 + ((Ω 1) (((6 : Int32) * a9)).toNatClampNeg))), (7, .int a7), (9, .int a9), (10, .int q_10)]) hx hb dL_league_152 hl (Nat.le_of_ble_eq_true rfl) rfl (fun ls hl => ?_)
          refine lv_iconst (v := (0 : Int32)) hx hb dL_league_154 (by decide) ?_
          refine lv_istore (lv' := [(11, .int (0 : Int32)), (8, .int q_14), (0, .ref (h 8 0)), (1, .ref (g 1)), (2, .ref (g 2)), (3, .ref (g 3)), (4, .ref (g 4)), (5, .int a5), (6, .int (a6 + ((Ω 1) (((6 : Int32) * a9)).toNatClampNeg))), (7, .int a7), (9, .int a9), (10, .int q_10)]) hx hb dL_league_155 hl (Nat.le_of_ble_eq_true rfl) rfl (fun ls hl => ?_)
          obtain ⟨q_22, e_23, hrun⟩ := o_bh hrun
          refine lp157 70 a5 (a6 + ((Ω 1) (((6 : Int32) * a9)).toNatClampNeg)) a7 q_14 a9 q_10 (0 : Int32) Λ π Ω q_22 e_23 (fun H locs ls Y hl => ?_) _ _ _ Y (lv_sub hl [2, 3, 4, 5, 6, 7, 8, 9, 1, 10, 11, 0] rfl)
          refine lv_aload_n hx hb dL_league_192 rfl (lv_at hl 0 rfl) ?_
          refine lv_iload hx hb dL_league_193 (lv_at hl 9 rfl) ?_
          refine lv_iconst (v := (5 : Int32)) hx hb dL_league_195 (by decide) ?_
          obtain ⟨r_24, e_25, hrun⟩ := o_bh hrun
          refine cg_v (it := [0, 1]) (ws2 := (wB cI cS h g Λ π Ω)) (As := [.int a9, .int (5 : Int32)]) (rest := []) S hK hA hZ Y hl.1 (mX7_player l D cI cS h Λ π a9 (5 : Int32) r_24 e_25) (cBLC h g Λ π Ω) (cBQC h g Λ π Ω) nBL nBQ dBL (cBLP h g Λ π Ω Λ π) nPL rfl kL_22 (T := TX7) (N := 5) rfl (q0 := 0) rfl ⟨Nat.le_of_ble_eq_true rfl, Nat.le_of_ble_eq_true rfl⟩ rfl rfl (Nat.le_of_ble_eq_true rfl) ⟨Nat.le_of_ble_eq_true rfl, Nat.le_of_ble_eq_true rfl⟩ dL_league_196 (fun H locs Y => ?_)
          refine lv_iload hx hb dL_league_199 (lv_at hl 10 rfl) ?_
          refine lv_icmp_ne (tgt := 252) hx hb dL_league_201 (by decide) (fun c_26 => ?_) (fun c_26 => ?_)
          · have hrun := o_f hrun c_26
            cases hrun
          · have hrun := o_t hrun c_26
            refine lv_aload_n hx hb dL_league_204 rfl (lv_at hl 0 rfl) ?_
            refine lv_iload hx hb dL_league_205 (lv_at hl 10 rfl) ?_
            obtain ⟨r_27, e_28, hrun⟩ := o_bh hrun
            refine cg_v (it := [0, 1]) (ws2 := (wB cI cS h g Λ π Ω)) (As := [.int q_10]) (rest := []) S hK hA hZ Y hl.1 (mX7_ranked l D cI cS h Λ π q_10 r_27 e_28) (cBLC h g Λ π Ω) (cBQC h g Λ π Ω) nBL nBQ dBL (cBLP h g Λ π Ω Λ π) nPL rfl kL_25 (T := TX7) (N := 5) rfl (q0 := 0) rfl ⟨Nat.le_of_ble_eq_true rfl, Nat.le_of_ble_eq_true rfl⟩ rfl rfl (Nat.le_of_ble_eq_true rfl) ⟨Nat.le_of_ble_eq_true rfl, Nat.le_of_ble_eq_true rfl⟩ dL_league_207 (fun H locs Y => ?_)
            refine lv_iload hx hb dL_league_210 (lv_at hl 9 rfl) ?_
            refine lv_icmp_ne (tgt := 252) hx hb dL_league_212 (by decide) (fun c_29 => ?_) (fun c_29 => ?_)
            · have hrun := o_f hrun c_29
              cases hrun
            · have hrun := o_t hrun c_29
              refine lv_aload_n hx hb dL_league_215 rfl (lv_at hl 0 rfl) ?_
              refine lv_iload hx hb dL_league_216 (lv_at hl 9 rfl) ?_
              refine lv_bipush (v := (6 : Int32)) hx hb dL_league_218 (by decide) ?_
              obtain ⟨r_30, e_31, hrun⟩ := o_bh hrun
              refine cg_v (it := [0, 1]) (ws2 := (wB cI cS h g Λ π Ω)) (As := [.int a9, .int (6 : Int32)]) (rest := []) S hK hA hZ Y hl.1 (mX7_player l D cI cS h Λ π a9 (6 : Int32) r_30 e_31) (cBLC h g Λ π Ω) (cBQC h g Λ π Ω) nBL nBQ dBL (cBLP h g Λ π Ω Λ π) nPL rfl kL_22 (T := TX7) (N := 5) rfl (q0 := 0) rfl ⟨Nat.le_of_ble_eq_true rfl, Nat.le_of_ble_eq_true rfl⟩ rfl rfl (Nat.le_of_ble_eq_true rfl) ⟨Nat.le_of_ble_eq_true rfl, Nat.le_of_ble_eq_true rfl⟩ dL_league_220 (fun H locs Y => ?_)
              refine lv_aload_n hx hb dL_league_223 rfl (lv_at hl 1 rfl) ?_
              refine lv_bipush (v := (6 : Int32)) hx hb dL_league_224 (by decide) ?_
              refine lv_iload hx hb dL_league_226 (lv_at hl 9 rfl) ?_
              refine lv_imul hx hb dL_league_228 ?_
              refine lv_iconst (v := (5 : Int32)) hx hb dL_league_229 (by decide) ?_
              refine lv_iadd hx hb dL_league_230 ?_
              obtain ⟨b_32, hrun⟩ := o_xh hrun
              refine ia S hK Y 85 0 (f := (Ω 1)) rfl rfl b_32 dL_league_231 ?_
              obtain ⟨q_34, e_35, hrun⟩ := o_bh hrun
              have kx36 : ∀ (H : Heap) (locs : List Loc) (ls : Array Slot), dy_ D A s (wB cI cS h g Λ π Ω) H locs → lv_has ls 14 [(0, .ref (h 8 0)), (1, .ref (g 1)), (2, .ref (g 2)), (3, .ref (g 3)), (4, .ref (g 4)), (5, .int a5), (6, .int (a6 + ((Ω 1) (((6 : Int32) * a9)).toNatClampNeg))), (7, .int a7), (8, .int q_14), (9, .int a9)] → W p l e (rm_ 7 153) s m args below meth c H locs 0 0 (MQ below (me_Qi D (tL cI cS) A r (wB cI cS h g Λ π Ω)) args s 0 0 A) (F0 m 249 ls [.int q_34, .int r_30]) := by
                intro H locs ls Y hl
                refine lv_icmp_eq (tgt := 254) hx hb dL_league_249 (by decide) (fun c_37 => ?_) (fun c_37 => ?_)
                · have hrun := o_t hrun c_37
                  refine lv_iinc (v := (a9 + (1 : Int32))) (lv' := [(9, .int (a9 + (1 : Int32))), (0, .ref (h 8 0)), (1, .ref (g 1)), (2, .ref (g 2)), (3, .ref (g 3)), (4, .ref (g 4)), (5, .int a5), (6, .int (a6 + ((Ω 1) (((6 : Int32) * a9)).toNatClampNeg))), (7, .int a7), (8, .int q_14)]) hx hb dL_league_254 hl (k := 9) rfl (by rfl) (Nat.le_of_ble_eq_true rfl) rfl (fun ls hl => ?_)
                  refine lv_goto (tgt := 17) hx hb dL_league_257 (by decide) ?_
                  exact ih a5 (a6 + ((Ω 1) (((6 : Int32) * a9)).toNatClampNeg)) a7 q_14 (a9 + (1 : Int32)) Λ π Ω q_x hrun kx _ _ _ Y (lv_sub hl [1, 2, 3, 4, 5, 6, 7, 8, 9, 0] rfl)
                · have hrun := o_f hrun c_37
                  cases hrun
              have hrun := e_35
              refine lv_if_ge (tgt := 240) hx hb dL_league_232 (by decide) (fun c_33 => ?_) (fun c_33 => ?_)
              · have hrun := o_t hrun c_33
                refine lv_aload_n hx hb dL_league_240 rfl (lv_at hl 1 rfl) ?_
                refine lv_bipush (v := (6 : Int32)) hx hb dL_league_241 (by decide) ?_
                refine lv_iload hx hb dL_league_243 (lv_at hl 9 rfl) ?_
                refine lv_imul hx hb dL_league_245 ?_
                refine lv_iconst (v := (5 : Int32)) hx hb dL_league_246 (by decide) ?_
                refine lv_iadd hx hb dL_league_247 ?_
                refine ia S hK Y 85 0 (f := (Ω 1)) rfl rfl b_32 dL_league_248 ?_
                cases hrun
                exact kx36 _ _ _ Y (lv_sub hl [0, 1, 2, 3, 4, 5, 6, 7, 8, 9] rfl)
              · have hrun := o_f hrun c_33
                refine lv_iload hx hb dL_league_235 (lv_at hl 5 rfl) ?_
                refine lv_goto (tgt := 249) hx hb dL_league_237 (by decide) ?_
                cases hrun
                exact kx36 _ _ _ Y (lv_sub hl [0, 1, 2, 3, 4, 5, 6, 7, 8, 9] rfl)
        have hrun := e_15
        refine lv_if_lt (tgt := 145) hx hb dL_league_89 (by decide) (fun c_13 => ?_) (fun c_13 => ?_)
        · have hrun := o_t hrun c_13
          refine lv_iload hx hb dL_league_145 (lv_at hl 9 rfl) ?_
          refine lv_goto (tgt := 152) hx hb dL_league_147 (by decide) ?_
          cases hrun
          exact kx16 _ _ _ Y (lv_sub hl [1, 2, 3, 4, 5, 6, 0, 7, 9, 10] rfl)
        · have hrun := o_f hrun c_13
          refine lv_aload_n hx hb dL_league_92 rfl (lv_at hl 2 rfl) ?_
          refine lv_bipush (v := (6 : Int32)) hx hb dL_league_93 (by decide) ?_
          refine lv_iload hx hb dL_league_95 (lv_at hl 9 rfl) ?_
          refine lv_imul hx hb dL_league_97 ?_
          refine lv_iconst (v := (1 : Int32)) hx hb dL_league_98 (by decide) ?_
          refine lv_iadd hx hb dL_league_99 ?_
          obtain ⟨b_38, hrun⟩ := o_xh hrun
          refine ia S hK Y 85 0 (f := (Ω 1)) rfl rfl b_38 dL_league_100 ?_
          refine lv_aload_n hx hb dL_league_101 rfl (lv_at hl 2 rfl) ?_
          refine lv_bipush (v := (6 : Int32)) hx hb dL_league_102 (by decide) ?_
          refine lv_iload hx hb dL_league_104 (lv_at hl 8 rfl) ?_
          refine lv_imul hx hb dL_league_106 ?_
          refine lv_iconst (v := (1 : Int32)) hx hb dL_league_107 (by decide) ?_
          refine lv_iadd hx hb dL_league_108 ?_
          obtain ⟨b_39, hrun⟩ := o_xh hrun
          refine ia S hK Y 85 0 (f := (Ω 1)) rfl rfl b_39 dL_league_109 ?_
          refine lv_icmp_lt (tgt := 145) hx hb dL_league_110 (by decide) (fun c_40 => ?_) (fun c_40 => ?_)
          · have hrun := o_t hrun c_40
            refine lv_iload hx hb dL_league_145 (lv_at hl 9 rfl) ?_
            refine lv_goto (tgt := 152) hx hb dL_league_147 (by decide) ?_
            cases hrun
            exact kx16 _ _ _ Y (lv_sub hl [1, 2, 3, 4, 5, 6, 0, 7, 9, 10] rfl)
          · have hrun := o_f hrun c_40
            refine lv_aload_n hx hb dL_league_113 rfl (lv_at hl 2 rfl) ?_
            refine lv_bipush (v := (6 : Int32)) hx hb dL_league_114 (by decide) ?_
            refine lv_iload hx hb dL_league_116 (lv_at hl 9 rfl) ?_
            refine lv_imul hx hb dL_league_118 ?_
            refine lv_iconst (v := (1 : Int32)) hx hb dL_league_119 (by decide) ?_
            refine lv_iadd hx hb dL_league_120 ?_
            refine ia S hK Y 85 0 (f := (Ω 1)) rfl rfl b_38 dL_league_121 ?_
            refine lv_aload_n hx hb dL_league_122 rfl (lv_at hl 2 rfl) ?_
            refine lv_bipush (v := (6 : Int32)) hx hb dL_league_123 (by decide) ?_
            refine lv_iload hx hb dL_league_125 (lv_at hl 8 rfl) ?_
            refine lv_imul hx hb dL_league_127 ?_
            refine lv_iconst (v := (1 : Int32)) hx hb dL_league_128 (by decide) ?_
            refine lv_iadd hx hb dL_league_129 ?_
            refine ia S hK Y 85 0 (f := (Ω 1)) rfl rfl b_39 dL_league_130 ?_
            refine lv_icmp_ne (tgt := 150) hx hb dL_league_131 (by decide) (fun c_41 => ?_) (fun c_41 => ?_)
            · have hrun := o_f hrun c_41
              refine lv_iload hx hb dL_league_150 (lv_at hl 8 rfl) ?_
              cases hrun
              exact kx16 _ _ _ Y (lv_sub hl [1, 2, 3, 4, 5, 6, 0, 7, 9, 10] rfl)
            · have hrun := o_t hrun c_41
              refine lv_aload_n hx hb dL_league_134 rfl (lv_at hl 2 rfl) ?_
              refine lv_iload hx hb dL_league_135 (lv_at hl 8 rfl) ?_
              refine lv_iload hx hb dL_league_137 (lv_at hl 9 rfl) ?_
              obtain ⟨r_42, e_43, hrun⟩ := o_bh hrun
              refine cg_s (it := [0]) (ws2 := (wB cI cS h g Λ π Ω)) (As := [.ref (g 1), .int a8, .int a9]) (rest := []) S hK hA hZ Y hl.1 (mL_ahead l D cI g Ω a8 a9 r_42 e_43) (cBQC h g Λ π Ω) (cBLC h g Λ π Ω) nBQ nBL dBQ (cBQP h g Λ π Ω Ω) nPQ rfl kL_18 ⟨Nat.le_of_ble_eq_true rfl, Nat.le_of_ble_eq_true rfl⟩ rfl rfl (Nat.le_of_ble_eq_true rfl) ⟨Nat.le_of_ble_eq_true rfl, Nat.le_of_ble_eq_true rfl⟩ dL_league_139 (fun H locs Y => ?_)
              refine lv_if_eq (tgt := 150) hx hb dL_league_142 (by decide) (fun c_44 => ?_) (fun c_44 => ?_)
              · have hrun := o_t hrun c_44
                refine lv_iload hx hb dL_league_150 (lv_at hl 8 rfl) ?_
                cases hrun
                exact kx16 _ _ _ Y (lv_sub hl [1, 2, 3, 4, 5, 6, 0, 7, 9, 10] rfl)
              · have hrun := o_f hrun c_44
                refine lv_iload hx hb dL_league_145 (lv_at hl 9 rfl) ?_
                refine lv_goto (tgt := 152) hx hb dL_league_147 (by decide) ?_
                cases hrun
                exact kx16 _ _ _ Y (lv_sub hl [1, 2, 3, 4, 5, 6, 0, 7, 9, 10] rfl)
  have lp266 : ∀ (n : Nat) (a5 : Int32) (a6 : Int32) (a7 : Int32) (a8 : Int32) (a9 : Int32) (a10 : Int32) (Λ : s3_T) (π : Nat → Nat) (Ω : sg_T) (q_x : Int32 × Int32), lL_league_266 n a5 a6 a7 a8 a9 a10 Λ π Ω = some q_x → (∀ (H : Heap) (locs : List Loc) (ls : Array Slot), dy_ D A s (wB cI cS h g Λ π Ω) H locs → lv_has ls 14 [(0, .ref (h 8 0)), (1, .ref (g 1)), (2, .ref (g 2)), (3, .ref (g 3)), (4, .ref (g 4)), (5, .int a5), (6, .int a6), (7, .int q_x.1), (8, .int a8), (9, .int q_x.2)] → W p l e (rm_ 7 153) s m args below meth c H locs 0 0 (MQ below (me_Qi D (tL cI cS) A r (wB cI cS h g Λ π Ω)) args s 0 0 A) (F0 m 462 ls [])) → ∀ (H : Heap) (locs : List Loc) (ls : Array Slot), dy_ D A s (wB cI cS h g Λ π Ω) H locs → lv_has ls 14 [(0, .ref (h 8 0)), (1, .ref (g 1)), (2, .ref (g 2)), (3, .ref (g 3)), (4, .ref (g 4)), (5, .int a5), (6, .int a6), (7, .int a7), (8, .int a8), (9, .int a9), (10, .int a10)] → W p l e (rm_ 7 153) s m args below meth c H locs 0 0 (MQ below (me_Qi D (tL cI cS) A r (wB cI cS h g Λ π Ω)) args s 0 0 A) (F0 m 266 ls []) := by
    intro n
    induction n with
    | zero => intro a5 a6 a7 a8 a9 a10 Λ π Ω q_x hrun; cases hrun
    | succ n ih =>
      intro a5 a6 a7 a8 a9 a10 Λ π Ω q_x hrun kx H locs ls Y hl
      unfold lL_league_266 at hrun
      refine lv_iload hx hb dL_league_266 (lv_at hl 10 rfl) ?_
      refine lv_bipush (v := (16 : Int32)) hx hb dL_league_268 (by decide) ?_
      refine lv_icmp_ge (tgt := 462) hx hb dL_league_270 (by decide) (fun c_47 => ?_) (fun c_47 => ?_)
      · have hrun := o_t hrun c_47
        cases hrun
        exact kx _ _ _ Y (lv_sub hl [0, 1, 2, 3, 4, 5, 6, 7, 8, 9] rfl)
      · have hrun := o_f hrun c_47
        refine lv_iload hx hb dL_league_273 (lv_at hl 7 rfl) ?_
        refine lv_aload_n hx hb dL_league_275 rfl (lv_at hl 3 rfl) ?_
        refine lv_iconst (v := (2 : Int32)) hx hb dL_league_276 (by decide) ?_
        refine lv_iload hx hb dL_league_277 (lv_at hl 10 rfl) ?_
        refine lv_imul hx hb dL_league_279 ?_
        obtain ⟨b_48, hrun⟩ := o_xh hrun
        refine ia S hK Y 87 0 (f := (Ω 3)) rfl rfl b_48 dL_league_280 ?_
        refine lv_iadd hx hb dL_league_281 ?_
        refine lv_istore (lv' := [(7, .int (a7 + ((Ω 3) (((2 : Int32) * a10)).toNatClampNeg))), (0, .ref (h 8 0)), (1, .ref (g 1)), (2, .ref (g 2)), (3, .ref (g 3)), (4, .ref (g 4)), (5, .int a5), (6, .int a6), (8, .int a8), (9, .int a9), (10, .int a10)]) hx hb dL_league_282 hl (Nat.le_of_ble_eq_true rfl) rfl (fun ls hl => ?_)
        refine lv_aload_n hx hb dL_league_284 rfl (lv_at hl 1 rfl) ?_
        refine lv_iload hx hb dL_league_285 (lv_at hl 10 rfl) ?_
        refine lv_iconst (v := (0 : Int32)) hx hb dL_league_287 (by decide) ?_
        obtain ⟨r_49, e_50, hrun⟩ := o_bh hrun
        refine cg_v (it := [0, 1]) (ws2 := (wB cI cS h g Λ π Ω)) (As := [.int a10, .int (0 : Int32)]) (rest := []) S hK hA hZ Y hl.1 (mX7_spot l D cI cS h Λ π a10 (0 : Int32) r_49 e_50) (cBLC h g Λ π Ω) (cBQC h g Λ π Ω) nBL nBQ dBL (cBLP h g Λ π Ω Λ π) nPL rfl kL_29 (T := TX7) (N := 5) rfl (q0 := 0) rfl ⟨Nat.le_of_ble_eq_true rfl, Nat.le_of_ble_eq_true rfl⟩ rfl rfl (Nat.le_of_ble_eq_true rfl) ⟨Nat.le_of_ble_eq_true rfl, Nat.le_of_ble_eq_true rfl⟩ dL_league_288 (fun H locs Y => ?_)
        refine lv_iconst (v := (0 : Int32)) hx hb dL_league_291 (by decide) ?_
        refine lv_iload hx hb dL_league_292 (lv_at hl 10 rfl) ?_
        obtain ⟨r_51, e_52, hrun⟩ := o_bh hrun
        refine cp_s (As := [.int (0 : Int32), .int a10]) (rest := [.int r_49]) S hK hA hZ Y hl.1 (mL_apart l D (0 : Int32) a10 r_51 e_52) kL_10 ⟨Nat.le_of_ble_eq_true rfl, Nat.le_of_ble_eq_true rfl⟩ rfl rfl (Nat.le_of_ble_eq_true rfl) ⟨Nat.le_of_ble_eq_true rfl, Nat.le_of_ble_eq_true rfl⟩ dL_league_294 (fun H locs Y => ?_)
        refine lv_icmp_ne (tgt := 346) hx hb dL_league_297 (by decide) (fun c_53 => ?_) (fun c_53 => ?_)
        · have hrun := o_f hrun c_53
          cases hrun
        · have hrun := o_t hrun c_53
          refine lv_aload_n hx hb dL_league_300 rfl (lv_at hl 1 rfl) ?_
          refine lv_iload hx hb dL_league_301 (lv_at hl 10 rfl) ?_
          refine lv_iconst (v := (1 : Int32)) hx hb dL_league_303 (by decide) ?_
          obtain ⟨r_54, e_55, hrun⟩ := o_bh hrun
          refine cg_v (it := [0, 1]) (ws2 := (wB cI cS h g Λ π Ω)) (As := [.int a10, .int (1 : Int32)]) (rest := []) S hK hA hZ Y hl.1 (mX7_spot l D cI cS h Λ π a10 (1 : Int32) r_54 e_55) (cBLC h g Λ π Ω) (cBQC h g Λ π Ω) nBL nBQ dBL (cBLP h g Λ π Ω Λ π) nPL rfl kL_29 (T := TX7) (N := 5) rfl (q0 := 0) rfl ⟨Nat.le_of_ble_eq_true rfl, Nat.le_of_ble_eq_true rfl⟩ rfl rfl (Nat.le_of_ble_eq_true rfl) ⟨Nat.le_of_ble_eq_true rfl, Nat.le_of_ble_eq_true rfl⟩ dL_league_304 (fun H locs Y => ?_)
          refine lv_aload_n hx hb dL_league_307 rfl (lv_at hl 3 rfl) ?_
          refine lv_iload hx hb dL_league_308 (lv_at hl 10 rfl) ?_
          obtain ⟨b_56, hrun⟩ := o_xh hrun
          refine ia S hK Y 86 0 (f := (Ω 2)) rfl rfl b_56 dL_league_310 ?_
          refine lv_icmp_ne (tgt := 346) hx hb dL_league_311 (by decide) (fun c_57 => ?_) (fun c_57 => ?_)
          · have hrun := o_f hrun c_57
            cases hrun
          · have hrun := o_t hrun c_57
            refine lv_aload_n hx hb dL_league_314 rfl (lv_at hl 1 rfl) ?_
            refine lv_iload hx hb dL_league_315 (lv_at hl 10 rfl) ?_
            refine lv_iconst (v := (2 : Int32)) hx hb dL_league_317 (by decide) ?_
            obtain ⟨r_58, e_59, hrun⟩ := o_bh hrun
            refine cg_v (it := [0, 1]) (ws2 := (wB cI cS h g Λ π Ω)) (As := [.int a10, .int (2 : Int32)]) (rest := []) S hK hA hZ Y hl.1 (mX7_spot l D cI cS h Λ π a10 (2 : Int32) r_58 e_59) (cBLC h g Λ π Ω) (cBQC h g Λ π Ω) nBL nBQ dBL (cBLP h g Λ π Ω Λ π) nPL rfl kL_29 (T := TX7) (N := 5) rfl (q0 := 0) rfl ⟨Nat.le_of_ble_eq_true rfl, Nat.le_of_ble_eq_true rfl⟩ rfl rfl (Nat.le_of_ble_eq_true rfl) ⟨Nat.le_of_ble_eq_true rfl, Nat.le_of_ble_eq_true rfl⟩ dL_league_318 (fun H locs Y => ?_)
            refine lv_aload_n hx hb dL_league_321 rfl (lv_at hl 4 rfl) ?_
            refine lv_iconst (v := (2 : Int32)) hx hb dL_league_322 (by decide) ?_
            refine lv_iload hx hb dL_league_323 (lv_at hl 10 rfl) ?_
            refine lv_imul hx hb dL_league_325 ?_
            refine ia S hK Y 87 0 (f := (Ω 3)) rfl rfl b_48 dL_league_326 ?_
            refine lv_icmp_ne (tgt := 346) hx hb dL_league_327 (by decide) (fun c_60 => ?_) (fun c_60 => ?_)
            · have hrun := o_f hrun c_60
              cases hrun
            · have hrun := o_t hrun c_60
              refine lv_aload_n hx hb dL_league_330 rfl (lv_at hl 1 rfl) ?_
              refine lv_iload hx hb dL_league_331 (lv_at hl 10 rfl) ?_
              refine lv_iconst (v := (3 : Int32)) hx hb dL_league_333 (by decide) ?_
              obtain ⟨r_61, e_62, hrun⟩ := o_bh hrun
              refine cg_v (it := [0, 1]) (ws2 := (wB cI cS h g Λ π Ω)) (As := [.int a10, .int (3 : Int32)]) (rest := []) S hK hA hZ Y hl.1 (mX7_spot l D cI cS h Λ π a10 (3 : Int32) r_61 e_62) (cBLC h g Λ π Ω) (cBQC h g Λ π Ω) nBL nBQ dBL (cBLP h g Λ π Ω Λ π) nPL rfl kL_29 (T := TX7) (N := 5) rfl (q0 := 0) rfl ⟨Nat.le_of_ble_eq_true rfl, Nat.le_of_ble_eq_true rfl⟩ rfl rfl (Nat.le_of_ble_eq_true rfl) ⟨Nat.le_of_ble_eq_true rfl, Nat.le_of_ble_eq_true rfl⟩ dL_league_334 (fun H locs Y => ?_)
              refine lv_aload_n hx hb dL_league_337 rfl (lv_at hl 2 rfl) ?_
              refine lv_iload hx hb dL_league_338 (lv_at hl 10 rfl) ?_
              obtain ⟨r_63, e_64, hrun⟩ := o_bh hrun
              refine cg_s (it := [0]) (ws2 := (wB cI cS h g Λ π Ω)) (As := [.ref (g 1), .int a10]) (rest := [.int r_61]) S hK hA hZ Y hl.1 (mL_here l D cI g Ω a10 r_63 e_64) (cBQC h g Λ π Ω) (cBLC h g Λ π Ω) nBQ nBL dBQ (cBQP h g Λ π Ω Ω) nPQ rfl kL_32 ⟨Nat.le_of_ble_eq_true rfl, Nat.le_of_ble_eq_true rfl⟩ rfl rfl (Nat.le_of_ble_eq_true rfl) ⟨Nat.le_of_ble_eq_true rfl, Nat.le_of_ble_eq_true rfl⟩ dL_league_340 (fun H locs Y => ?_)
              refine lv_icmp_eq (tgt := 348) hx hb dL_league_343 (by decide) (fun c_65 => ?_) (fun c_65 => ?_)
              · have hrun := o_t hrun c_65
                refine lv_aload hx hb dL_league_348 (lv_at hl 5 rfl) ?_
                refine lv_bipush (v := (6 : Int32)) hx hb dL_league_350 (by decide) ?_
                refine ia S hK Y 88 0 (f := (Ω 4)) rfl rfl (show ¬ ((6 : Int32) < 0 ∨ 11 ≤ ((6 : Int32)).toNatClampNeg) by decide) dL_league_352 ?_
                refine lv_iconst (v := (1 : Int32)) hx hb dL_league_353 (by decide) ?_
                obtain ⟨q_67, e_68, hrun⟩ := o_bh hrun
                have kx69 : ∀ (H : Heap) (locs : List Loc) (ls : Array Slot), dy_ D A s (wB cI cS h g Λ π Ω) H locs → lv_has ls 14 [(0, .ref (h 8 0)), (1, .ref (g 1)), (2, .ref (g 2)), (3, .ref (g 3)), (4, .ref (g 4)), (5, .int a5), (6, .int a6), (7, .int (a7 + ((Ω 3) (((2 : Int32) * a10)).toNatClampNeg))), (8, .int a8), (9, .int q_67), (10, .int a10)] → W p l e (rm_ 7 153) s m args below meth c H locs 0 0 (MQ below (me_Qi D (tL cI cS) A r (wB cI cS h g Λ π Ω)) args s 0 0 A) (F0 m 456 ls []) := by
                  intro H locs ls Y hl
                  refine lv_iinc (v := (a10 + (1 : Int32))) (lv' := [(10, .int (a10 + (1 : Int32))), (0, .ref (h 8 0)), (1, .ref (g 1)), (2, .ref (g 2)), (3, .ref (g 3)), (4, .ref (g 4)), (5, .int a5), (6, .int a6), (7, .int (a7 + ((Ω 3) (((2 : Int32) * a10)).toNatClampNeg))), (8, .int a8), (9, .int q_67)]) hx hb dL_league_456 hl (k := 10) rfl (by rfl) (Nat.le_of_ble_eq_true rfl) rfl (fun ls hl => ?_)
                  refine lv_goto (tgt := 266) hx hb dL_league_459 (by decide) ?_
                  exact ih a5 a6 (a7 + ((Ω 3) (((2 : Int32) * a10)).toNatClampNeg)) a8 q_67 (a10 + (1 : Int32)) Λ π Ω q_x hrun kx _ _ _ Y (lv_sub hl [1, 2, 3, 4, 5, 6, 7, 8, 9, 10, 0] rfl)
                have hrun := e_68
                refine lv_icmp_ne (tgt := 456) hx hb dL_league_354 (by decide) (fun c_66 => ?_) (fun c_66 => ?_)
                · have hrun := o_f hrun c_66
                  cases hrun
                  exact kx69 _ _ _ Y (lv_sub hl [1, 2, 3, 4, 5, 6, 7, 0, 8, 9, 10] rfl)
                · have hrun := o_t hrun c_66
                  refine lv_aload_n hx hb dL_league_357 rfl (lv_at hl 4 rfl) ?_
                  refine lv_aload hx hb dL_league_358 (lv_at hl 5 rfl) ?_
                  refine lv_iload hx hb dL_league_360 (lv_at hl 10 rfl) ?_
                  obtain ⟨r_70, e_71, hrun⟩ := o_bh hrun
                  refine cg_s (it := [0]) (ws2 := (wB cI cS h g Λ π Ω)) (As := [.ref (g 3), .ref (g 4), .int a10]) (rest := []) S hK hA hZ Y hl.1 (mL_good l D cI g Ω a10 r_70 e_71) (cBQC h g Λ π Ω) (cBLC h g Λ π Ω) nBQ nBL dBQ (cBQP h g Λ π Ω Ω) nPQ rfl kL_36 ⟨Nat.le_of_ble_eq_true rfl, Nat.le_of_ble_eq_true rfl⟩ rfl rfl (Nat.le_of_ble_eq_true rfl) ⟨Nat.le_of_ble_eq_true rfl, Nat.le_of_ble_eq_true rfl⟩ dL_league_362 (fun H locs Y => ?_)
                  refine lv_if_eq (tgt := 456) hx hb dL_league_365 (by decide) (fun c_72 => ?_) (fun c_72 => ?_)
                  · have hrun := o_t hrun c_72
                    cases hrun
                    exact kx69 _ _ _ Y (lv_sub hl [1, 2, 3, 4, 5, 6, 7, 0, 8, 9, 10] rfl)
                  · have hrun := o_f hrun c_72
                    refine lv_aload_n hx hb dL_league_368 rfl (lv_at hl 2 rfl) ?_
                    refine lv_iload hx hb dL_league_369 (lv_at hl 10 rfl) ?_
                    obtain ⟨r_73, e_74, hrun⟩ := o_bh hrun
                    refine cg_s (it := [0]) (ws2 := (wB cI cS h g Λ π Ω)) (As := [.ref (g 1), .int a10]) (rest := []) S hK hA hZ Y hl.1 (mL_here l D cI g Ω a10 r_73 e_74) (cBQC h g Λ π Ω) (cBLC h g Λ π Ω) nBQ nBL dBQ (cBQP h g Λ π Ω Ω) nPQ rfl kL_32 ⟨Nat.le_of_ble_eq_true rfl, Nat.le_of_ble_eq_true rfl⟩ rfl rfl (Nat.le_of_ble_eq_true rfl) ⟨Nat.le_of_ble_eq_true rfl, Nat.le_of_ble_eq_true rfl⟩ dL_league_371 (fun H locs Y => ?_)
                    obtain ⟨r_75, e_76, hrun⟩ := o_bh hrun
                    refine cp_s (As := [.int r_73]) (rest := []) S hK hA hZ Y hl.1 (mL_count l D r_73 r_75 e_76) kL_40 ⟨Nat.le_of_ble_eq_true rfl, Nat.le_of_ble_eq_true rfl⟩ rfl rfl (Nat.le_of_ble_eq_true rfl) ⟨Nat.le_of_ble_eq_true rfl, Nat.le_of_ble_eq_true rfl⟩ dL_league_374 (fun H locs Y => ?_)
                    refine lv_iconst (v := (2 : Int32)) hx hb dL_league_377 (by decide) ?_
                    refine lv_icmp_ge (tgt := 456) hx hb dL_league_378 (by decide) (fun c_77 => ?_) (fun c_77 => ?_)
                    · have hrun := o_t hrun c_77
                      cases hrun
                      exact kx69 _ _ _ Y (lv_sub hl [1, 2, 3, 4, 5, 6, 7, 0, 8, 9, 10] rfl)
                    · have hrun := o_f hrun c_77
                      refine lv_iload hx hb dL_league_381 (lv_at hl 9 rfl) ?_
                      obtain ⟨q_79, e_80, hrun⟩ := o_bh hrun
                      have kx81 : ∀ (H : Heap) (locs : List Loc) (ls : Array Slot), dy_ D A s (wB cI cS h g Λ π Ω) H locs → lv_has ls 14 [(0, .ref (h 8 0)), (1, .ref (g 1)), (2, .ref (g 2)), (3, .ref (g 3)), (4, .ref (g 4)), (5, .int a5), (6, .int a6), (7, .int (a7 + ((Ω 3) (((2 : Int32) * a10)).toNatClampNeg))), (8, .int a8), (9, .int a9), (10, .int a10)] → W p l e (rm_ 7 153) s m args below meth c H locs 0 0 (MQ below (me_Qi D (tL cI cS) A r (wB cI cS h g Λ π Ω)) args s 0 0 A) (F0 m 440 ls [.int q_79]) := by
                        intro H locs ls Y hl
                        refine lv_istore (lv' := [(11, .int q_79), (0, .ref (h 8 0)), (1, .ref (g 1)), (2, .ref (g 2)), (3, .ref (g 3)), (4, .ref (g 4)), (5, .int a5), (6, .int a6), (7, .int (a7 + ((Ω 3) (((2 : Int32) * a10)).toNatClampNeg))), (8, .int a8), (9, .int a9), (10, .int a10)]) hx hb dL_league_440 hl (Nat.le_of_ble_eq_true rfl) rfl (fun ls hl => ?_)
                        refine lv_iload hx hb dL_league_442 (lv_at hl 0 rfl) ?_
                        obtain ⟨q_83, e_84, hrun⟩ := o_bh hrun
                        have kx85 : ∀ (H : Heap) (locs : List Loc) (ls : Array Slot), dy_ D A s (wB cI cS h g Λ π Ω) H locs → lv_has ls 14 [(0, .ref (h 8 0)), (1, .ref (g 1)), (2, .ref (g 2)), (3, .ref (g 3)), (4, .ref (g 4)), (5, .int a5), (6, .int a6), (7, .int (a7 + ((Ω 3) (((2 : Int32) * a10)).toNatClampNeg))), (8, .int a8), (10, .int a10)] → W p l e (rm_ 7 153) s m args below meth c H locs 0 0 (MQ below (me_Qi D (tL cI cS) A r (wB cI cS h g Λ π Ω)) args s 0 0 A) (F0 m 454 ls [.int q_83]) := by
                          intro H locs ls Y hl
                          refine lv_istore (lv' := [(9, .int q_83), (0, .ref (h 8 0)), (1, .ref (g 1)), (2, .ref (g 2)), (3, .ref (g 3)), (4, .ref (g 4)), (5, .int a5), (6, .int a6), (7, .int (a7 + ((Ω 3) (((2 : Int32) * a10)).toNatClampNeg))), (8, .int a8), (10, .int a10)]) hx hb dL_league_454 hl (Nat.le_of_ble_eq_true rfl) rfl (fun ls hl => ?_)
                          cases hrun
                          exact kx69 _ _ _ Y (lv_sub hl [1, 2, 3, 4, 5, 6, 7, 8, 9, 0, 10] rfl)
                        have hrun := e_84
                        refine lv_if_le (tgt := 452) hx hb dL_league_444 (by decide) (fun c_82 => ?_) (fun c_82 => ?_)
                        · have hrun := o_t hrun c_82
                          refine lv_iload hx hb dL_league_452 (lv_at hl 10 rfl) ?_
                          cases hrun
                          exact kx85 _ _ _ Y (lv_sub hl [1, 2, 3, 4, 5, 6, 7, 8, 9, 11] rfl)
                        · have hrun := o_f hrun c_82
                          refine lv_iload hx hb dL_league_447 (lv_at hl 11 rfl) ?_
                          refine lv_goto (tgt := 454) hx hb dL_league_449 (by decide) ?_
                          cases hrun
                          exact kx85 _ _ _ Y (lv_sub hl [1, 2, 3, 4, 5, 6, 7, 8, 9, 11] rfl)
                      have hrun := e_80
                      refine lv_if_ge (tgt := 390) hx hb dL_league_383 (by decide) (fun c_78 => ?_) (fun c_78 => ?_)
                      · have hrun := o_t hrun c_78
                        refine lv_sipush (v := (1000 : Int32)) hx hb dL_league_390 (by decide) ?_
                        refine lv_iconst (v := (0 : Int32)) hx hb dL_league_393 (by decide) ?_
                        refine lv_iload hx hb dL_league_394 (lv_at hl 10 rfl) ?_
                        obtain ⟨r_86, e_87, hrun⟩ := o_bh hrun
                        refine cp_s (As := [.int (0 : Int32), .int a10]) (rest := [.int (1000 : Int32)]) S hK hA hZ Y hl.1 (mL_apart l D (0 : Int32) a10 r_86 e_87) kL_10 ⟨Nat.le_of_ble_eq_true rfl, Nat.le_of_ble_eq_true rfl⟩ rfl rfl (Nat.le_of_ble_eq_true rfl) ⟨Nat.le_of_ble_eq_true rfl, Nat.le_of_ble_eq_true rfl⟩ dL_league_396 (fun H locs Y => ?_)
                        refine lv_iconst (v := (0 : Int32)) hx hb dL_league_399 (by decide) ?_
                        refine lv_iload hx hb dL_league_400 (lv_at hl 9 rfl) ?_
                        obtain ⟨r_88, e_89, hrun⟩ := o_bh hrun
                        refine cp_s (As := [.int (0 : Int32), .int a9]) (rest := [.int r_86, .int (1000 : Int32)]) S hK hA hZ Y hl.1 (mL_apart l D (0 : Int32) a9 r_88 e_89) kL_10 ⟨Nat.le_of_ble_eq_true rfl, Nat.le_of_ble_eq_true rfl⟩ rfl rfl (Nat.le_of_ble_eq_true rfl) ⟨Nat.le_of_ble_eq_true rfl, Nat.le_of_ble_eq_true rfl⟩ dL_league_402 (fun H locs Y => ?_)
                        refine lv_isub hx hb dL_league_405 ?_
                        refine lv_imul hx hb dL_league_406 ?_
                        refine lv_bipush (v := (10 : Int32)) hx hb dL_league_407 (by decide) ?_
                        refine lv_aload_n hx hb dL_league_409 rfl (lv_at hl 3 rfl) ?_
                        refine lv_iload hx hb dL_league_410 (lv_at hl 10 rfl) ?_
                        refine ia S hK Y 86 0 (f := (Ω 2)) rfl rfl b_56 dL_league_412 ?_
                        refine lv_aload_n hx hb dL_league_413 rfl (lv_at hl 3 rfl) ?_
                        refine lv_iload hx hb dL_league_414 (lv_at hl 9 rfl) ?_
                        obtain ⟨b_90, hrun⟩ := o_xh hrun
                        refine ia S hK Y 86 0 (f := (Ω 2)) rfl rfl b_90 dL_league_416 ?_
                        refine lv_isub hx hb dL_league_417 ?_
                        refine lv_imul hx hb dL_league_418 ?_
                        refine lv_isub hx hb dL_league_419 ?_
                        refine lv_aload_n hx hb dL_league_420 rfl (lv_at hl 2 rfl) ?_
                        refine lv_iload hx hb dL_league_421 (lv_at hl 10 rfl) ?_
                        obtain ⟨r_91, e_92, hrun⟩ := o_bh hrun
                        refine cg_s (it := [0]) (ws2 := (wB cI cS h g Λ π Ω)) (As := [.ref (g 1), .int a10]) (rest := [.int (((1000 : Int32) * (r_86 - r_88)) - ((10 : Int32) * (((Ω 2) (a10).toNatClampNeg) - ((Ω 2) (a9).toNatClampNeg))))]) S hK hA hZ Y hl.1 (mL_here l D cI g Ω a10 r_91 e_92) (cBQC h g Λ π Ω) (cBLC h g Λ π Ω) nBQ nBL dBQ (cBQP h g Λ π Ω Ω) nPQ rfl kL_32 ⟨Nat.le_of_ble_eq_true rfl, Nat.le_of_ble_eq_true rfl⟩ rfl rfl (Nat.le_of_ble_eq_true rfl) ⟨Nat.le_of_ble_eq_true rfl, Nat.le_of_ble_eq_true rfl⟩ dL_league_423 (fun H locs Y => ?_)
                        obtain ⟨r_93, e_94, hrun⟩ := o_bh hrun
                        refine cp_s (As := [.int r_91]) (rest := [.int (((1000 : Int32) * (r_86 - r_88)) - ((10 : Int32) * (((Ω 2) (a10).toNatClampNeg) - ((Ω 2) (a9).toNatClampNeg))))]) S hK hA hZ Y hl.1 (mL_count l D r_91 r_93 e_94) kL_40 ⟨Nat.le_of_ble_eq_true rfl, Nat.le_of_ble_eq_true rfl⟩ rfl rfl (Nat.le_of_ble_eq_true rfl) ⟨Nat.le_of_ble_eq_true rfl, Nat.le_of_ble_eq_true rfl⟩ dL_league_426 (fun H locs Y => ?_)
                        refine lv_aload_n hx hb dL_league_429 rfl (lv_at hl 2 rfl) ?_
                        refine lv_iload hx hb dL_league_430 (lv_at hl 9 rfl) ?_
                        obtain ⟨r_95, e_96, hrun⟩ := o_bh hrun
                        refine cg_s (it := [0]) (ws2 := (wB cI cS h g Λ π Ω)) (As := [.ref (g 1), .int a9]) (rest := [.int r_93, .int (((1000 : Int32) * (r_86 - r_88)) - ((10 : Int32) * (((Ω 2) (a10).toNatClampNeg) - ((Ω 2) (a9).toNatClampNeg))))]) S hK hA hZ Y hl.1 (mL_here l D cI g Ω a9 r_95 e_96) (cBQC h g Λ π Ω) (cBLC h g Λ π Ω) nBQ nBL dBQ (cBQP h g Λ π Ω Ω) nPQ rfl kL_32 ⟨Nat.le_of_ble_eq_true rfl, Nat.le_of_ble_eq_true rfl⟩ rfl rfl (Nat.le_of_ble_eq_true rfl) ⟨Nat.le_of_ble_eq_true rfl, Nat.le_of_ble_eq_true rfl⟩ dL_league_432 (fun H locs Y => ?_)
                        obtain ⟨r_97, e_98, hrun⟩ := o_bh hrun
                        refine cp_s (As := [.int r_95]) (rest := [.int r_93, .int (((1000 : Int32) * (r_86 - r_88)) - ((10 : Int32) * (((Ω 2) (a10).toNatClampNeg) - ((Ω 2) (a9).toNatClampNeg))))]) S hK hA hZ Y hl.1 (mL_count l D r_95 r_97 e_98) kL_40 ⟨Nat.le_of_ble_eq_true rfl, Nat.le_of_ble_eq_true rfl⟩ rfl rfl (Nat.le_of_ble_eq_true rfl) ⟨Nat.le_of_ble_eq_true rfl, Nat.le_of_ble_eq_true rfl⟩ dL_league_435 (fun H locs Y => ?_)
                        refine lv_isub hx hb dL_league_438 ?_
                        refine lv_isub hx hb dL_league_439 ?_
                        cases hrun
                        exact kx81 _ _ _ Y (lv_sub hl [1, 2, 3, 4, 5, 6, 7, 0, 8, 9, 10] rfl)
                      · have hrun := o_f hrun c_78
                        refine lv_iconst (v := (1 : Int32)) hx hb dL_league_386 (by decide) ?_
                        refine lv_goto (tgt := 440) hx hb dL_league_387 (by decide) ?_
                        cases hrun
                        exact kx81 _ _ _ Y (lv_sub hl [1, 2, 3, 4, 5, 6, 7, 0, 8, 9, 10] rfl)
              · have hrun := o_f hrun c_65
                cases hrun
  have lp476 : ∀ (n : Nat) (a5 : Int32) (a6 : Int32) (a7 : Int32) (a8 : Int32) (a9 : Int32) (a10 : Int32) (a11 : Int32) (a12 : Int32) (a13 : Int32) (Λ : s3_T) (π : Nat → Nat) (Ω : sg_T) (q_x : Int32 × Int32), lL_league_476 n a5 a6 a7 a8 a9 a10 a11 a12 a13 Λ π Ω = some q_x → (∀ (H : Heap) (locs : List Loc) (ls : Array Slot), dy_ D A s (wB cI cS h g Λ π Ω) H locs → lv_has ls 14 [(0, .ref (h 8 0)), (1, .ref (g 1)), (2, .ref (g 2)), (3, .ref (g 3)), (4, .ref (g 4)), (5, .int a5), (6, .int a6), (7, .int a7), (8, .int a8), (9, .int a9), (10, .int a10), (11, .int q_x.1), (12, .int q_x.2)] → W p l e (rm_ 7 153) s m args below meth c H locs 0 0 (MQ below (me_Qi D (tL cI cS) A r (wB cI cS h g Λ π Ω)) args s 0 0 A) (F0 m 561 ls [])) → ∀ (H : Heap) (locs : List Loc) (ls : Array Slot), dy_ D A s (wB cI cS h g Λ π Ω) H locs → lv_has ls 14 [(0, .ref (h 8 0)), (1, .ref (g 1)), (2, .ref (g 2)), (3, .ref (g 3)), (4, .ref (g 4)), (5, .int a5), (6, .int a6), (7, .int a7), (8, .int a8), (9, .int a9), (10, .int a10), (11, .int a11), (12, .int a12), (13, .int a13)] → W p l e (rm_ 7 153) s m args below meth c H locs 0 0 (MQ below (me_Qi D (tL cI cS) A r (wB cI cS h g Λ π Ω)) args s 0 0 A) (F0 m 476 ls []) := by
    intro n
    induction n with
    | zero => intro a5 a6 a7 a8 a9 a10 a11 a12 a13 Λ π Ω q_x hrun; cases hrun
    | succ n ih =>
      intro a5 a6 a7 a8 a9 a10 a11 a12 a13 Λ π Ω q_x hrun kx H locs ls Y hl
      unfold lL_league_476 at hrun
      refine lv_iload hx hb dL_league_476 (lv_at hl 13 rfl) ?_
      refine lv_bipush (v := (16 : Int32)) hx hb dL_league_478 (by decide) ?_
      refine lv_icmp_ge (tgt := 561) hx hb dL_league_480 (by decide) (fun c_101 => ?_) (fun c_101 => ?_)
      · have hrun := o_t hrun c_101
        cases hrun
        exact kx _ _ _ Y (lv_sub hl [0, 1, 2, 3, 4, 5, 6, 7, 8, 9, 10, 11, 12] rfl)
      · have hrun := o_f hrun c_101
        refine lv_aload hx hb dL_league_483 (lv_at hl 4 rfl) ?_
        refine lv_bipush (v := (6 : Int32)) hx hb dL_league_485 (by decide) ?_
        refine ia S hK Y 88 0 (f := (Ω 4)) rfl rfl (show ¬ ((6 : Int32) < 0 ∨ 11 ≤ ((6 : Int32)).toNatClampNeg) by decide) dL_league_487 ?_
        refine lv_iconst (v := (2 : Int32)) hx hb dL_league_488 (by decide) ?_
        refine lv_icmp_ne (tgt := 561) hx hb dL_league_489 (by decide) (fun c_102 => ?_) (fun c_102 => ?_)
        · have hrun := o_f hrun c_102
          cases hrun
          exact kx _ _ _ Y (lv_sub hl [0, 1, 2, 3, 4, 5, 6, 7, 8, 9, 10, 11, 12] rfl)
        · have hrun := o_t hrun c_102
          refine lv_iload hx hb dL_league_492 (lv_at hl 11 rfl) ?_
          refine lv_iload hx hb dL_league_494 (lv_at hl 13 rfl) ?_
          refine lv_aload hx hb dL_league_496 (lv_at hl 4 rfl) ?_
          refine lv_bipush (v := (9 : Int32)) hx hb dL_league_498 (by decide) ?_
          refine ia S hK Y 88 0 (f := (Ω 4)) rfl rfl (show ¬ ((9 : Int32) < 0 ∨ 11 ≤ ((9 : Int32)).toNatClampNeg) by decide) dL_league_500 ?_
          obtain ⟨r_103, e_104, hrun⟩ := o_bh hrun
          refine cp_s (As := [.int a13, .int ((Ω 4) ((9 : Int32)).toNatClampNeg)]) (rest := [.int a11]) S hK hA hZ Y hl.1 (mL_apart l D a13 ((Ω 4) ((9 : Int32)).toNatClampNeg) r_103 e_104) kL_10 ⟨Nat.le_of_ble_eq_true rfl, Nat.le_of_ble_eq_true rfl⟩ rfl rfl (Nat.le_of_ble_eq_true rfl) ⟨Nat.le_of_ble_eq_true rfl, Nat.le_of_ble_eq_true rfl⟩ dL_league_501 (fun H locs Y => ?_)
          refine lv_aload hx hb dL_league_504 (lv_at hl 4 rfl) ?_
          refine lv_iconst (v := (0 : Int32)) hx hb dL_league_506 (by decide) ?_
          refine ia S hK Y 88 0 (f := (Ω 4)) rfl rfl (show ¬ ((0 : Int32) < 0 ∨ 11 ≤ ((0 : Int32)).toNatClampNeg) by decide) dL_league_507 ?_
          obtain ⟨q_106, e_107, hrun⟩ := o_bh hrun
          have kx108 : ∀ (H : Heap) (locs : List Loc) (ls : Array Slot), dy_ D A s (wB cI cS h g Λ π Ω) H locs → lv_has ls 14 [(0, .ref (h 8 0)), (1, .ref (g 1)), (2, .ref (g 2)), (3, .ref (g 3)), (4, .ref (g 4)), (5, .int a5), (6, .int a6), (7, .int a7), (8, .int a8), (9, .int a9), (10, .int a10), (12, .int a12), (13, .int a13)] → W p l e (rm_ 7 153) s m args below meth c H locs 0 0 (MQ below (me_Qi D (tL cI cS) A r (wB cI cS h g Λ π Ω)) args s 0 0 A) (F0 m 519 ls [.int q_106, .int a11]) := by
            intro H locs ls Y hl
            refine lv_ior hx hb dL_league_519 ?_
            refine lv_istore (lv' := [(11, .int (a11 ||| q_106)), (0, .ref (h 8 0)), (1, .ref (g 1)), (2, .ref (g 2)), (3, .ref (g 3)), (4, .ref (g 4)), (5, .int a5), (6, .int a6), (7, .int a7), (8, .int a8), (9, .int a9), (10, .int a10), (12, .int a12), (13, .int a13)]) hx hb dL_league_520 hl (Nat.le_of_ble_eq_true rfl) rfl (fun ls hl => ?_)
            refine lv_iload hx hb dL_league_522 (lv_at hl 12 rfl) ?_
            refine lv_iconst (v := (0 : Int32)) hx hb dL_league_524 (by decide) ?_
            refine lv_iload hx hb dL_league_525 (lv_at hl 13 rfl) ?_
            obtain ⟨r_109, e_110, hrun⟩ := o_bh hrun
            refine cp_s (As := [.int (0 : Int32), .int a13]) (rest := [.int a12]) S hK hA hZ Y hl.1 (mL_apart l D (0 : Int32) a13 r_109 e_110) kL_10 ⟨Nat.le_of_ble_eq_true rfl, Nat.le_of_ble_eq_true rfl⟩ rfl rfl (Nat.le_of_ble_eq_true rfl) ⟨Nat.le_of_ble_eq_true rfl, Nat.le_of_ble_eq_true rfl⟩ dL_league_527 (fun H locs Y => ?_)
            refine lv_iconst (v := (0 : Int32)) hx hb dL_league_530 (by decide) ?_
            refine lv_aload hx hb dL_league_531 (lv_at hl 5 rfl) ?_
            refine lv_bipush (v := (9 : Int32)) hx hb dL_league_533 (by decide) ?_
            refine ia S hK Y 88 0 (f := (Ω 4)) rfl rfl (show ¬ ((9 : Int32) < 0 ∨ 11 ≤ ((9 : Int32)).toNatClampNeg) by decide) dL_league_535 ?_
            obtain ⟨r_111, e_112, hrun⟩ := o_bh hrun
            refine cp_s (As := [.int (0 : Int32), .int ((Ω 4) ((9 : Int32)).toNatClampNeg)]) (rest := [.int r_109, .int a12]) S hK hA hZ Y hl.1 (mL_apart l D (0 : Int32) ((Ω 4) ((9 : Int32)).toNatClampNeg) r_111 e_112) kL_10 ⟨Nat.le_of_ble_eq_true rfl, Nat.le_of_ble_eq_true rfl⟩ rfl rfl (Nat.le_of_ble_eq_true rfl) ⟨Nat.le_of_ble_eq_true rfl, Nat.le_of_ble_eq_true rfl⟩ dL_league_536 (fun H locs Y => ?_)
            obtain ⟨q_114, e_115, hrun⟩ := o_bh hrun
            have kx116 : ∀ (H : Heap) (locs : List Loc) (ls : Array Slot), dy_ D A s (wB cI cS h g Λ π Ω) H locs → lv_has ls 14 [(0, .ref (h 8 0)), (1, .ref (g 1)), (2, .ref (g 2)), (3, .ref (g 3)), (4, .ref (g 4)), (5, .int a5), (6, .int a6), (7, .int a7), (8, .int a8), (9, .int a9), (10, .int a10), (11, .int (a11 ||| q_106)), (13, .int a13)] → W p l e (rm_ 7 153) s m args below meth c H locs 0 0 (MQ below (me_Qi D (tL cI cS) A r (wB cI cS h g Λ π Ω)) args s 0 0 A) (F0 m 552 ls [.int q_114, .int a12]) := by
              intro H locs ls Y hl
              refine lv_ior hx hb dL_league_552 ?_
              refine lv_istore (lv' := [(12, .int (a12 ||| q_114)), (0, .ref (h 8 0)), (1, .ref (g 1)), (2, .ref (g 2)), (3, .ref (g 3)), (4, .ref (g 4)), (5, .int a5), (6, .int a6), (7, .int a7), (8, .int a8), (9, .int a9), (10, .int a10), (11, .int (a11 ||| q_106)), (13, .int a13)]) hx hb dL_league_553 hl (Nat.le_of_ble_eq_true rfl) rfl (fun ls hl => ?_)
              refine lv_iinc (v := (a13 + (1 : Int32))) (lv' := [(13, .int (a13 + (1 : Int32))), (12, .int (a12 ||| q_114)), (0, .ref (h 8 0)), (1, .ref (g 1)), (2, .ref (g 2)), (3, .ref (g 3)), (4, .ref (g 4)), (5, .int a5), (6, .int a6), (7, .int a7), (8, .int a8), (9, .int a9), (10, .int a10), (11, .int (a11 ||| q_106))]) hx hb dL_league_555 hl (k := 13) rfl (by rfl) (Nat.le_of_ble_eq_true rfl) rfl (fun ls hl => ?_)
              refine lv_goto (tgt := 476) hx hb dL_league_558 (by decide) ?_
              exact ih a5 a6 a7 a8 a9 a10 (a11 ||| q_106) (a12 ||| q_114) (a13 + (1 : Int32)) Λ π Ω q_x hrun kx _ _ _ Y (lv_sub hl [2, 3, 4, 5, 6, 7, 8, 9, 10, 11, 12, 13, 1, 0] rfl)
            have hrun := e_115
            refine lv_icmp_ge (tgt := 551) hx hb dL_league_539 (by decide) (fun c_113 => ?_) (fun c_113 => ?_)
            · have hrun := o_t hrun c_113
              refine lv_iconst (v := (0 : Int32)) hx hb dL_league_551 (by decide) ?_
              cases hrun
              exact kx116 _ _ _ Y (lv_sub hl [1, 2, 3, 4, 5, 6, 7, 8, 9, 10, 11, 0, 13] rfl)
            · have hrun := o_f hrun c_113
              refine lv_aload_n hx hb dL_league_542 rfl (lv_at hl 2 rfl) ?_
              refine lv_iload hx hb dL_league_543 (lv_at hl 13 rfl) ?_
              obtain ⟨r_117, e_118, hrun⟩ := o_bh hrun
              refine cg_s (it := [0]) (ws2 := (wB cI cS h g Λ π Ω)) (As := [.ref (g 1), .int a13]) (rest := [.int a12]) S hK hA hZ Y hl.1 (mL_here l D cI g Ω a13 r_117 e_118) (cBQC h g Λ π Ω) (cBLC h g Λ π Ω) nBQ nBL dBQ (cBQP h g Λ π Ω Ω) nPQ rfl kL_32 ⟨Nat.le_of_ble_eq_true rfl, Nat.le_of_ble_eq_true rfl⟩ rfl rfl (Nat.le_of_ble_eq_true rfl) ⟨Nat.le_of_ble_eq_true rfl, Nat.le_of_ble_eq_true rfl⟩ dL_league_545 (fun H locs Y => ?_)
              refine lv_goto (tgt := 552) hx hb dL_league_548 (by decide) ?_
              cases hrun
              exact kx116 _ _ _ Y (lv_sub hl [1, 2, 3, 4, 5, 6, 7, 8, 9, 10, 11, 0, 13] rfl)
          have hrun := e_107
          refine lv_icmp_gt (tgt := 518) hx hb dL_league_508 (by decide) (fun c_105 => ?_) (fun c_105 => ?_)
          · have hrun := o_t hrun c_105
            refine lv_iconst (v := (0 : Int32)) hx hb dL_league_518 (by decide) ?_
            cases hrun
            exact kx108 _ _ _ Y (lv_sub hl [0, 1, 2, 3, 4, 5, 6, 7, 8, 9, 10, 12, 13] rfl)
          · have hrun := o_f hrun c_105
            refine lv_iconst (v := (1 : Int32)) hx hb dL_league_511 (by decide) ?_
            refine lv_iload hx hb dL_league_512 (lv_at hl 13 rfl) ?_
            refine lv_ishl hx hb dL_league_514 ?_
            refine lv_goto (tgt := 519) hx hb dL_league_515 (by decide) ?_
            cases hrun
            exact kx108 _ _ _ Y (lv_sub hl [0, 1, 2, 3, 4, 5, 6, 7, 8, 9, 10, 12, 13] rfl)
  unfold fL_league at hrun
  refine lv_sipush (v := (-10006 : Int32)) hx hb dL_league_0 (by decide) ?_
  refine lv_istore (lv' := [(5, .int (-10006 : Int32)), (0, .ref (h 8 0)), (1, .ref (g 1)), (2, .ref (g 2)), (3, .ref (g 3)), (4, .ref (g 4))]) hx hb dL_league_3 hl (Nat.le_of_ble_eq_true rfl) rfl (fun ls hl => ?_)
  refine lv_iconst (v := (0 : Int32)) hx hb dL_league_5 (by decide) ?_
  refine lv_istore (lv' := [(6, .int (0 : Int32)), (5, .int (-10006 : Int32)), (0, .ref (h 8 0)), (1, .ref (g 1)), (2, .ref (g 2)), (3, .ref (g 3)), (4, .ref (g 4))]) hx hb dL_league_6 hl (Nat.le_of_ble_eq_true rfl) rfl (fun ls hl => ?_)
  refine lv_iconst (v := (0 : Int32)) hx hb dL_league_8 (by decide) ?_
  refine lv_istore (lv' := [(7, .int (0 : Int32)), (6, .int (0 : Int32)), (5, .int (-10006 : Int32)), (0, .ref (h 8 0)), (1, .ref (g 1)), (2, .ref (g 2)), (3, .ref (g 3)), (4, .ref (g 4))]) hx hb dL_league_9 hl (Nat.le_of_ble_eq_true rfl) rfl (fun ls hl => ?_)
  refine lv_iconst (v := (-1 : Int32)) hx hb dL_league_11 (by decide) ?_
  refine lv_istore (lv' := [(8, .int (-1 : Int32)), (7, .int (0 : Int32)), (6, .int (0 : Int32)), (5, .int (-10006 : Int32)), (0, .ref (h 8 0)), (1, .ref (g 1)), (2, .ref (g 2)), (3, .ref (g 3)), (4, .ref (g 4))]) hx hb dL_league_12 hl (Nat.le_of_ble_eq_true rfl) rfl (fun ls hl => ?_)
  refine lv_iconst (v := (0 : Int32)) hx hb dL_league_14 (by decide) ?_
  refine lv_istore (lv' := [(9, .int (0 : Int32)), (8, .int (-1 : Int32)), (7, .int (0 : Int32)), (6, .int (0 : Int32)), (5, .int (-10006 : Int32)), (0, .ref (h 8 0)), (1, .ref (g 1)), (2, .ref (g 2)), (3, .ref (g 3)), (4, .ref (g 4))]) hx hb dL_league_15 hl (Nat.le_of_ble_eq_true rfl) rfl (fun ls hl => ?_)
  obtain ⟨q_45, e_46, hrun⟩ := o_bh hrun
  refine lp17 70 (-10006 : Int32) (0 : Int32) (0 : Int32) (-1 : Int32) (0 : Int32) Λ π Ω q_45 e_46 (fun H locs ls Y hl => ?_) _ _ _ Y (lv_sub hl [5, 6, 7, 8, 9, 4, 3, 2, 1, 0] rfl)
  refine lv_iconst (v := (-1 : Int32)) hx hb dL_league_260 (by decide) ?_
  refine lv_istore (lv' := [(9, .int (-1 : Int32)), (0, .ref (h 8 0)), (1, .ref (g 1)), (2, .ref (g 2)), (3, .ref (g 3)), (4, .ref (g 4)), (5, .int (-10006 : Int32)), (6, .int q_45.1), (7, .int (0 : Int32)), (8, .int q_45.2)]) hx hb dL_league_261 hl (Nat.le_of_ble_eq_true rfl) rfl (fun ls hl => ?_)
  refine lv_iconst (v := (0 : Int32)) hx hb dL_league_263 (by decide) ?_
  refine lv_istore (lv' := [(10, .int (0 : Int32)), (9, .int (-1 : Int32)), (0, .ref (h 8 0)), (1, .ref (g 1)), (2, .ref (g 2)), (3, .ref (g 3)), (4, .ref (g 4)), (5, .int (-10006 : Int32)), (6, .int q_45.1), (7, .int (0 : Int32)), (8, .int q_45.2)]) hx hb dL_league_264 hl (Nat.le_of_ble_eq_true rfl) rfl (fun ls hl => ?_)
  obtain ⟨q_99, e_100, hrun⟩ := o_bh hrun
  refine lp266 70 (-10006 : Int32) q_45.1 (0 : Int32) q_45.2 (-1 : Int32) (0 : Int32) Λ π Ω q_99 e_100 (fun H locs ls Y hl => ?_) _ _ _ Y (lv_sub hl [2, 3, 4, 5, 6, 7, 8, 9, 10, 1, 0] rfl)
  refine lv_sipush (v := (-10003 : Int32)) hx hb dL_league_462 (by decide) ?_
  refine lv_istore (lv' := [(10, .int (-10003 : Int32)), (0, .ref (h 8 0)), (1, .ref (g 1)), (2, .ref (g 2)), (3, .ref (g 3)), (4, .ref (g 4)), (5, .int (-10006 : Int32)), (6, .int q_45.1), (7, .int q_99.1), (8, .int q_45.2), (9, .int q_99.2)]) hx hb dL_league_465 hl (Nat.le_of_ble_eq_true rfl) rfl (fun ls hl => ?_)
  refine lv_iconst (v := (0 : Int32)) hx hb dL_league_467 (by decide) ?_
  refine lv_istore (lv' := [(11, .int (0 : Int32)), (10, .int (-10003 : Int32)), (0, .ref (h 8 0)), (1, .ref (g 1)), (2, .ref (g 2)), (3, .ref (g 3)), (4, .ref (g 4)), (5, .int (-10006 : Int32)), (6, .int q_45.1), (7, .int q_99.1), (8, .int q_45.2), (9, .int q_99.2)]) hx hb dL_league_468 hl (Nat.le_of_ble_eq_true rfl) rfl (fun ls hl => ?_)
  refine lv_iconst (v := (0 : Int32)) hx hb dL_league_470 (by decide) ?_
  refine lv_istore (lv' := [(12, .int (0 : Int32)), (11, .int (0 : Int32)), (10, .int (-10003 : Int32)), (0, .ref (h 8 0)), (1, .ref (g 1)), (2, .ref (g 2)), (3, .ref (g 3)), (4, .ref (g 4)), (5, .int (-10006 : Int32)), (6, .int q_45.1), (7, .int q_99.1), (8, .int q_45.2), (9, .int q_99.2)]) hx hb dL_league_471 hl (Nat.le_of_ble_eq_true rfl) rfl (fun ls hl => ?_)
  refine lv_iconst (v := (0 : Int32)) hx hb dL_league_473 (by decide) ?_
  refine lv_istore (lv' := [(13, .int (0 : Int32)), (12, .int (0 : Int32)), (11, .int (0 : Int32)), (10, .int (-10003 : Int32)), (0, .ref (h 8 0)), (1, .ref (g 1)), (2, .ref (g 2)), (3, .ref (g 3)), (4, .ref (g 4)), (5, .int (-10006 : Int32)), (6, .int q_45.1), (7, .int q_99.1), (8, .int q_45.2), (9, .int q_99.2)]) hx hb dL_league_474 hl (Nat.le_of_ble_eq_true rfl) rfl (fun ls hl => ?_)
  obtain ⟨q_119, e_120, hrun⟩ := o_bh hrun
  refine lp476 70 (-10006 : Int32) q_45.1 q_99.1 q_45.2 q_99.2 (-10003 : Int32) (0 : Int32) (0 : Int32) (0 : Int32) Λ π Ω q_119 e_120 (fun H locs ls Y hl => ?_) _ _ _ Y (lv_sub hl [4, 5, 6, 7, 8, 9, 10, 11, 12, 13, 3, 2, 1, 0] rfl)
  refine lv_aload_n hx hb dL_league_561 rfl (lv_at hl 0 rfl) ?_
  obtain ⟨r_121, e_122, hrun⟩ := o_bh hrun
  refine cg_v (it := [0, 1]) (ws2 := (wB cI cS h g Λ π Ω)) (As := []) (rest := []) S hK hA hZ Y hl.1 (mX7_bestSpot l D cI cS h Λ π r_121 e_122) (cBLC h g Λ π Ω) (cBQC h g Λ π Ω) nBL nBQ dBL (cBLP h g Λ π Ω Λ π) nPL rfl kL_43 (T := TX7) (N := 5) rfl (q0 := 0) rfl ⟨Nat.le_of_ble_eq_true rfl, Nat.le_of_ble_eq_true rfl⟩ rfl rfl (Nat.le_of_ble_eq_true rfl) ⟨Nat.le_of_ble_eq_true rfl, Nat.le_of_ble_eq_true rfl⟩ dL_league_562 (fun H locs Y => ?_)
  refine lv_aload hx hb dL_league_565 (lv_at hl 4 rfl) ?_
  refine lv_bipush (v := (6 : Int32)) hx hb dL_league_567 (by decide) ?_
  refine ia S hK Y 88 0 (f := (Ω 4)) rfl rfl (show ¬ ((6 : Int32) < 0 ∨ 11 ≤ ((6 : Int32)).toNatClampNeg) by decide) dL_league_569 ?_
  refine lv_iconst (v := (1 : Int32)) hx hb dL_league_570 (by decide) ?_
  obtain ⟨q_124, e_125, hrun⟩ := o_bh hrun
  have kx126 : ∀ (H : Heap) (locs : List Loc) (ls : Array Slot), dy_ D A s (wB cI cS h g Λ π Ω) H locs → lv_has ls 14 [(0, .ref (h 8 0)), (1, .ref (g 1)), (2, .ref (g 2)), (3, .ref (g 3)), (4, .ref (g 4)), (5, .int (-10006 : Int32)), (6, .int q_45.1), (7, .int q_99.1), (8, .int q_45.2), (10, .int (-10003 : Int32)), (11, .int q_119.1), (12, .int q_119.2)] → W p l e (rm_ 7 153) s m args below meth c H locs 0 0 (MQ below (me_Qi D (tL cI cS) A r (wB cI cS h g Λ π Ω)) args s 0 0 A) (F0 m 591 ls [.int q_124, .int r_121]) := by
    intro H locs ls Y hl
    refine lv_icmp_ne (tgt := 704) hx hb dL_league_591 (by decide) (fun c_127 => ?_) (fun c_127 => ?_)
    · have hrun := o_f hrun c_127
      cases hrun
    · have hrun := o_t hrun c_127
      refine lv_aload_n hx hb dL_league_594 rfl (lv_at hl 0 rfl) ?_
      obtain ⟨r_128, e_129, hrun⟩ := o_bh hrun
      refine cg_v (it := [0, 1]) (ws2 := (wB cI cS h g Λ π Ω)) (As := []) (rest := []) S hK hA hZ Y hl.1 (mX7_inSight l D cI cS h Λ π r_128 e_129) (cBLC h g Λ π Ω) (cBQC h g Λ π Ω) nBL nBQ dBL (cBLP h g Λ π Ω Λ π) nPL rfl kL_47 (T := TX7) (N := 5) rfl (q0 := 0) rfl ⟨Nat.le_of_ble_eq_true rfl, Nat.le_of_ble_eq_true rfl⟩ rfl rfl (Nat.le_of_ble_eq_true rfl) ⟨Nat.le_of_ble_eq_true rfl, Nat.le_of_ble_eq_true rfl⟩ dL_league_595 (fun H locs Y => ?_)
      refine lv_aload hx hb dL_league_598 (lv_at hl 4 rfl) ?_
      refine lv_bipush (v := (6 : Int32)) hx hb dL_league_600 (by decide) ?_
      refine ia S hK Y 88 0 (f := (Ω 4)) rfl rfl (show ¬ ((6 : Int32) < 0 ∨ 11 ≤ ((6 : Int32)).toNatClampNeg) by decide) dL_league_602 ?_
      refine lv_iconst (v := (2 : Int32)) hx hb dL_league_603 (by decide) ?_
      obtain ⟨q_131, e_132, hrun⟩ := o_bh hrun
      have kx133 : ∀ (H : Heap) (locs : List Loc) (ls : Array Slot), dy_ D A s (wB cI cS h g Λ π Ω) H locs → lv_has ls 14 [(0, .ref (h 8 0)), (1, .ref (g 1)), (2, .ref (g 2)), (3, .ref (g 3)), (4, .ref (g 4)), (5, .int (-10006 : Int32)), (6, .int q_45.1), (7, .int q_99.1), (8, .int q_45.2), (10, .int (-10003 : Int32)), (12, .int q_119.2)] → W p l e (rm_ 7 153) s m args below meth c H locs 0 0 (MQ below (me_Qi D (tL cI cS) A r (wB cI cS h g Λ π Ω)) args s 0 0 A) (F0 m 614 ls [.int q_131, .int r_128]) := by
        intro H locs ls Y hl
        refine lv_icmp_ne (tgt := 704) hx hb dL_league_614 (by decide) (fun c_134 => ?_) (fun c_134 => ?_)
        · have hrun := o_f hrun c_134
          cases hrun
        · have hrun := o_t hrun c_134
          refine lv_aload_n hx hb dL_league_617 rfl (lv_at hl 0 rfl) ?_
          obtain ⟨r_135, e_136, hrun⟩ := o_bh hrun
          refine cg_v (it := [0, 1]) (ws2 := (wB cI cS h g Λ π Ω)) (As := []) (rest := []) S hK hA hZ Y hl.1 (mX7_couldDash l D cI cS h Λ π r_135 e_136) (cBLC h g Λ π Ω) (cBQC h g Λ π Ω) nBL nBQ dBL (cBLP h g Λ π Ω Λ π) nPL rfl kL_50 (T := TX7) (N := 5) rfl (q0 := 0) rfl ⟨Nat.le_of_ble_eq_true rfl, Nat.le_of_ble_eq_true rfl⟩ rfl rfl (Nat.le_of_ble_eq_true rfl) ⟨Nat.le_of_ble_eq_true rfl, Nat.le_of_ble_eq_true rfl⟩ dL_league_618 (fun H locs Y => ?_)
          refine lv_aload hx hb dL_league_621 (lv_at hl 4 rfl) ?_
          refine lv_bipush (v := (6 : Int32)) hx hb dL_league_623 (by decide) ?_
          refine ia S hK Y 88 0 (f := (Ω 4)) rfl rfl (show ¬ ((6 : Int32) < 0 ∨ 11 ≤ ((6 : Int32)).toNatClampNeg) by decide) dL_league_625 ?_
          refine lv_iconst (v := (2 : Int32)) hx hb dL_league_626 (by decide) ?_
          obtain ⟨q_138, e_139, hrun⟩ := o_bh hrun
          have kx140 : ∀ (H : Heap) (locs : List Loc) (ls : Array Slot), dy_ D A s (wB cI cS h g Λ π Ω) H locs → lv_has ls 14 [(0, .ref (h 8 0)), (1, .ref (g 1)), (2, .ref (g 2)), (3, .ref (g 3)), (4, .ref (g 4)), (5, .int (-10006 : Int32)), (6, .int q_45.1), (7, .int q_99.1), (8, .int q_45.2), (10, .int (-10003 : Int32))] → W p l e (rm_ 7 153) s m args below meth c H locs 0 0 (MQ below (me_Qi D (tL cI cS) A r (wB cI cS h g Λ π Ω)) args s 0 0 A) (F0 m 637 ls [.int q_138, .int r_135]) := by
            intro H locs ls Y hl
            refine lv_icmp_ne (tgt := 704) hx hb dL_league_637 (by decide) (fun c_141 => ?_) (fun c_141 => ?_)
            · have hrun := o_f hrun c_141
              cases hrun
            · have hrun := o_t hrun c_141
              refine lv_aload_n hx hb dL_league_640 rfl (lv_at hl 0 rfl) ?_
              obtain ⟨r_142, e_143, hrun⟩ := o_bh hrun
              refine cg_v (it := [0, 1]) (ws2 := (wB cI cS h g Λ π Ω)) (As := []) (rest := []) S hK hA hZ Y hl.1 (mX7_fewestSteps l D cI cS h Λ π r_142 e_143) (cBLC h g Λ π Ω) (cBQC h g Λ π Ω) nBL nBQ dBL (cBLP h g Λ π Ω Λ π) nPL rfl kL_53 (T := TX7) (N := 5) rfl (q0 := 0) rfl ⟨Nat.le_of_ble_eq_true rfl, Nat.le_of_ble_eq_true rfl⟩ rfl rfl (Nat.le_of_ble_eq_true rfl) ⟨Nat.le_of_ble_eq_true rfl, Nat.le_of_ble_eq_true rfl⟩ dL_league_641 (fun H locs Y => ?_)
              refine lv_aload hx hb dL_league_644 (lv_at hl 4 rfl) ?_
              refine lv_bipush (v := (6 : Int32)) hx hb dL_league_646 (by decide) ?_
              refine ia S hK Y 88 0 (f := (Ω 4)) rfl rfl (show ¬ ((6 : Int32) < 0 ∨ 11 ≤ ((6 : Int32)).toNatClampNeg) by decide) dL_league_648 ?_
              refine lv_iconst (v := (2 : Int32)) hx hb dL_league_649 (by decide) ?_
              obtain ⟨q_145, e_146, hrun⟩ := o_bh hrun
              have kx147 : ∀ (H : Heap) (locs : List Loc) (ls : Array Slot), dy_ D A s (wB cI cS h g Λ π Ω) H locs → lv_has ls 14 [(0, .ref (h 8 0)), (1, .ref (g 1)), (2, .ref (g 2)), (3, .ref (g 3)), (4, .ref (g 4)), (5, .int (-10006 : Int32)), (6, .int q_45.1), (7, .int q_99.1), (8, .int q_45.2)] → W p l e (rm_ 7 153) s m args below meth c H locs 0 0 (MQ below (me_Qi D (tL cI cS) A r (wB cI cS h g Λ π Ω)) args s 0 0 A) (F0 m 664 ls [.int q_145, .int r_142]) := by
                intro H locs ls Y hl
                refine lv_icmp_ne (tgt := 704) hx hb dL_league_664 (by decide) (fun c_148 => ?_) (fun c_148 => ?_)
                · have hrun := o_f hrun c_148
                  cases hrun
                · have hrun := o_t hrun c_148
                  refine lv_aload_n hx hb dL_league_667 rfl (lv_at hl 0 rfl) ?_
                  obtain ⟨r_149, e_150, hrun⟩ := o_bh hrun
                  refine cg_v (it := [0, 1]) (ws2 := (wB cI cS h g Λ π Ω)) (As := []) (rest := []) S hK hA hZ Y hl.1 (mX7_nextSeeker l D cI cS h Λ π r_149 e_150) (cBLC h g Λ π Ω) (cBQC h g Λ π Ω) nBL nBQ dBL (cBLP h g Λ π Ω Λ π) nPL rfl kL_60 (T := TX7) (N := 5) rfl (q0 := 0) rfl ⟨Nat.le_of_ble_eq_true rfl, Nat.le_of_ble_eq_true rfl⟩ rfl rfl (Nat.le_of_ble_eq_true rfl) ⟨Nat.le_of_ble_eq_true rfl, Nat.le_of_ble_eq_true rfl⟩ dL_league_668 (fun H locs Y => ?_)
                  refine lv_iload hx hb dL_league_671 (lv_at hl 8 rfl) ?_
                  obtain ⟨q_152, e_153, hrun⟩ := o_bh hrun
                  have kx154 : ∀ (H : Heap) (locs : List Loc) (ls : Array Slot), dy_ D A s (wB cI cS h g Λ π Ω) H locs → lv_has ls 14 [(0, .ref (h 8 0)), (1, .ref (g 1)), (2, .ref (g 2)), (3, .ref (g 3)), (4, .ref (g 4)), (5, .int (-10006 : Int32)), (6, .int q_45.1), (7, .int q_99.1)] → W p l e (rm_ 7 153) s m args below meth c H locs 0 0 (MQ below (me_Qi D (tL cI cS) A r (wB cI cS h g Λ π Ω)) args s 0 0 A) (F0 m 683 ls [.int q_152, .int r_149]) := by
                    intro H locs ls Y hl
                    refine lv_icmp_ne (tgt := 704) hx hb dL_league_683 (by decide) (fun c_155 => ?_) (fun c_155 => ?_)
                    · have hrun := o_f hrun c_155
                      cases hrun
                    · have hrun := o_t hrun c_155
                      refine lv_aload_n hx hb dL_league_686 rfl (lv_at hl 0 rfl) ?_
                      refine lv_aload hx hb dL_league_687 (lv_at hl 4 rfl) ?_
                      refine lv_iconst (v := (4 : Int32)) hx hb dL_league_689 (by decide) ?_
                      refine ia S hK Y 88 0 (f := (Ω 4)) rfl rfl (show ¬ ((4 : Int32) < 0 ∨ 11 ≤ ((4 : Int32)).toNatClampNeg) by decide) dL_league_690 ?_
                      obtain ⟨r_156, e_157, hrun⟩ := o_bh hrun
                      refine cg_v (it := [0, 1]) (ws2 := (wB cI cS h g Λ π Ω)) (As := [.int ((Ω 4) ((4 : Int32)).toNatClampNeg)]) (rest := []) S hK hA hZ Y hl.1 (mX7_ranked l D cI cS h Λ π ((Ω 4) ((4 : Int32)).toNatClampNeg) r_156 e_157) (cBLC h g Λ π Ω) (cBQC h g Λ π Ω) nBL nBQ dBL (cBLP h g Λ π Ω Λ π) nPL rfl kL_25 (T := TX7) (N := 5) rfl (q0 := 0) rfl ⟨Nat.le_of_ble_eq_true rfl, Nat.le_of_ble_eq_true rfl⟩ rfl rfl (Nat.le_of_ble_eq_true rfl) ⟨Nat.le_of_ble_eq_true rfl, Nat.le_of_ble_eq_true rfl⟩ dL_league_691 (fun H locs Y => ?_)
                      refine lv_sipush (v := (-10001 : Int32)) hx hb dL_league_694 (by decide) ?_
                      refine lv_icmp_ne (tgt := 704) hx hb dL_league_697 (by decide) (fun c_158 => ?_) (fun c_158 => ?_)
                      · have hrun := o_f hrun c_158
                        cases hrun
                      · have hrun := o_t hrun c_158
                        refine lv_iconst (v := (1 : Int32)) hx hb dL_league_700 (by decide) ?_
                        refine lv_goto (tgt := 705) hx hb dL_league_701 (by decide) ?_
                        refine lv_istore (lv' := [(13, .int (1 : Int32)), (0, .ref (h 8 0)), (1, .ref (g 1)), (2, .ref (g 2)), (3, .ref (g 3)), (4, .ref (g 4)), (5, .int (-10006 : Int32)), (6, .int q_45.1), (7, .int q_99.1)]) hx hb dL_league_705 hl (Nat.le_of_ble_eq_true rfl) rfl (fun ls hl => ?_)
                        refine lv_iload hx hb dL_league_707 (lv_at hl 0 rfl) ?_
                        refine lv_if_eq (tgt := 881) hx hb dL_league_709 (by decide) (fun q => absurd q (by decide)) (fun _ => ?_)
                        refine lv_aload_n hx hb dL_league_712 rfl (lv_at hl 1 rfl) ?_
                        refine lv_iconst (v := (0 : Int32)) hx hb dL_league_713 (by decide) ?_
                        obtain ⟨r_159, e_160, hrun⟩ := o_bh hrun
                        refine cg_v (it := [0, 1]) (ws2 := (wB cI cS h g Λ π Ω)) (As := [.int (0 : Int32)]) (rest := []) S hK hA hZ Y hl.1 (mX7_total l D cI cS h Λ π (0 : Int32) r_159 e_160) (cBLC h g Λ π Ω) (cBQC h g Λ π Ω) nBL nBQ dBL (cBLP h g Λ π Ω Λ π) nPL rfl kL_63 (T := TX7) (N := 5) rfl (q0 := 0) rfl ⟨Nat.le_of_ble_eq_true rfl, Nat.le_of_ble_eq_true rfl⟩ rfl rfl (Nat.le_of_ble_eq_true rfl) ⟨Nat.le_of_ble_eq_true rfl, Nat.le_of_ble_eq_true rfl⟩ dL_league_714 (fun H locs Y => ?_)
                        refine lv_aload hx hb dL_league_717 (lv_at hl 5 rfl) ?_
                        refine lv_iconst (v := (4 : Int32)) hx hb dL_league_719 (by decide) ?_
                        refine ia S hK Y 88 0 (f := (Ω 4)) rfl rfl (show ¬ ((4 : Int32) < 0 ∨ 11 ≤ ((4 : Int32)).toNatClampNeg) by decide) dL_league_720 ?_
                        refine lv_icmp_ne (tgt := 881) hx hb dL_league_721 (by decide) (fun c_161 => ?_) (fun c_161 => ?_)
                        · have hrun := o_f hrun c_161
                          cases hrun
                        · have hrun := o_t hrun c_161
                          refine lv_aload_n hx hb dL_league_724 rfl (lv_at hl 1 rfl) ?_
                          refine lv_iconst (v := (1 : Int32)) hx hb dL_league_725 (by decide) ?_
                          obtain ⟨r_162, e_163, hrun⟩ := o_bh hrun
                          refine cg_v (it := [0, 1]) (ws2 := (wB cI cS h g Λ π Ω)) (As := [.int (1 : Int32)]) (rest := []) S hK hA hZ Y hl.1 (mX7_total l D cI cS h Λ π (1 : Int32) r_162 e_163) (cBLC h g Λ π Ω) (cBQC h g Λ π Ω) nBL nBQ dBL (cBLP h g Λ π Ω Λ π) nPL rfl kL_63 (T := TX7) (N := 5) rfl (q0 := 0) rfl ⟨Nat.le_of_ble_eq_true rfl, Nat.le_of_ble_eq_true rfl⟩ rfl rfl (Nat.le_of_ble_eq_true rfl) ⟨Nat.le_of_ble_eq_true rfl, Nat.le_of_ble_eq_true rfl⟩ dL_league_726 (fun H locs Y => ?_)
                          refine lv_aload hx hb dL_league_729 (lv_at hl 5 rfl) ?_
                          refine lv_iconst (v := (5 : Int32)) hx hb dL_league_731 (by decide) ?_
                          refine ia S hK Y 88 0 (f := (Ω 4)) rfl rfl (show ¬ ((5 : Int32) < 0 ∨ 11 ≤ ((5 : Int32)).toNatClampNeg) by decide) dL_league_732 ?_
                          refine lv_icmp_ne (tgt := 881) hx hb dL_league_733 (by decide) (fun c_164 => ?_) (fun c_164 => ?_)
                          · have hrun := o_f hrun c_164
                            cases hrun
                          · have hrun := o_t hrun c_164
                            refine lv_aload_n hx hb dL_league_736 rfl (lv_at hl 1 rfl) ?_
                            refine lv_iconst (v := (2 : Int32)) hx hb dL_league_737 (by decide) ?_
                            obtain ⟨r_165, e_166, hrun⟩ := o_bh hrun
                            refine cg_v (it := [0, 1]) (ws2 := (wB cI cS h g Λ π Ω)) (As := [.int (2 : Int32)]) (rest := []) S hK hA hZ Y hl.1 (mX7_total l D cI cS h Λ π (2 : Int32) r_165 e_166) (cBLC h g Λ π Ω) (cBQC h g Λ π Ω) nBL nBQ dBL (cBLP h g Λ π Ω Λ π) nPL rfl kL_63 (T := TX7) (N := 5) rfl (q0 := 0) rfl ⟨Nat.le_of_ble_eq_true rfl, Nat.le_of_ble_eq_true rfl⟩ rfl rfl (Nat.le_of_ble_eq_true rfl) ⟨Nat.le_of_ble_eq_true rfl, Nat.le_of_ble_eq_true rfl⟩ dL_league_738 (fun H locs Y => ?_)
                            refine lv_aload hx hb dL_league_741 (lv_at hl 5 rfl) ?_
                            refine lv_bipush (v := (6 : Int32)) hx hb dL_league_743 (by decide) ?_
                            refine ia S hK Y 88 0 (f := (Ω 4)) rfl rfl (show ¬ ((6 : Int32) < 0 ∨ 11 ≤ ((6 : Int32)).toNatClampNeg) by decide) dL_league_745 ?_
                            refine lv_icmp_ne (tgt := 881) hx hb dL_league_746 (by decide) (fun c_167 => ?_) (fun c_167 => ?_)
                            · have hrun := o_f hrun c_167
                              cases hrun
                            · have hrun := o_t hrun c_167
                              refine lv_aload_n hx hb dL_league_749 rfl (lv_at hl 1 rfl) ?_
                              refine lv_iconst (v := (3 : Int32)) hx hb dL_league_750 (by decide) ?_
                              obtain ⟨r_168, e_169, hrun⟩ := o_bh hrun
                              refine cg_v (it := [0, 1]) (ws2 := (wB cI cS h g Λ π Ω)) (As := [.int (3 : Int32)]) (rest := []) S hK hA hZ Y hl.1 (mX7_total l D cI cS h Λ π (3 : Int32) r_168 e_169) (cBLC h g Λ π Ω) (cBQC h g Λ π Ω) nBL nBQ dBL (cBLP h g Λ π Ω Λ π) nPL rfl kL_63 (T := TX7) (N := 5) rfl (q0 := 0) rfl ⟨Nat.le_of_ble_eq_true rfl, Nat.le_of_ble_eq_true rfl⟩ rfl rfl (Nat.le_of_ble_eq_true rfl) ⟨Nat.le_of_ble_eq_true rfl, Nat.le_of_ble_eq_true rfl⟩ dL_league_751 (fun H locs Y => ?_)
                              refine lv_aload hx hb dL_league_754 (lv_at hl 5 rfl) ?_
                              refine lv_bipush (v := (6 : Int32)) hx hb dL_league_756 (by decide) ?_
                              refine ia S hK Y 88 0 (f := (Ω 4)) rfl rfl (show ¬ ((6 : Int32) < 0 ∨ 11 ≤ ((6 : Int32)).toNatClampNeg) by decide) dL_league_758 ?_
                              obtain ⟨q_171, e_172, hrun⟩ := o_bh hrun
                              have kx173 : ∀ (H : Heap) (locs : List Loc) (ls : Array Slot), dy_ D A s (wB cI cS h g Λ π Ω) H locs → lv_has ls 14 [(0, .ref (h 8 0)), (1, .ref (g 1)), (2, .ref (g 2)), (3, .ref (g 3)), (4, .ref (g 4)), (5, .int (-10006 : Int32)), (6, .int q_45.1), (7, .int q_99.1)] → W p l e (rm_ 7 153) s m args below meth c H locs 0 0 (MQ below (me_Qi D (tL cI cS) A r (wB cI cS h g Λ π Ω)) args s 0 0 A) (F0 m 772 ls [.int q_171, .int r_168]) := by
                                intro H locs ls Y hl
                                refine lv_icmp_ne (tgt := 881) hx hb dL_league_772 (by decide) (fun c_174 => ?_) (fun c_174 => ?_)
                                · have hrun := o_f hrun c_174
                                  cases hrun
                                · have hrun := o_t hrun c_174
                                  refine lv_aload_n hx hb dL_league_775 rfl (lv_at hl 0 rfl) ?_
                                  refine lv_iconst (v := (4 : Int32)) hx hb dL_league_776 (by decide) ?_
                                  obtain ⟨r_175, e_176, hrun⟩ := o_bh hrun
                                  refine cg_v (it := [0, 1]) (ws2 := (wB cI cS h g Λ π Ω)) (As := [.int (4 : Int32)]) (rest := []) S hK hA hZ Y hl.1 (mX7_total l D cI cS h Λ π (4 : Int32) r_175 e_176) (cBLC h g Λ π Ω) (cBQC h g Λ π Ω) nBL nBQ dBL (cBLP h g Λ π Ω Λ π) nPL rfl kL_63 (T := TX7) (N := 5) rfl (q0 := 0) rfl ⟨Nat.le_of_ble_eq_true rfl, Nat.le_of_ble_eq_true rfl⟩ rfl rfl (Nat.le_of_ble_eq_true rfl) ⟨Nat.le_of_ble_eq_true rfl, Nat.le_of_ble_eq_true rfl⟩ dL_league_777 (fun H locs Y => ?_)
                                  refine lv_aload hx hb dL_league_780 (lv_at hl 4 rfl) ?_
                                  refine lv_bipush (v := (6 : Int32)) hx hb dL_league_782 (by decide) ?_
                                  refine ia S hK Y 88 0 (f := (Ω 4)) rfl rfl (show ¬ ((6 : Int32) < 0 ∨ 11 ≤ ((6 : Int32)).toNatClampNeg) by decide) dL_league_784 ?_
                                  obtain ⟨q_178, e_179, hrun⟩ := o_bh hrun
                                  have kx180 : ∀ (H : Heap) (locs : List Loc) (ls : Array Slot), dy_ D A s (wB cI cS h g Λ π Ω) H locs → lv_has ls 14 [(0, .ref (h 8 0)), (1, .ref (g 1)), (2, .ref (g 2)), (3, .ref (g 3)), (4, .ref (g 4)), (5, .int (-10006 : Int32)), (6, .int q_45.1), (7, .int q_99.1)] → W p l e (rm_ 7 153) s m args below meth c H locs 0 0 (MQ below (me_Qi D (tL cI cS) A r (wB cI cS h g Λ π Ω)) args s 0 0 A) (F0 m 798 ls [.int q_178, .int r_175]) := by
                                    intro H locs ls Y hl
                                    refine lv_icmp_ne (tgt := 881) hx hb dL_league_798 (by decide) (fun c_181 => ?_) (fun c_181 => ?_)
                                    · have hrun := o_f hrun c_181
                                      cases hrun
                                    · have hrun := o_t hrun c_181
                                      refine lv_aload_n hx hb dL_league_801 rfl (lv_at hl 0 rfl) ?_
                                      refine lv_iconst (v := (5 : Int32)) hx hb dL_league_802 (by decide) ?_
                                      obtain ⟨r_182, e_183, hrun⟩ := o_bh hrun
                                      refine cg_v (it := [0, 1]) (ws2 := (wB cI cS h g Λ π Ω)) (As := [.int (5 : Int32)]) (rest := []) S hK hA hZ Y hl.1 (mX7_total l D cI cS h Λ π (5 : Int32) r_182 e_183) (cBLC h g Λ π Ω) (cBQC h g Λ π Ω) nBL nBQ dBL (cBLP h g Λ π Ω Λ π) nPL rfl kL_63 (T := TX7) (N := 5) rfl (q0 := 0) rfl ⟨Nat.le_of_ble_eq_true rfl, Nat.le_of_ble_eq_true rfl⟩ rfl rfl (Nat.le_of_ble_eq_true rfl) ⟨Nat.le_of_ble_eq_true rfl, Nat.le_of_ble_eq_true rfl⟩ dL_league_803 (fun H locs Y => ?_)
                                      refine lv_aload hx hb dL_league_806 (lv_at hl 4 rfl) ?_
                                      refine lv_bipush (v := (6 : Int32)) hx hb dL_league_808 (by decide) ?_
                                      refine ia S hK Y 88 0 (f := (Ω 4)) rfl rfl (show ¬ ((6 : Int32) < 0 ∨ 11 ≤ ((6 : Int32)).toNatClampNeg) by decide) dL_league_810 ?_
                                      refine lv_iconst (v := (2 : Int32)) hx hb dL_league_811 (by decide) ?_
                                      obtain ⟨q_185, e_186, hrun⟩ := o_bh hrun
                                      have kx187 : ∀ (H : Heap) (locs : List Loc) (ls : Array Slot), dy_ D A s (wB cI cS h g Λ π Ω) H locs → lv_has ls 14 [(0, .ref (h 8 0)), (1, .ref (g 1)), (2, .ref (g 2)), (3, .ref (g 3)), (4, .ref (g 4)), (6, .int q_45.1), (7, .int q_99.1)] → W p l e (rm_ 7 153) s m args below meth c H locs 0 0 (MQ below (me_Qi D (tL cI cS) A r (wB cI cS h g Λ π Ω)) args s 0 0 A) (F0 m 825 ls [.int q_185, .int r_182]) := by
                                        intro H locs ls Y hl
                                        refine lv_icmp_ne (tgt := 881) hx hb dL_league_825 (by decide) (fun c_188 => ?_) (fun c_188 => ?_)
                                        · have hrun := o_f hrun c_188
                                          cases hrun
                                        · have hrun := o_t hrun c_188
                                          refine lv_aload_n hx hb dL_league_828 rfl (lv_at hl 0 rfl) ?_
                                          refine lv_bipush (v := (6 : Int32)) hx hb dL_league_829 (by decide) ?_
                                          obtain ⟨r_189, e_190, hrun⟩ := o_bh hrun
                                          refine cg_v (it := [0, 1]) (ws2 := (wB cI cS h g Λ π Ω)) (As := [.int (6 : Int32)]) (rest := []) S hK hA hZ Y hl.1 (mX7_total l D cI cS h Λ π (6 : Int32) r_189 e_190) (cBLC h g Λ π Ω) (cBQC h g Λ π Ω) nBL nBQ dBL (cBLP h g Λ π Ω Λ π) nPL rfl kL_63 (T := TX7) (N := 5) rfl (q0 := 0) rfl ⟨Nat.le_of_ble_eq_true rfl, Nat.le_of_ble_eq_true rfl⟩ rfl rfl (Nat.le_of_ble_eq_true rfl) ⟨Nat.le_of_ble_eq_true rfl, Nat.le_of_ble_eq_true rfl⟩ dL_league_831 (fun H locs Y => ?_)
                                          refine lv_aload hx hb dL_league_834 (lv_at hl 4 rfl) ?_
                                          refine lv_bipush (v := (10 : Int32)) hx hb dL_league_836 (by decide) ?_
                                          refine ia S hK Y 88 0 (f := (Ω 4)) rfl rfl (show ¬ ((10 : Int32) < 0 ∨ 11 ≤ ((10 : Int32)).toNatClampNeg) by decide) dL_league_838 ?_
                                          refine lv_icmp_ne (tgt := 881) hx hb dL_league_839 (by decide) (fun c_191 => ?_) (fun c_191 => ?_)
                                          · have hrun := o_f hrun c_191
                                            cases hrun
                                          · have hrun := o_t hrun c_191
                                            refine lv_aload_n hx hb dL_league_842 rfl (lv_at hl 0 rfl) ?_
                                            refine lv_bipush (v := (7 : Int32)) hx hb dL_league_843 (by decide) ?_
                                            obtain ⟨r_192, e_193, hrun⟩ := o_bh hrun
                                            refine cg_v (it := [0, 1]) (ws2 := (wB cI cS h g Λ π Ω)) (As := [.int (7 : Int32)]) (rest := []) S hK hA hZ Y hl.1 (mX7_total l D cI cS h Λ π (7 : Int32) r_192 e_193) (cBLC h g Λ π Ω) (cBQC h g Λ π Ω) nBL nBQ dBL (cBLP h g Λ π Ω Λ π) nPL rfl kL_63 (T := TX7) (N := 5) rfl (q0 := 0) rfl ⟨Nat.le_of_ble_eq_true rfl, Nat.le_of_ble_eq_true rfl⟩ rfl rfl (Nat.le_of_ble_eq_true rfl) ⟨Nat.le_of_ble_eq_true rfl, Nat.le_of_ble_eq_true rfl⟩ dL_league_845 (fun H locs Y => ?_)
                                            refine lv_aload_n hx hb dL_league_848 rfl (lv_at hl 1 rfl) ?_
                                            obtain ⟨r_194, e_195, hrun⟩ := o_bh hrun
                                            refine cg_s (it := [0]) (ws2 := (wB cI cS h g Λ π Ω)) (As := [.ref (g 1)]) (rest := [.int r_192]) S hK hA hZ Y hl.1 (mL_hidden l D cI g Ω r_194 e_195) (cBQC h g Λ π Ω) (cBLC h g Λ π Ω) nBQ nBL dBQ (cBQP h g Λ π Ω Ω) nPQ rfl kL_66 ⟨Nat.le_of_ble_eq_true rfl, Nat.le_of_ble_eq_true rfl⟩ rfl rfl (Nat.le_of_ble_eq_true rfl) ⟨Nat.le_of_ble_eq_true rfl, Nat.le_of_ble_eq_true rfl⟩ dL_league_849 (fun H locs Y => ?_)
                                            refine lv_icmp_ne (tgt := 881) hx hb dL_league_852 (by decide) (fun c_196 => ?_) (fun c_196 => ?_)
                                            · have hrun := o_f hrun c_196
                                              cases hrun
                                            · have hrun := o_t hrun c_196
                                              refine lv_aload_n hx hb dL_league_855 rfl (lv_at hl 0 rfl) ?_
                                              refine lv_bipush (v := (8 : Int32)) hx hb dL_league_856 (by decide) ?_
                                              obtain ⟨r_197, e_198, hrun⟩ := o_bh hrun
                                              refine cg_v (it := [0, 1]) (ws2 := (wB cI cS h g Λ π Ω)) (As := [.int (8 : Int32)]) (rest := []) S hK hA hZ Y hl.1 (mX7_total l D cI cS h Λ π (8 : Int32) r_197 e_198) (cBLC h g Λ π Ω) (cBQC h g Λ π Ω) nBL nBQ dBL (cBLP h g Λ π Ω Λ π) nPL rfl kL_63 (T := TX7) (N := 5) rfl (q0 := 0) rfl ⟨Nat.le_of_ble_eq_true rfl, Nat.le_of_ble_eq_true rfl⟩ rfl rfl (Nat.le_of_ble_eq_true rfl) ⟨Nat.le_of_ble_eq_true rfl, Nat.le_of_ble_eq_true rfl⟩ dL_league_858 (fun H locs Y => ?_)
                                              refine lv_iload hx hb dL_league_861 (lv_at hl 6 rfl) ?_
                                              refine lv_icmp_ne (tgt := 881) hx hb dL_league_863 (by decide) (fun c_199 => ?_) (fun c_199 => ?_)
                                              · have hrun := o_f hrun c_199
                                                cases hrun
                                              · have hrun := o_t hrun c_199
                                                refine lv_aload_n hx hb dL_league_866 rfl (lv_at hl 0 rfl) ?_
                                                refine lv_bipush (v := (9 : Int32)) hx hb dL_league_867 (by decide) ?_
                                                obtain ⟨r_200, e_201, hrun⟩ := o_bh hrun
                                                refine cg_v (it := [0, 1]) (ws2 := (wB cI cS h g Λ π Ω)) (As := [.int (9 : Int32)]) (rest := []) S hK hA hZ Y hl.1 (mX7_total l D cI cS h Λ π (9 : Int32) r_200 e_201) (cBLC h g Λ π Ω) (cBQC h g Λ π Ω) nBL nBQ dBL (cBLP h g Λ π Ω Λ π) nPL rfl kL_63 (T := TX7) (N := 5) rfl (q0 := 0) rfl ⟨Nat.le_of_ble_eq_true rfl, Nat.le_of_ble_eq_true rfl⟩ rfl rfl (Nat.le_of_ble_eq_true rfl) ⟨Nat.le_of_ble_eq_true rfl, Nat.le_of_ble_eq_true rfl⟩ dL_league_869 (fun H locs Y => ?_)
                                                refine lv_iload hx hb dL_league_872 (lv_at hl 5 rfl) ?_
                                                refine lv_icmp_ne (tgt := 881) hx hb dL_league_874 (by decide) (fun c_202 => ?_) (fun c_202 => ?_)
                                                · have hrun := o_f hrun c_202
                                                  cases hrun
                                                · have hrun := o_t hrun c_202
                                                  refine lv_iconst (v := (1 : Int32)) hx hb dL_league_877 (by decide) ?_
                                                  refine lv_goto (tgt := 882) hx hb dL_league_878 (by decide) ?_
                                                  cases hrun
                                                  exact me_ri S hK Y hr hlk rfl dL_league_882
                                      have hrun := e_186
                                      refine lv_icmp_ne (tgt := 823) hx hb dL_league_812 (by decide) (fun c_184 => ?_) (fun c_184 => ?_)
                                      · have hrun := o_f hrun c_184
                                        refine lv_iload hx hb dL_league_823 (lv_at hl 5 rfl) ?_
                                        cases hrun
                                        exact kx187 _ _ _ Y (lv_sub hl [0, 1, 2, 3, 4, 6, 7] rfl)
                                      · have hrun := o_t hrun c_184
                                        refine lv_aload hx hb dL_league_815 (lv_at hl 4 rfl) ?_
                                        refine lv_bipush (v := (9 : Int32)) hx hb dL_league_817 (by decide) ?_
                                        refine ia S hK Y 88 0 (f := (Ω 4)) rfl rfl (show ¬ ((9 : Int32) < 0 ∨ 11 ≤ ((9 : Int32)).toNatClampNeg) by decide) dL_league_819 ?_
                                        refine lv_goto (tgt := 825) hx hb dL_league_820 (by decide) ?_
                                        cases hrun
                                        exact kx187 _ _ _ Y (lv_sub hl [0, 1, 2, 3, 4, 6, 7] rfl)
                                  have hrun := e_179
                                  refine lv_if_ne (tgt := 793) hx hb dL_league_785 (by decide) (fun c_177 => ?_) (fun c_177 => ?_)
                                  · have hrun := o_f hrun c_177
                                    refine lv_aload hx hb dL_league_793 (lv_at hl 4 rfl) ?_
                                    refine lv_bipush (v := (8 : Int32)) hx hb dL_league_795 (by decide) ?_
                                    refine ia S hK Y 88 0 (f := (Ω 4)) rfl rfl (show ¬ ((8 : Int32) < 0 ∨ 11 ≤ ((8 : Int32)).toNatClampNeg) by decide) dL_league_797 ?_
                                    cases hrun
                                    exact kx180 _ _ _ Y (lv_sub hl [0, 1, 2, 3, 4, 5, 6, 7] rfl)
                                  · have hrun := o_t hrun c_177
                                    refine lv_iload hx hb dL_league_788 (lv_at hl 5 rfl) ?_
                                    refine lv_goto (tgt := 798) hx hb dL_league_790 (by decide) ?_
                                    cases hrun
                                    exact kx180 _ _ _ Y (lv_sub hl [0, 1, 2, 3, 4, 5, 6, 7] rfl)
                              have hrun := e_172
                              refine lv_if_ne (tgt := 767) hx hb dL_league_759 (by decide) (fun c_170 => ?_) (fun c_170 => ?_)
                              · have hrun := o_f hrun c_170
                                refine lv_aload hx hb dL_league_767 (lv_at hl 5 rfl) ?_
                                refine lv_bipush (v := (7 : Int32)) hx hb dL_league_769 (by decide) ?_
                                refine ia S hK Y 88 0 (f := (Ω 4)) rfl rfl (show ¬ ((7 : Int32) < 0 ∨ 11 ≤ ((7 : Int32)).toNatClampNeg) by decide) dL_league_771 ?_
                                cases hrun
                                exact kx173 _ _ _ Y (lv_sub hl [1, 2, 3, 4, 5, 6, 7, 8] rfl)
                              · have hrun := o_t hrun c_170
                                refine lv_iload hx hb dL_league_762 (lv_at hl 6 rfl) ?_
                                refine lv_goto (tgt := 772) hx hb dL_league_764 (by decide) ?_
                                cases hrun
                                exact kx173 _ _ _ Y (lv_sub hl [1, 2, 3, 4, 5, 6, 7, 8] rfl)
                  have hrun := e_153
                  refine lv_if_ge (tgt := 681) hx hb dL_league_673 (by decide) (fun c_151 => ?_) (fun c_151 => ?_)
                  · have hrun := o_t hrun c_151
                    refine lv_iload hx hb dL_league_681 (lv_at hl 8 rfl) ?_
                    cases hrun
                    exact kx154 _ _ _ Y (lv_sub hl [0, 1, 2, 3, 4, 5, 6, 7] rfl)
                  · have hrun := o_f hrun c_151
                    refine lv_iload hx hb dL_league_676 (lv_at hl 5 rfl) ?_
                    refine lv_goto (tgt := 683) hx hb dL_league_678 (by decide) ?_
                    cases hrun
                    exact kx154 _ _ _ Y (lv_sub hl [0, 1, 2, 3, 4, 5, 6, 7] rfl)
              have hrun := e_146
              refine lv_icmp_ne (tgt := 662) hx hb dL_league_650 (by decide) (fun c_144 => ?_) (fun c_144 => ?_)
              · have hrun := o_f hrun c_144
                refine lv_iload hx hb dL_league_662 (lv_at hl 9 rfl) ?_
                cases hrun
                exact kx147 _ _ _ Y (lv_sub hl [0, 1, 2, 3, 4, 5, 6, 7, 8] rfl)
              · have hrun := o_t hrun c_144
                refine lv_aload_n hx hb dL_league_653 rfl (lv_at hl 1 rfl) ?_
                refine lv_aload hx hb dL_league_654 (lv_at hl 4 rfl) ?_
                obtain ⟨r_203, e_204, hrun⟩ := o_bh hrun
                refine cg_s (it := [0]) (ws2 := (wB cI cS h g Λ π Ω)) (As := [.ref (g 1), .ref (g 4)]) (rest := [.int r_142]) S hK hA hZ Y hl.1 (mL_steps l D cI g Ω r_203 e_204) (cBQC h g Λ π Ω) (cBLC h g Λ π Ω) nBQ nBL dBQ (cBQP h g Λ π Ω Ω) nPQ rfl kL_56 ⟨Nat.le_of_ble_eq_true rfl, Nat.le_of_ble_eq_true rfl⟩ rfl rfl (Nat.le_of_ble_eq_true rfl) ⟨Nat.le_of_ble_eq_true rfl, Nat.le_of_ble_eq_true rfl⟩ dL_league_656 (fun H locs Y => ?_)
                refine lv_goto (tgt := 664) hx hb dL_league_659 (by decide) ?_
                cases hrun
                exact kx147 _ _ _ Y (lv_sub hl [0, 1, 2, 3, 4, 5, 6, 7, 8] rfl)
          have hrun := e_139
          refine lv_icmp_ne (tgt := 635) hx hb dL_league_627 (by decide) (fun c_137 => ?_) (fun c_137 => ?_)
          · have hrun := o_f hrun c_137
            refine lv_iload hx hb dL_league_635 (lv_at hl 9 rfl) ?_
            cases hrun
            exact kx140 _ _ _ Y (lv_sub hl [0, 1, 2, 3, 4, 5, 6, 7, 8, 9] rfl)
          · have hrun := o_t hrun c_137
            refine lv_iload hx hb dL_league_630 (lv_at hl 10 rfl) ?_
            refine lv_goto (tgt := 637) hx hb dL_league_632 (by decide) ?_
            cases hrun
            exact kx140 _ _ _ Y (lv_sub hl [0, 1, 2, 3, 4, 5, 6, 7, 8, 9] rfl)
      have hrun := e_132
      refine lv_icmp_ne (tgt := 612) hx hb dL_league_604 (by decide) (fun c_130 => ?_) (fun c_130 => ?_)
      · have hrun := o_f hrun c_130
        refine lv_iload hx hb dL_league_612 (lv_at hl 9 rfl) ?_
        cases hrun
        exact kx133 _ _ _ Y (lv_sub hl [0, 1, 2, 3, 4, 5, 6, 7, 8, 9, 11] rfl)
      · have hrun := o_t hrun c_130
        refine lv_iload hx hb dL_league_607 (lv_at hl 10 rfl) ?_
        refine lv_goto (tgt := 614) hx hb dL_league_609 (by decide) ?_
        cases hrun
        exact kx133 _ _ _ Y (lv_sub hl [0, 1, 2, 3, 4, 5, 6, 7, 8, 9, 11] rfl)
  have hrun := e_125
  refine lv_icmp_eq (tgt := 579) hx hb dL_league_571 (by decide) (fun c_123 => ?_) (fun c_123 => ?_)
  · have hrun := o_t hrun c_123
    refine lv_iload hx hb dL_league_579 (lv_at hl 9 rfl) ?_
    refine lv_if_ge (tgt := 589) hx hb dL_league_581 (by decide) (fun c_205 => ?_) (fun c_205 => ?_)
    · have hrun := o_t hrun c_205
      refine lv_iload hx hb dL_league_589 (lv_at hl 9 rfl) ?_
      cases hrun
      exact kx126 _ _ _ Y (lv_sub hl [0, 1, 2, 3, 4, 5, 6, 7, 8, 10, 11, 12] rfl)
    · have hrun := o_f hrun c_205
      refine lv_iload hx hb dL_league_584 (lv_at hl 5 rfl) ?_
      refine lv_goto (tgt := 591) hx hb dL_league_586 (by decide) ?_
      cases hrun
      exact kx126 _ _ _ Y (lv_sub hl [0, 1, 2, 3, 4, 5, 6, 7, 8, 10, 11, 12] rfl)
  · have hrun := o_f hrun c_123
    refine lv_iload hx hb dL_league_574 (lv_at hl 10 rfl) ?_
    refine lv_goto (tgt := 591) hx hb dL_league_576 (by decide) ?_
    cases hrun
    exact kx126 _ _ _ Y (lv_sub hl [0, 1, 2, 3, 4, 5, 6, 7, 8, 10, 11, 12] rfl)
