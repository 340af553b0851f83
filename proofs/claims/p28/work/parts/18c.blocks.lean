def bL_law_182 (a6 : Int32) (Λ : s3_T) (π : Nat → Nat) (Ω : sg_T) : Option (s3_T × (Nat → Nat) × sg_T) := ((if (8 : Int32) ≤ ((Ω 4) ((4 : Int32)).toNatClampNeg) then (some (0 : Int32)) else (some (1 : Int32))).bind fun q_2 => ((fX7_join Λ π).bind fun q_5 => ((if q_2 = 0 then (some (-10004 : Int32)) else (some ((Ω 4) ((4 : Int32)).toNatClampNeg))).bind fun q_8 => (if q_5.1 = q_8 then ((if q_2 = 0 then (some (0 : Int32)) else (some (1 : Int32))).bind fun q_13 => (some (q_5.2.1, q_5.2.2, (sg_a Ω 4 (upd (Ω 4) ((4 : Int32)).toNatClampNeg (((Ω 4) ((4 : Int32)).toNatClampNeg) + q_13)))))) else none))))
set_option maxRecDepth 100000 in
set_option maxHeartbeats 16000000 in
theorem kL_law_182 {p : Program} {l : Launch} {e : Env} {s : State} {m : MethodId} {below : List Frame} {meth : Method} {c : Code} {Q : State → Prop} {D : va_G} {A : Nat → Prop} {cI cS : ClassId} {b : Nat} {h : Nat → Nat → Nat} {g : Nat → Nat} (S : CallFix p m c code 18 s #[Value.ref b] (Cond.tt :: uw_) RL) (hK : va_K D vwCl (tL cI cS) s) (hA : ∀ q, s.heap.size ≤ q → A q) (hZ : zs_ A s) (a6 : Int32) (Λ : s3_T) (π : Nat → Nat) (Ω : sg_T) (q_b : s3_T × (Nat → Nat) × sg_T) (hrun : bL_law_182 a6 Λ π Ω = some q_b) (kx : ∀ (H : Heap) (locs : List Loc) (ls : Array Slot), dy_ D A s (wB cI cS h g q_b.1 q_b.2.1 q_b.2.2) H locs → lv_has ls 18 [(0, .ref b), (1, .ref (h 8 0)), (2, .ref (g 1)), (3, .ref (g 2)), (4, .ref (g 3)), (5, .ref (g 4)), (6, .int a6), (12, .int (1 : Int32))] → W p l e room_1 s m #[Value.ref b] below meth c H locs 89 982 Q (F0 m 1373 ls [])) : ∀ (H : Heap) (locs : List Loc) (ls : Array Slot), dy_ D A s (wB cI cS h g Λ π Ω) H locs → lv_has ls 18 [(0, .ref b), (1, .ref (h 8 0)), (2, .ref (g 1)), (3, .ref (g 2)), (4, .ref (g 3)), (5, .ref (g 4)), (6, .int a6)] → W p l e room_1 s m #[Value.ref b] below meth c H locs 89 982 Q (F0 m 182 ls []) := by
  have hx := S.1
  have hb := S.2.1
  intro H locs ls Y hl
  unfold bL_law_182 at hrun
  refine lv_aload hx hb dL_law_182 (lv_at hl 5 rfl) ?_
  refine lv_iconst (v := (4 : Int32)) hx hb dL_law_184 (by decide) ?_
  refine ia S hK Y 88 0 (f := (Ω 4)) rfl rfl (show ¬ ((4 : Int32) < 0 ∨ 11 ≤ ((4 : Int32)).toNatClampNeg) by decide) dL_law_185 ?_
  refine lv_bipush (v := (8 : Int32)) hx hb dL_law_186 (by decide) ?_
  obtain ⟨q_2, e_3, hrun⟩ := o_bh hrun
  have kx4 : ∀ (H : Heap) (locs : List Loc) (ls : Array Slot), dy_ D A s (wB cI cS h g Λ π Ω) H locs → lv_has ls 18 [(0, .ref b), (1, .ref (h 8 0)), (2, .ref (g 1)), (3, .ref (g 2)), (4, .ref (g 3)), (5, .ref (g 4)), (6, .int a6)] → W p l e room_1 s m #[Value.ref b] below meth c H locs 89 982 Q (F0 m 196 ls [.int q_2]) := by
    intro H locs ls Y hl
    refine lv_istore (lv' := [(13, .int q_2), (0, .ref b), (1, .ref (h 8 0)), (2, .ref (g 1)), (3, .ref (g 2)), (4, .ref (g 3)), (5, .ref (g 4)), (6, .int a6)]) hx hb dL_law_196 hl (Nat.le_of_ble_eq_true rfl) rfl (fun ls hl => ?_)
    refine lv_aload_n hx hb dL_law_198 rfl (lv_at hl 2 rfl) ?_
    obtain ⟨q_5, e_6, hrun⟩ := o_bh hrun
    refine cg_v (it := [0, 1]) (ws2 := (wB cI cS h g q_5.2.1 q_5.2.2 Ω)) (As := []) (rest := []) S hK hA hZ Y hl.1 (mX7_join l D cI cS h Λ π q_5.1 q_5.2.1 q_5.2.2 e_6) (cBLC h g Λ π Ω) (cBQC h g Λ π Ω) nBL nBQ dBL (cBLP h g Λ π Ω q_5.2.1 q_5.2.2) nPL rfl kL_77 (T := TX7) (N := 5) rfl (q0 := 0) rfl ⟨Nat.le_of_ble_eq_true rfl, Nat.le_of_ble_eq_true rfl⟩ rfl rfl (Nat.le_of_ble_eq_true rfl) ⟨Nat.le_of_ble_eq_true rfl, Nat.le_of_ble_eq_true rfl⟩ dL_law_199 (fun H locs Y => ?_)
    refine lv_iload hx hb dL_law_202 (lv_at hl 0 rfl) ?_
    obtain ⟨q_8, e_9, hrun⟩ := o_bh hrun
    have kx10 : ∀ (H : Heap) (locs : List Loc) (ls : Array Slot), dy_ D A s (wB cI cS h g q_5.2.1 q_5.2.2 Ω) H locs → lv_has ls 18 [(0, .ref b), (1, .ref (h 8 0)), (2, .ref (g 1)), (3, .ref (g 2)), (4, .ref (g 3)), (5, .ref (g 4)), (6, .int a6), (13, .int q_2)] → W p l e room_1 s m #[Value.ref b] below meth c H locs 89 982 Q (F0 m 217 ls [.int q_8, .int q_5.1]) := by
      intro H locs ls Y hl
      refine lv_icmp_ne (tgt := 224) hx hb dL_law_217 (by decide) (fun c_11 => ?_) (fun c_11 => ?_)
      · have hrun := o_f hrun c_11
        cases hrun
      · have hrun := o_t hrun c_11
        refine lv_iconst (v := (1 : Int32)) hx hb dL_law_220 (by decide) ?_
        refine lv_goto (tgt := 225) hx hb dL_law_221 (by decide) ?_
        refine lv_istore (lv' := [(12, .int (1 : Int32)), (0, .ref b), (1, .ref (h 8 0)), (2, .ref (g 1)), (3, .ref (g 2)), (4, .ref (g 3)), (5, .ref (g 4)), (6, .int a6), (13, .int q_2)]) hx hb dL_law_225 hl (Nat.le_of_ble_eq_true rfl) rfl (fun ls hl => ?_)
        refine lv_aload hx hb dL_law_227 (lv_at hl 6 rfl) ?_
        refine lv_iconst (v := (4 : Int32)) hx hb dL_law_229 (by decide) ?_
        refine lv_dup2_11 hx hb dL_law_230 rfl rfl ?_
        refine ia S hK Y 88 0 (f := (Ω 4)) rfl rfl (show ¬ ((4 : Int32) < 0 ∨ 11 ≤ ((4 : Int32)).toNatClampNeg) by decide) dL_law_231 ?_
        refine lv_iload hx hb dL_law_232 (lv_at hl 8 rfl) ?_
        obtain ⟨q_13, e_14, hrun⟩ := o_bh hrun
        have kx15 : ∀ (H : Heap) (locs : List Loc) (ls : Array Slot), dy_ D A s (wB cI cS h g q_5.2.1 q_5.2.2 Ω) H locs → lv_has ls 18 [(0, .ref b), (1, .ref (h 8 0)), (2, .ref (g 1)), (3, .ref (g 2)), (4, .ref (g 3)), (5, .ref (g 4)), (6, .int a6), (12, .int (1 : Int32))] → W p l e room_1 s m #[Value.ref b] below meth c H locs 89 982 Q (F0 m 242 ls [.int q_13, .int ((Ω 4) ((4 : Int32)).toNatClampNeg), .int (4 : Int32), .ref (g 4)]) := by
          intro H locs ls Y hl
          refine lv_iadd hx hb dL_law_242 ?_
          refine iw S hK Y 88 0 (f := (Ω 4)) rfl rfl (show ¬ ((4 : Int32) < 0 ∨ 11 ≤ ((4 : Int32)).toNatClampNeg) by decide) (ws' := (wB cI cS h g q_5.2.1 q_5.2.2 (sg_a Ω 4 (upd (Ω 4) ((4 : Int32)).toNatClampNeg (((Ω 4) ((4 : Int32)).toNatClampNeg) + q_13))))) (wB_a4 _ _ _ _ _ _) dL_law_243 (fun H locs Y => ?_)
          refine lv_goto (tgt := 1373) hx hb dL_law_244 (by decide) ?_
          cases hrun
          exact kx _ _ _ Y (lv_sub hl [0, 1, 2, 3, 4, 5, 6, 7] rfl)
        have hrun := e_14
        refine lv_if_eq (tgt := 241) hx hb dL_law_234 (by decide) (fun c_12 => ?_) (fun c_12 => ?_)
        · have hrun := o_t hrun c_12
          refine lv_iconst (v := (0 : Int32)) hx hb dL_law_241 (by decide) ?_
          cases hrun
          exact kx15 _ _ _ Y (lv_sub hl [1, 2, 3, 4, 5, 6, 7, 0] rfl)
        · have hrun := o_f hrun c_12
          refine lv_iconst (v := (1 : Int32)) hx hb dL_law_237 (by decide) ?_
          refine lv_goto (tgt := 242) hx hb dL_law_238 (by decide) ?_
          cases hrun
          exact kx15 _ _ _ Y (lv_sub hl [1, 2, 3, 4, 5, 6, 7, 0] rfl)
    have hrun := e_9
    refine lv_if_eq (tgt := 214) hx hb dL_law_204 (by decide) (fun c_7 => ?_) (fun c_7 => ?_)
    · have hrun := o_t hrun c_7
      refine lv_sipush (v := (-10004 : Int32)) hx hb dL_law_214 (by decide) ?_
      cases hrun
      exact kx10 _ _ _ Y (lv_sub hl [1, 2, 3, 4, 5, 6, 7, 0] rfl)
    · have hrun := o_f hrun c_7
      refine lv_aload hx hb dL_law_207 (lv_at hl 6 rfl) ?_
      refine lv_iconst (v := (4 : Int32)) hx hb dL_law_209 (by decide) ?_
      refine ia S hK Y 88 0 (f := (Ω 4)) rfl rfl (show ¬ ((4 : Int32) < 0 ∨ 11 ≤ ((4 : Int32)).toNatClampNeg) by decide) dL_law_210 ?_
      refine lv_goto (tgt := 217) hx hb dL_law_211 (by decide) ?_
      cases hrun
      exact kx10 _ _ _ Y (lv_sub hl [1, 2, 3, 4, 5, 6, 7, 0] rfl)
  have hrun := e_3
  refine lv_icmp_ge (tgt := 195) hx hb dL_law_188 (by decide) (fun c_1 => ?_) (fun c_1 => ?_)
  · have hrun := o_t hrun c_1
    refine lv_iconst (v := (0 : Int32)) hx hb dL_law_195 (by decide) ?_
    cases hrun
    exact kx4 _ _ _ Y (lv_sub hl [0, 1, 2, 3, 4, 5, 6] rfl)
  · have hrun := o_f hrun c_1
    refine lv_iconst (v := (1 : Int32)) hx hb dL_law_191 (by decide) ?_
    refine lv_goto (tgt := 196) hx hb dL_law_192 (by decide) ?_
    cases hrun
    exact kx4 _ _ _ Y (lv_sub hl [0, 1, 2, 3, 4, 5, 6] rfl)
def bL_law_253 (a6 : Int32) (a7 : Int32) (Λ : s3_T) (π : Nat → Nat) (Ω : sg_T) : Option (s3_T × (Nat → Nat) × sg_T) := ((fL_low (a7 >>> ((9 : Int32) &&& 31)) (4 : Int32)).bind fun r_1 => ((if r_1 = 0 then ((fL_low (a7 >>> ((12 : Int32) &&& 31)) (4 : Int32)).bind fun r_19 => (some r_19)) else (if r_1 = (2 : Int32) then ((fL_low (a7 >>> ((12 : Int32) &&& 31)) (5 : Int32)).bind fun r_17 => (some r_17)) else ((fL_low (a7 >>> ((12 : Int32) &&& 31)) (4 : Int32)).bind fun r_15 => (some ((1 : Int32) + r_15))))).bind fun q_4 => ((fX7_set r_1 q_4 Λ π).bind fun q_7 => (o_x r_1 11 (if q_7.1 = ((Ω 4) (r_1).toNatClampNeg) then ((fX7_setting r_1 q_7.2.1 q_7.2.2).bind fun r_11 => (if r_11 = q_4 then (some (q_7.2.1, q_7.2.2, (sg_a Ω 4 (upd (Ω 4) (r_1).toNatClampNeg q_4)))) else none)) else none)))))
set_option maxRecDepth 100000 in
set_option maxHeartbeats 16000000 in
theorem kL_law_253 {p : Program} {l : Launch} {e : Env} {s : State} {m : MethodId} {below : List Frame} {meth : Method} {c : Code} {Q : State → Prop} {D : va_G} {A : Nat → Prop} {cI cS : ClassId} {b : Nat} {h : Nat → Nat → Nat} {g : Nat → Nat} (S : CallFix p m c code 18 s #[Value.ref b] (Cond.tt :: uw_) RL) (hK : va_K D vwCl (tL cI cS) s) (hA : ∀ q, s.heap.size ≤ q → A q) (hZ : zs_ A s) (a6 : Int32) (a7 : Int32) (Λ : s3_T) (π : Nat → Nat) (Ω : sg_T) (q_b : s3_T × (Nat → Nat) × sg_T) (hrun : bL_law_253 a6 a7 Λ π Ω = some q_b) (kx : ∀ (H : Heap) (locs : List Loc) (ls : Array Slot), dy_ D A s (wB cI cS h g q_b.1 q_b.2.1 q_b.2.2) H locs → lv_has ls 18 [(0, .ref b), (1, .ref (h 8 0)), (2, .ref (g 1)), (3, .ref (g 2)), (4, .ref (g 3)), (5, .ref (g 4)), (6, .int a6), (12, .int (1 : Int32))] → W p l e room_1 s m #[Value.ref b] below meth c H locs 89 982 Q (F0 m 1373 ls [])) : ∀ (H : Heap) (locs : List Loc) (ls : Array Slot), dy_ D A s (wB cI cS h g Λ π Ω) H locs → lv_has ls 18 [(0, .ref b), (1, .ref (h 8 0)), (2, .ref (g 1)), (3, .ref (g 2)), (4, .ref (g 3)), (5, .ref (g 4)), (6, .int a6), (7, .int a7)] → W p l e room_1 s m #[Value.ref b] below meth c H locs 89 982 Q (F0 m 253 ls []) := by
  have hx := S.1
  have hb := S.2.1
  intro H locs ls Y hl
  unfold bL_law_253 at hrun
  refine lv_iload hx hb dL_law_253 (lv_at hl 7 rfl) ?_
  refine lv_bipush (v := (9 : Int32)) hx hb dL_law_255 (by decide) ?_
  refine lv_ishr hx hb dL_law_257 ?_
  refine lv_iconst (v := (4 : Int32)) hx hb dL_law_258 (by decide) ?_
  obtain ⟨r_1, e_2, hrun⟩ := o_bh hrun
  refine cp_s (As := [.int (a7 >>> ((9 : Int32) &&& 31)), .int (4 : Int32)]) (rest := []) S hK hA hZ Y hl.1 (mL_low l D (a7 >>> ((9 : Int32) &&& 31)) (4 : Int32) r_1 e_2) kL_74 ⟨Nat.le_of_ble_eq_true rfl, Nat.le_of_ble_eq_true rfl⟩ rfl rfl (Nat.le_of_ble_eq_true rfl) ⟨Nat.le_of_ble_eq_true rfl, Nat.le_of_ble_eq_true rfl⟩ dL_law_259 (fun H locs Y => ?_)
  refine lv_istore (lv' := [(13, .int r_1), (0, .ref b), (1, .ref (h 8 0)), (2, .ref (g 1)), (3, .ref (g 2)), (4, .ref (g 3)), (5, .ref (g 4)), (6, .int a6), (7, .int a7)]) hx hb dL_law_262 hl (Nat.le_of_ble_eq_true rfl) rfl (fun ls hl => ?_)
  refine lv_iload hx hb dL_law_264 (lv_at hl 0 rfl) ?_
  obtain ⟨q_4, e_5, hrun⟩ := o_bh hrun
  have kx6 : ∀ (H : Heap) (locs : List Loc) (ls : Array Slot), dy_ D A s (wB cI cS h g Λ π Ω) H locs → lv_has ls 18 [(0, .ref b), (1, .ref (h 8 0)), (2, .ref (g 1)), (3, .ref (g 2)), (4, .ref (g 3)), (5, .ref (g 4)), (6, .int a6), (13, .int r_1)] → W p l e room_1 s m #[Value.ref b] below meth c H locs 89 982 Q (F0 m 310 ls [.int q_4]) := by
    intro H locs ls Y hl
    refine lv_istore (lv' := [(14, .int q_4), (0, .ref b), (1, .ref (h 8 0)), (2, .ref (g 1)), (3, .ref (g 2)), (4, .ref (g 3)), (5, .ref (g 4)), (6, .int a6), (13, .int r_1)]) hx hb dL_law_310 hl (Nat.le_of_ble_eq_true rfl) rfl (fun ls hl => ?_)
    refine lv_aload_n hx hb dL_law_312 rfl (lv_at hl 2 rfl) ?_
    refine lv_iload hx hb dL_law_313 (lv_at hl 8 rfl) ?_
    refine lv_iload hx hb dL_law_315 (lv_at hl 0 rfl) ?_
    obtain ⟨q_7, e_8, hrun⟩ := o_bh hrun
    refine cg_v (it := [0, 1]) (ws2 := (wB cI cS h g q_7.2.1 q_7.2.2 Ω)) (As := [.int r_1, .int q_4]) (rest := []) S hK hA hZ Y hl.1 (mX7_set l D cI cS h Λ π r_1 q_4 q_7.1 q_7.2.1 q_7.2.2 e_8) (cBLC h g Λ π Ω) (cBQC h g Λ π Ω) nBL nBQ dBL (cBLP h g Λ π Ω q_7.2.1 q_7.2.2) nPL rfl kL_80 (T := TX7) (N := 5) rfl (q0 := 0) rfl ⟨Nat.le_of_ble_eq_true rfl, Nat.le_of_ble_eq_true rfl⟩ rfl rfl (Nat.le_of_ble_eq_true rfl) ⟨Nat.le_of_ble_eq_true rfl, Nat.le_of_ble_eq_true rfl⟩ dL_law_317 (fun H locs Y => ?_)
    refine lv_aload hx hb dL_law_320 (lv_at hl 6 rfl) ?_
    refine lv_iload hx hb dL_law_322 (lv_at hl 8 rfl) ?_
    obtain ⟨b_9, hrun⟩ := o_xh hrun
    refine ia S hK Y 88 0 (f := (Ω 4)) rfl rfl b_9 dL_law_324 ?_
    refine lv_icmp_ne (tgt := 343) hx hb dL_law_325 (by decide) (fun c_10 => ?_) (fun c_10 => ?_)
    · have hrun := o_f hrun c_10
      cases hrun
    · have hrun := o_t hrun c_10
      refine lv_aload_n hx hb dL_law_328 rfl (lv_at hl 2 rfl) ?_
      refine lv_iload hx hb dL_law_329 (lv_at hl 8 rfl) ?_
      obtain ⟨r_11, e_12, hrun⟩ := o_bh hrun
      refine cg_v (it := [0, 1]) (ws2 := (wB cI cS h g q_7.2.1 q_7.2.2 Ω)) (As := [.int r_1]) (rest := []) S hK hA hZ Y hl.1 (mX7_setting l D cI cS h q_7.2.1 q_7.2.2 r_1 r_11 e_12) (cBLC h g q_7.2.1 q_7.2.2 Ω) (cBQC h g q_7.2.1 q_7.2.2 Ω) nBL nBQ dBL (cBLP h g q_7.2.1 q_7.2.2 Ω q_7.2.1 q_7.2.2) nPL rfl kL_83 (T := TX7) (N := 5) rfl (q0 := 0) rfl ⟨Nat.le_of_ble_eq_true rfl, Nat.le_of_ble_eq_true rfl⟩ rfl rfl (Nat.le_of_ble_eq_true rfl) ⟨Nat.le_of_ble_eq_true rfl, Nat.le_of_ble_eq_true rfl⟩ dL_law_331 (fun H locs Y => ?_)
      refine lv_iload hx hb dL_law_334 (lv_at hl 0 rfl) ?_
      refine lv_icmp_ne (tgt := 343) hx hb dL_law_336 (by decide) (fun c_13 => ?_) (fun c_13 => ?_)
      · have hrun := o_f hrun c_13
        cases hrun
      · have hrun := o_t hrun c_13
        refine lv_iconst (v := (1 : Int32)) hx hb dL_law_339 (by decide) ?_
        refine lv_goto (tgt := 344) hx hb dL_law_340 (by decide) ?_
        refine lv_istore (lv' := [(12, .int (1 : Int32)), (14, .int q_4), (0, .ref b), (1, .ref (h 8 0)), (2, .ref (g 1)), (3, .ref (g 2)), (4, .ref (g 3)), (5, .ref (g 4)), (6, .int a6), (13, .int r_1)]) hx hb dL_law_344 hl (Nat.le_of_ble_eq_true rfl) rfl (fun ls hl => ?_)
        refine lv_aload hx hb dL_law_346 (lv_at hl 7 rfl) ?_
        refine lv_iload hx hb dL_law_348 (lv_at hl 9 rfl) ?_
        refine lv_iload hx hb dL_law_350 (lv_at hl 1 rfl) ?_
        refine iw S hK Y 88 0 (f := (Ω 4)) rfl rfl b_9 (ws' := (wB cI cS h g q_7.2.1 q_7.2.2 (sg_a Ω 4 (upd (Ω 4) (r_1).toNatClampNeg q_4)))) (wB_a4 _ _ _ _ _ _) dL_law_352 (fun H locs Y => ?_)
        refine lv_goto (tgt := 1373) hx hb dL_law_353 (by decide) ?_
        cases hrun
        exact kx _ _ _ Y (lv_sub hl [2, 3, 4, 5, 6, 7, 8, 0] rfl)
  have hrun := e_5
  refine lv_if_ne (tgt := 281) hx hb dL_law_266 (by decide) (fun c_3 => ?_) (fun c_3 => ?_)
  · have hrun := o_f hrun c_3
    refine lv_iload hx hb dL_law_281 (lv_at hl 0 rfl) ?_
    refine lv_iconst (v := (2 : Int32)) hx hb dL_law_283 (by decide) ?_
    refine lv_icmp_ne (tgt := 299) hx hb dL_law_284 (by decide) (fun c_14 => ?_) (fun c_14 => ?_)
    · have hrun := o_f hrun c_14
      refine lv_iconst (v := (1 : Int32)) hx hb dL_law_299 (by decide) ?_
      refine lv_iload hx hb dL_law_300 (lv_at hl 8 rfl) ?_
      refine lv_bipush (v := (12 : Int32)) hx hb dL_law_302 (by decide) ?_
      refine lv_ishr hx hb dL_law_304 ?_
      refine lv_iconst (v := (4 : Int32)) hx hb dL_law_305 (by decide) ?_
      obtain ⟨r_15, e_16, hrun⟩ := o_bh hrun
      refine cp_s (As := [.int (a7 >>> ((12 : Int32) &&& 31)), .int (4 : Int32)]) (rest := [.int (1 : Int32)]) S hK hA hZ Y hl.1 (mL_low l D (a7 >>> ((12 : Int32) &&& 31)) (4 : Int32) r_15 e_16) kL_74 ⟨Nat.le_of_ble_eq_true rfl, Nat.le_of_ble_eq_true rfl⟩ rfl rfl (Nat.le_of_ble_eq_true rfl) ⟨Nat.le_of_ble_eq_true rfl, Nat.le_of_ble_eq_true rfl⟩ dL_law_306 (fun H locs Y => ?_)
      refine lv_iadd hx hb dL_law_309 ?_
      cases hrun
      exact kx6 _ _ _ Y (lv_sub hl [1, 2, 3, 4, 5, 6, 7, 0] rfl)
    · have hrun := o_t hrun c_14
      refine lv_iload hx hb dL_law_287 (lv_at hl 8 rfl) ?_
      refine lv_bipush (v := (12 : Int32)) hx hb dL_law_289 (by decide) ?_
      refine lv_ishr hx hb dL_law_291 ?_
      refine lv_iconst (v := (5 : Int32)) hx hb dL_law_292 (by decide) ?_
      obtain ⟨r_17, e_18, hrun⟩ := o_bh hrun
      refine cp_s (As := [.int (a7 >>> ((12 : Int32) &&& 31)), .int (5 : Int32)]) (rest := []) S hK hA hZ Y hl.1 (mL_low l D (a7 >>> ((12 : Int32) &&& 31)) (5 : Int32) r_17 e_18) kL_74 ⟨Nat.le_of_ble_eq_true rfl, Nat.le_of_ble_eq_true rfl⟩ rfl rfl (Nat.le_of_ble_eq_true rfl) ⟨Nat.le_of_ble_eq_true rfl, Nat.le_of_ble_eq_true rfl⟩ dL_law_293 (fun H locs Y => ?_)
      refine lv_goto (tgt := 310) hx hb dL_law_296 (by decide) ?_
      cases hrun
      exact kx6 _ _ _ Y (lv_sub hl [1, 2, 3, 4, 5, 6, 7, 0] rfl)
  · have hrun := o_t hrun c_3
    refine lv_iload hx hb dL_law_269 (lv_at hl 8 rfl) ?_
    refine lv_bipush (v := (12 : Int32)) hx hb dL_law_271 (by decide) ?_
    refine lv_ishr hx hb dL_law_273 ?_
    refine lv_iconst (v := (4 : Int32)) hx hb dL_law_274 (by decide) ?_
    obtain ⟨r_19, e_20, hrun⟩ := o_bh hrun
    refine cp_s (As := [.int (a7 >>> ((12 : Int32) &&& 31)), .int (4 : Int32)]) (rest := []) S hK hA hZ Y hl.1 (mL_low l D (a7 >>> ((12 : Int32) &&& 31)) (4 : Int32) r_19 e_20) kL_74 ⟨Nat.le_of_ble_eq_true rfl, Nat.le_of_ble_eq_true rfl⟩ rfl rfl (Nat.le_of_ble_eq_true rfl) ⟨Nat.le_of_ble_eq_true rfl, Nat.le_of_ble_eq_true rfl⟩ dL_law_275 (fun H locs Y => ?_)
    refine lv_goto (tgt := 310) hx hb dL_law_278 (by decide) ?_
    cases hrun
    exact kx6 _ _ _ Y (lv_sub hl [1, 2, 3, 4, 5, 6, 7, 0] rfl)
def lL_law_423 : Nat → Int32 → Int32 → Int32 → Int32 → Int32 → Int32 → (s3_T) → (Nat → Nat) → (sg_T) → Option (Int32)
  | 0, _, _, _, _, _, _, _, _, _ => none
  | n + 1, a6, a10, a11, a13, a14, a15, Λ, π, Ω => (if (16 : Int32) ≤ a15 then (some a14) else ((fL_good a15 Ω).bind fun r_5 => ((if r_5 = 0 then (some (0 : Int32)) else (some (1 : Int32))).bind fun q_8 => (lL_law_423 n a6 a10 a11 a13 (a14 + q_8) (a15 + (1 : Int32)) Λ π Ω))))
def bL_law_364 (a6 : Int32) (a7 : Int32) (a10 : Int32) (Λ : s3_T) (π : Nat → Nat) (Ω : sg_T) : Option (s3_T × (Nat → Nat) × sg_T) := ((fL_low (a7 >>> ((12 : Int32) &&& 31)) (8 : Int32)).bind fun r_1 => (o_x (((6 : Int32) * a10) + (1 : Int32)) 48 ((lL_law_423 70 a6 a10 (-10003 : Int32) ((1 : Int32) + r_1) (0 : Int32) (0 : Int32) Λ π (sg_a (sg_a (sg_a (sg_a (sg_a Ω 4 (upd (Ω 4) ((6 : Int32)).toNatClampNeg (1 : Int32))) 4 (upd (upd (Ω 4) ((6 : Int32)).toNatClampNeg (1 : Int32)) ((7 : Int32)).toNatClampNeg a10)) 4 (upd (upd (upd (Ω 4) ((6 : Int32)).toNatClampNeg (1 : Int32)) ((7 : Int32)).toNatClampNeg a10) ((8 : Int32)).toNatClampNeg ((1 : Int32) + r_1))) 4 (upd (upd (upd (upd (Ω 4) ((6 : Int32)).toNatClampNeg (1 : Int32)) ((7 : Int32)).toNatClampNeg a10) ((8 : Int32)).toNatClampNeg ((1 : Int32) + r_1)) ((9 : Int32)).toNatClampNeg (0 : Int32))) 1 (upd (Ω 1) ((((6 : Int32) * a10) + (1 : Int32))).toNatClampNeg (((Ω 1) ((((6 : Int32) * a10) + (1 : Int32))).toNatClampNeg) + (1 : Int32))))).bind fun q_11 => ((fX7_walk (1 : Int32) Λ π).bind fun q_13 => (if q_13.1 = (-10003 : Int32) then ((fX7_seek q_13.2.1 q_13.2.2).bind fun q_16 => (if q_16.1 = (-10003 : Int32) then ((fX7_start a10 ((1 : Int32) + r_1) q_16.2.1 q_16.2.2).bind fun q_19 => (if q_19.1 = q_11 then ((fX7_start a10 (1 : Int32) q_19.2.1 q_19.2.2).bind fun q_22 => (if q_22.1 = (-10003 : Int32) then ((fX7_join q_22.2.1 q_22.2.2).bind fun q_25 => (if q_25.1 = (-10003 : Int32) then (some (q_25.2.1, q_25.2.2, (sg_a (sg_a (sg_a (sg_a (sg_a Ω 4 (upd (Ω 4) ((6 : Int32)).toNatClampNeg (1 : Int32))) 4 (upd (upd (Ω 4) ((6 : Int32)).toNatClampNeg (1 : Int32)) ((7 : Int32)).toNatClampNeg a10)) 4 (upd (upd (upd (Ω 4) ((6 : Int32)).toNatClampNeg (1 : Int32)) ((7 : Int32)).toNatClampNeg a10) ((8 : Int32)).toNatClampNeg ((1 : Int32) + r_1))) 4 (upd (upd (upd (upd (Ω 4) ((6 : Int32)).toNatClampNeg (1 : Int32)) ((7 : Int32)).toNatClampNeg a10) ((8 : Int32)).toNatClampNeg ((1 : Int32) + r_1)) ((9 : Int32)).toNatClampNeg (0 : Int32))) 1 (upd (Ω 1) ((((6 : Int32) * a10) + (1 : Int32))).toNatClampNeg (((Ω 1) ((((6 : Int32) * a10) + (1 : Int32))).toNatClampNeg) + (1 : Int32)))))) else none)) else none)) else none)) else none)) else none)))))
set_option maxRecDepth 100000 in
set_option maxHeartbeats 16000000 in
theorem kL_law_364 {p : Program} {l : Launch} {e : Env} {s : State} {m : MethodId} {below : List Frame} {meth : Method} {c : Code} {Q : State → Prop} {D : va_G} {A : Nat → Prop} {cI cS : ClassId} {b : Nat} {h : Nat → Nat → Nat} {g : Nat → Nat} (S : CallFix p m c code 18 s #[Value.ref b] (Cond.tt :: uw_) RL) (hK : va_K D vwCl (tL cI cS) s) (hA : ∀ q, s.heap.size ≤ q → A q) (hZ : zs_ A s) (a6 : Int32) (a7 : Int32) (a10 : Int32) (Λ : s3_T) (π : Nat → Nat) (Ω : sg_T) (q_b : s3_T × (Nat → Nat) × sg_T) (hrun : bL_law_364 a6 a7 a10 Λ π Ω = some q_b) (kx : ∀ (H : Heap) (locs : List Loc) (ls : Array Slot), dy_ D A s (wB cI cS h g q_b.1 q_b.2.1 q_b.2.2) H locs → lv_has ls 18 [(0, .ref b), (1, .ref (h 8 0)), (2, .ref (g 1)), (3, .ref (g 2)), (4, .ref (g 3)), (5, .ref (g 4)), (6, .int a6), (12, .int (1 : Int32))] → W p l e room_1 s m #[Value.ref b] below meth c H locs 89 982 Q (F0 m 1373 ls [])) : ∀ (H : Heap) (locs : List Loc) (ls : Array Slot), dy_ D A s (wB cI cS h g Λ π Ω) H locs → lv_has ls 18 [(0, .ref b), (1, .ref (h 8 0)), (2, .ref (g 1)), (3, .ref (g 2)), (4, .ref (g 3)), (5, .ref (g 4)), (6, .int a6), (7, .int a7), (10, .int a10), (11, .int (-10003 : Int32))] → W p l e room_1 s m #[Value.ref b] below meth c H locs 89 982 Q (F0 m 364 ls []) := by
  have hx := S.1
  have hb := S.2.1
  have lp423 : ∀ (n : Nat) (a6 : Int32) (a10 : Int32) (a11 : Int32) (a13 : Int32) (a14 : Int32) (a15 : Int32) (Λ : s3_T) (π : Nat → Nat) (Ω : sg_T) (q_x : Int32), lL_law_423 n a6 a10 a11 a13 a14 a15 Λ π Ω = some q_x → (∀ (H : Heap) (locs : List Loc) (ls : Array Slot), dy_ D A s (wB cI cS h g Λ π Ω) H locs → lv_has ls 18 [(0, .ref b), (1, .ref (h 8 0)), (2, .ref (g 1)), (3, .ref (g 2)), (4, .ref (g 3)), (5, .ref (g 4)), (6, .int a6), (10, .int a10), (11, .int a11), (13, .int a13), (14, .int q_x)] → W p l e room_1 s m #[Value.ref b] below meth c H locs 89 982 Q (F0 m 458 ls [])) → ∀ (H : Heap) (locs : List Loc) (ls : Array Slot), dy_ D A s (wB cI cS h g Λ π Ω) H locs → lv_has ls 18 [(0, .ref b), (1, .ref (h 8 0)), (2, .ref (g 1)), (3, .ref (g 2)), (4, .ref (g 3)), (5, .ref (g 4)), (6, .int a6), (10, .int a10), (11, .int a11), (13, .int a13), (14, .int a14), (15, .int a15)] → W p l e room_1 s m #[Value.ref b] below meth c H locs 89 982 Q (F0 m 423 ls []) := by
    intro n
    induction n with
    | zero => intro a6 a10 a11 a13 a14 a15 Λ π Ω q_x hrun; cases hrun
    | succ n ih =>
      intro a6 a10 a11 a13 a14 a15 Λ π Ω q_x hrun kx H locs ls Y hl
      unfold lL_law_423 at hrun
      refine lv_iload hx hb dL_law_423 (lv_at hl 11 rfl) ?_
      refine lv_bipush (v := (16 : Int32)) hx hb dL_law_425 (by decide) ?_
      refine lv_icmp_ge (tgt := 458) hx hb dL_law_427 (by decide) (fun c_4 => ?_) (fun c_4 => ?_)
      · have hrun := o_t hrun c_4
        cases hrun
        exact kx _ _ _ Y (lv_sub hl [0, 1, 2, 3, 4, 5, 6, 7, 8, 9, 10] rfl)
      · have hrun := o_f hrun c_4
        refine lv_iload hx hb dL_law_430 (lv_at hl 10 rfl) ?_
        refine lv_aload hx hb dL_law_432 (lv_at hl 4 rfl) ?_
        refine lv_aload hx hb dL_law_434 (lv_at hl 5 rfl) ?_
        refine lv_iload hx hb dL_law_436 (lv_at hl 11 rfl) ?_
        obtain ⟨r_5, e_6, hrun⟩ := o_bh hrun
        refine cg_s (it := [0]) (ws2 := (wB cI cS h g Λ π Ω)) (As := [.ref (g 3), .ref (g 4), .int a15]) (rest := [.int a14]) S hK hA hZ Y hl.1 (mL_good l D cI g Ω a15 r_5 e_6) (cBQC h g Λ π Ω) (cBLC h g Λ π Ω) nBQ nBL dBQ (cBQP h g Λ π Ω Ω) nPQ rfl kL_36 ⟨Nat.le_of_ble_eq_true rfl, Nat.le_of_ble_eq_true rfl⟩ rfl rfl (Nat.le_of_ble_eq_true rfl) ⟨Nat.le_of_ble_eq_true rfl, Nat.le_of_ble_eq_true rfl⟩ dL_law_438 (fun H locs Y => ?_)
        obtain ⟨q_8, e_9, hrun⟩ := o_bh hrun
        have kx10 : ∀ (H : Heap) (locs : List Loc) (ls : Array Slot), dy_ D A s (wB cI cS h g Λ π Ω) H locs → lv_has ls 18 [(0, .ref b), (1, .ref (h 8 0)), (2, .ref (g 1)), (3, .ref (g 2)), (4, .ref (g 3)), (5, .ref (g 4)), (6, .int a6), (10, .int a10), (11, .int a11), (13, .int a13), (15, .int a15)] → W p l e room_1 s m #[Value.ref b] below meth c H locs 89 982 Q (F0 m 449 ls [.int q_8, .int a14]) := by
          intro H locs ls Y hl
          refine lv_iadd hx hb dL_law_449 ?_
          refine lv_istore (lv' := [(14, .int (a14 + q_8)), (0, .ref b), (1, .ref (h 8 0)), (2, .ref (g 1)), (3, .ref (g 2)), (4, .ref (g 3)), (5, .ref (g 4)), (6, .int a6), (10, .int a10), (11, .int a11), (13, .int a13), (15, .int a15)]) hx hb dL_law_450 hl (Nat.le_of_ble_eq_true rfl) rfl (fun ls hl => ?_)
          refine lv_iinc (v := (a15 + (1 : Int32))) (lv' := [(15, .int (a15 + (1 : Int32))), (14, .int (a14 + q_8)), (0, .ref b), (1, .ref (h 8 0)), (2, .ref (g 1)), (3, .ref (g 2)), (4, .ref (g 3)), (5, .ref (g 4)), (6, .int a6), (10, .int a10), (11, .int a11), (13, .int a13)]) hx hb dL_law_452 hl (k := 11) rfl (by rfl) (Nat.le_of_ble_eq_true rfl) rfl (fun ls hl => ?_)
          refine lv_goto (tgt := 423) hx hb dL_law_455 (by decide) ?_
          exact ih a6 a10 a11 a13 (a14 + q_8) (a15 + (1 : Int32)) Λ π Ω q_x hrun kx _ _ _ Y (lv_sub hl [2, 3, 4, 5, 6, 7, 8, 9, 10, 11, 1, 0] rfl)
        have hrun := e_9
        refine lv_if_eq (tgt := 448) hx hb dL_law_441 (by decide) (fun c_7 => ?_) (fun c_7 => ?_)
        · have hrun := o_t hrun c_7
          refine lv_iconst (v := (0 : Int32)) hx hb dL_law_448 (by decide) ?_
          cases hrun
          exact kx10 _ _ _ Y (lv_sub hl [0, 1, 2, 3, 4, 5, 6, 7, 8, 9, 11] rfl)
        · have hrun := o_f hrun c_7
          refine lv_iconst (v := (1 : Int32)) hx hb dL_law_444 (by decide) ?_
          refine lv_goto (tgt := 449) hx hb dL_law_445 (by decide) ?_
          cases hrun
          exact kx10 _ _ _ Y (lv_sub hl [0, 1, 2, 3, 4, 5, 6, 7, 8, 9, 11] rfl)
  intro H locs ls Y hl
  unfold bL_law_364 at hrun
  refine lv_iconst (v := (1 : Int32)) hx hb dL_law_364 (by decide) ?_
  refine lv_iload hx hb dL_law_365 (lv_at hl 7 rfl) ?_
  refine lv_bipush (v := (12 : Int32)) hx hb dL_law_367 (by decide) ?_
  refine lv_ishr hx hb dL_law_369 ?_
  refine lv_bipush (v := (8 : Int32)) hx hb dL_law_370 (by decide) ?_
  obtain ⟨r_1, e_2, hrun⟩ := o_bh hrun
  refine cp_s (As := [.int (a7 >>> ((12 : Int32) &&& 31)), .int (8 : Int32)]) (rest := [.int (1 : Int32)]) S hK hA hZ Y hl.1 (mL_low l D (a7 >>> ((12 : Int32) &&& 31)) (8 : Int32) r_1 e_2) kL_74 ⟨Nat.le_of_ble_eq_true rfl, Nat.le_of_ble_eq_true rfl⟩ rfl rfl (Nat.le_of_ble_eq_true rfl) ⟨Nat.le_of_ble_eq_true rfl, Nat.le_of_ble_eq_true rfl⟩ dL_law_372 (fun H locs Y => ?_)
  refine lv_iadd hx hb dL_law_375 ?_
  refine lv_istore (lv' := [(13, .int ((1 : Int32) + r_1)), (0, .ref b), (1, .ref (h 8 0)), (2, .ref (g 1)), (3, .ref (g 2)), (4, .ref (g 3)), (5, .ref (g 4)), (6, .int a6), (7, .int a7), (10, .int a10), (11, .int (-10003 : Int32))]) hx hb dL_law_376 hl (Nat.le_of_ble_eq_true rfl) rfl (fun ls hl => ?_)
  refine lv_aload hx hb dL_law_378 (lv_at hl 6 rfl) ?_
  refine lv_bipush (v := (6 : Int32)) hx hb dL_law_380 (by decide) ?_
  refine lv_iconst (v := (1 : Int32)) hx hb dL_law_382 (by decide) ?_
  refine iw S hK Y 88 0 (f := (Ω 4)) rfl rfl (show ¬ ((6 : Int32) < 0 ∨ 11 ≤ ((6 : Int32)).toNatClampNeg) by decide) (ws' := (wB cI cS h g Λ π (sg_a Ω 4 (upd (Ω 4) ((6 : Int32)).toNatClampNeg (1 : Int32))))) (wB_a4 _ _ _ _ _ _) dL_law_383 (fun H locs Y => ?_)
  refine lv_aload hx hb dL_law_384 (lv_at hl 6 rfl) ?_
  refine lv_bipush (v := (7 : Int32)) hx hb dL_law_386 (by decide) ?_
  refine lv_iload hx hb dL_law_388 (lv_at hl 9 rfl) ?_
  refine iw S hK Y 88 0 (f := (upd (Ω 4) ((6 : Int32)).toNatClampNeg (1 : Int32))) rfl rfl (show ¬ ((7 : Int32) < 0 ∨ 11 ≤ ((7 : Int32)).toNatClampNeg) by decide) (ws' := (wB cI cS h g Λ π (sg_a (sg_a Ω 4 (upd (Ω 4) ((6 : Int32)).toNatClampNeg (1 : Int32))) 4 (upd (upd (Ω 4) ((6 : Int32)).toNatClampNeg (1 : Int32)) ((7 : Int32)).toNatClampNeg a10)))) (wB_a4 _ _ _ _ _ _) dL_law_390 (fun H locs Y => ?_)
  refine lv_aload hx hb dL_law_391 (lv_at hl 6 rfl) ?_
  refine lv_bipush (v := (8 : Int32)) hx hb dL_law_393 (by decide) ?_
  refine lv_iload hx hb dL_law_395 (lv_at hl 0 rfl) ?_
  refine iw S hK Y 88 0 (f := (upd (upd (Ω 4) ((6 : Int32)).toNatClampNeg (1 : Int32)) ((7 : Int32)).toNatClampNeg a10)) rfl rfl (show ¬ ((8 : Int32) < 0 ∨ 11 ≤ ((8 : Int32)).toNatClampNeg) by decide) (ws' := (wB cI cS h g Λ π (sg_a (sg_a (sg_a Ω 4 (upd (Ω 4) ((6 : Int32)).toNatClampNeg (1 : Int32))) 4 (upd (upd (Ω 4) ((6 : Int32)).toNatClampNeg (1 : Int32)) ((7 : Int32)).toNatClampNeg a10)) 4 (upd (upd (upd (Ω 4) ((6 : Int32)).toNatClampNeg (1 : Int32)) ((7 : Int32)).toNatClampNeg a10) ((8 : Int32)).toNatClampNeg ((1 : Int32) + r_1))))) (wB_a4 _ _ _ _ _ _) dL_law_397 (fun H locs Y => ?_)
  refine lv_aload hx hb dL_law_398 (lv_at hl 6 rfl) ?_
  refine lv_bipush (v := (9 : Int32)) hx hb dL_law_400 (by decide) ?_
  refine lv_iconst (v := (0 : Int32)) hx hb dL_law_402 (by decide) ?_
  refine iw S hK Y 88 0 (f := (upd (upd (upd (Ω 4) ((6 : Int32)).toNatClampNeg (1 : Int32)) ((7 : Int32)).toNatClampNeg a10) ((8 : Int32)).toNatClampNeg ((1 : Int32) + r_1))) rfl rfl (show ¬ ((9 : Int32) < 0 ∨ 11 ≤ ((9 : Int32)).toNatClampNeg) by decide) (ws' := (wB cI cS h g Λ π (sg_a (sg_a (sg_a (sg_a Ω 4 (upd (Ω 4) ((6 : Int32)).toNatClampNeg (1 : Int32))) 4 (upd (upd (Ω 4) ((6 : Int32)).toNatClampNeg (1 : Int32)) ((7 : Int32)).toNatClampNeg a10)) 4 (upd (upd (upd (Ω 4) ((6 : Int32)).toNatClampNeg (1 : Int32)) ((7 : Int32)).toNatClampNeg a10) ((8 : Int32)).toNatClampNeg ((1 : Int32) + r_1))) 4 (upd (upd (upd (upd (Ω 4) ((6 : Int32)).toNatClampNeg (1 : Int32)) ((7 : Int32)).toNatClampNeg a10) ((8 : Int32)).toNatClampNeg ((1 : Int32) + r_1)) ((9 : Int32)).toNatClampNeg (0 : Int32))))) (wB_a4 _ _ _ _ _ _) dL_law_403 (fun H locs Y => ?_)
  refine lv_aload_n hx hb dL_law_404 rfl (lv_at hl 3 rfl) ?_
  refine lv_bipush (v := (6 : Int32)) hx hb dL_law_405 (by decide) ?_
  refine lv_iload hx hb dL_law_407 (lv_at hl 9 rfl) ?_
  refine lv_imul hx hb dL_law_409 ?_
  refine lv_iconst (v := (1 : Int32)) hx hb dL_law_410 (by decide) ?_
  refine lv_iadd hx hb dL_law_411 ?_
  refine lv_dup2_11 hx hb dL_law_412 rfl rfl ?_
  obtain ⟨b_3, hrun⟩ := o_xh hrun
  refine ia S hK Y 85 0 (f := (Ω 1)) rfl rfl b_3 dL_law_413 ?_
  refine lv_iconst (v := (1 : Int32)) hx hb dL_law_414 (by decide) ?_
  refine lv_iadd hx hb dL_law_415 ?_
  refine iw S hK Y 85 0 (f := (Ω 1)) rfl rfl b_3 (ws' := (wB cI cS h g Λ π (sg_a (sg_a (sg_a (sg_a (sg_a Ω 4 (upd (Ω 4) ((6 : Int32)).toNatClampNeg (1 : Int32))) 4 (upd (upd (Ω 4) ((6 : Int32)).toNatClampNeg (1 : Int32)) ((7 : Int32)).toNatClampNeg a10)) 4 (upd (upd (upd (Ω 4) ((6 : Int32)).toNatClampNeg (1 : Int32)) ((7 : Int32)).toNatClampNeg a10) ((8 : Int32)).toNatClampNeg ((1 : Int32) + r_1))) 4 (upd (upd (upd (upd (Ω 4) ((6 : Int32)).toNatClampNeg (1 : Int32)) ((7 : Int32)).toNatClampNeg a10) ((8 : Int32)).toNatClampNeg ((1 : Int32) + r_1)) ((9 : Int32)).toNatClampNeg (0 : Int32))) 1 (upd (Ω 1) ((((6 : Int32) * a10) + (1 : Int32))).toNatClampNeg (((Ω 1) ((((6 : Int32) * a10) + (1 : Int32))).toNatClampNeg) + (1 : Int32)))))) (wB_a1 _ _ _ _ _ _) dL_law_416 (fun H locs Y => ?_)
  refine lv_iconst (v := (0 : Int32)) hx hb dL_law_417 (by decide) ?_
  refine lv_istore (lv' := [(14, .int (0 : Int32)), (13, .int ((1 : Int32) + r_1)), (0, .ref b), (1, .ref (h 8 0)), (2, .ref (g 1)), (3, .ref (g 2)), (4, .ref (g 3)), (5, .ref (g 4)), (6, .int a6), (7, .int a7), (10, .int a10), (11, .int (-10003 : Int32))]) hx hb dL_law_418 hl (Nat.le_of_ble_eq_true rfl) rfl (fun ls hl => ?_)
  refine lv_iconst (v := (0 : Int32)) hx hb dL_law_420 (by decide) ?_
  refine lv_istore (lv' := [(15, .int (0 : Int32)), (14, .int (0 : Int32)), (13, .int ((1 : Int32) + r_1)), (0, .ref b), (1, .ref (h 8 0)), (2, .ref (g 1)), (3, .ref (g 2)), (4, .ref (g 3)), (5, .ref (g 4)), (6, .int a6), (7, .int a7), (10, .int a10), (11, .int (-10003 : Int32))]) hx hb dL_law_421 hl (Nat.le_of_ble_eq_true rfl) rfl (fun ls hl => ?_)
  obtain ⟨q_11, e_12, hrun⟩ := o_bh hrun
  refine lp423 70 a6 a10 (-10003 : Int32) ((1 : Int32) + r_1) (0 : Int32) (0 : Int32) Λ π (sg_a (sg_a (sg_a (sg_a (sg_a Ω 4 (upd (Ω 4) ((6 : Int32)).toNatClampNeg (1 : Int32))) 4 (upd (upd (Ω 4) ((6 : Int32)).toNatClampNeg (1 : Int32)) ((7 : Int32)).toNatClampNeg a10)) 4 (upd (upd (upd (Ω 4) ((6 : Int32)).toNatClampNeg (1 : Int32)) ((7 : Int32)).toNatClampNeg a10) ((8 : Int32)).toNatClampNeg ((1 : Int32) + r_1))) 4 (upd (upd (upd (upd (Ω 4) ((6 : Int32)).toNatClampNeg (1 : Int32)) ((7 : Int32)).toNatClampNeg a10) ((8 : Int32)).toNatClampNeg ((1 : Int32) + r_1)) ((9 : Int32)).toNatClampNeg (0 : Int32))) 1 (upd (Ω 1) ((((6 : Int32) * a10) + (1 : Int32))).toNatClampNeg (((Ω 1) ((((6 : Int32) * a10) + (1 : Int32))).toNatClampNeg) + (1 : Int32)))) q_11 e_12 (fun H locs ls Y hl => ?_) _ _ _ Y (lv_sub hl [3, 4, 5, 6, 7, 8, 9, 11, 12, 2, 1, 0] rfl)
  refine lv_aload_n hx hb dL_law_458 rfl (lv_at hl 1 rfl) ?_
  refine lv_iconst (v := (1 : Int32)) hx hb dL_law_459 (by decide) ?_
  obtain ⟨q_13, e_14, hrun⟩ := o_bh hrun
  refine cg_v (it := [0, 1]) (ws2 := (wB cI cS h g q_13.2.1 q_13.2.2 (sg_a (sg_a (sg_a (sg_a (sg_a Ω 4 (upd (Ω 4) ((6 : Int32)).toNatClampNeg (1 : Int32))) 4 (upd (upd (Ω 4) ((6 : Int32)).toNatClampNeg (1 : Int32)) ((7 : Int32)).toNatClampNeg a10)) 4 (upd (upd (upd (Ω 4) ((6 : Int32)).toNatClampNeg (1 : Int32)) ((7 : Int32)).toNatClampNeg a10) ((8 : Int32)).toNatClampNeg ((1 : Int32) + r_1))) 4 (upd (upd (upd (upd (Ω 4) ((6 : Int32)).toNatClampNeg (1 : Int32)) ((7 : Int32)).toNatClampNeg a10) ((8 : Int32)).toNatClampNeg ((1 : Int32) + r_1)) ((9 : Int32)).toNatClampNeg (0 : Int32))) 1 (upd (Ω 1) ((((6 : Int32) * a10) + (1 : Int32))).toNatClampNeg (((Ω 1) ((((6 : Int32) * a10) + (1 : Int32))).toNatClampNeg) + (1 : Int32)))))) (As := [.int (1 : Int32)]) (rest := []) S hK hA hZ Y hl.1 (mX7_walk l D cI cS h Λ π (1 : Int32) q_13.1 q_13.2.1 q_13.2.2 e_14) (cBLC h g Λ π (sg_a (sg_a (sg_a (sg_a (sg_a Ω 4 (upd (Ω 4) ((6 : Int32)).toNatClampNeg (1 : Int32))) 4 (upd (upd (Ω 4) ((6 : Int32)).toNatClampNeg (1 : Int32)) ((7 : Int32)).toNatClampNeg a10)) 4 (upd (upd (upd (Ω 4) ((6 : Int32)).toNatClampNeg (1 : Int32)) ((7 : Int32)).toNatClampNeg a10) ((8 : Int32)).toNatClampNeg ((1 : Int32) + r_1))) 4 (upd (upd (upd (upd (Ω 4) ((6 : Int32)).toNatClampNeg (1 : Int32)) ((7 : Int32)).toNatClampNeg a10) ((8 : Int32)).toNatClampNeg ((1 : Int32) + r_1)) ((9 : Int32)).toNatClampNeg (0 : Int32))) 1 (upd (Ω 1) ((((6 : Int32) * a10) + (1 : Int32))).toNatClampNeg (((Ω 1) ((((6 : Int32) * a10) + (1 : Int32))).toNatClampNeg) + (1 : Int32))))) (cBQC h g Λ π (sg_a (sg_a (sg_a (sg_a (sg_a Ω 4 (upd (Ω 4) ((6 : Int32)).toNatClampNeg (1 : Int32))) 4 (upd (upd (Ω 4) ((6 : Int32)).toNatClampNeg (1 : Int32)) ((7 : Int32)).toNatClampNeg a10)) 4 (upd (upd (upd (Ω 4) ((6 : Int32)).toNatClampNeg (1 : Int32)) ((7 : Int32)).toNatClampNeg a10) ((8 : Int32)).toNatClampNeg ((1 : Int32) + r_1))) 4 (upd (upd (upd (upd (Ω 4) ((6 : Int32)).toNatClampNeg (1 : Int32)) ((7 : Int32)).toNatClampNeg a10) ((8 : Int32)).toNatClampNeg ((1 : Int32) + r_1)) ((9 : Int32)).toNatClampNeg (0 : Int32))) 1 (upd (Ω 1) ((((6 : Int32) * a10) + (1 : Int32))).toNatClampNeg (((Ω 1) ((((6 : Int32) * a10) + (1 : Int32))).toNatClampNeg) + (1 : Int32))))) nBL nBQ dBL (cBLP h g Λ π (sg_a (sg_a (sg_a (sg_a (sg_a Ω 4 (upd (Ω 4) ((6 : Int32)).toNatClampNeg (1 : Int32))) 4 (upd (upd (Ω 4) ((6 : Int32)).toNatClampNeg (1 : Int32)) ((7 : Int32)).toNatClampNeg a10)) 4 (upd (upd (upd (Ω 4) ((6 : Int32)).toNatClampNeg (1 : Int32)) ((7 : Int32)).toNatClampNeg a10) ((8 : Int32)).toNatClampNeg ((1 : Int32) + r_1))) 4 (upd (upd (upd (upd (Ω 4) ((6 : Int32)).toNatClampNeg (1 : Int32)) ((7 : Int32)).toNatClampNeg a10) ((8 : Int32)).toNatClampNeg ((1 : Int32) + r_1)) ((9 : Int32)).toNatClampNeg (0 : Int32))) 1 (upd (Ω 1) ((((6 : Int32) * a10) + (1 : Int32))).toNatClampNeg (((Ω 1) ((((6 : Int32) * a10) + (1 : Int32))).toNatClampNeg) + (1 : Int32)))) q_13.2.1 q_13.2.2) nPL rfl kL_86 (T := TX7) (N := 5) rfl (q0 := 0) rfl ⟨Nat.le_of_ble_eq_true rfl, Nat.le_of_ble_eq_true rfl⟩ rfl rfl (Nat.le_of_ble_eq_true rfl) ⟨Nat.le_of_ble_eq_true rfl, Nat.le_of_ble_eq_true rfl⟩ dL_law_460 (fun H locs Y => ?_)
  refine lv_iload hx hb dL_law_463 (lv_at hl 8 rfl) ?_
  refine lv_icmp_ne (tgt := 515) hx hb dL_law_465 (by decide) (fun c_15 => ?_) (fun c_15 => ?_)
  · have hrun := o_f hrun c_15
    cases hrun
  · have hrun := o_t hrun c_15
    refine lv_aload_n hx hb dL_law_468 rfl (lv_at hl 1 rfl) ?_
    obtain ⟨q_16, e_17, hrun⟩ := o_bh hrun
    refine cg_v (it := [0, 1]) (ws2 := (wB cI cS h g q_16.2.1 q_16.2.2 (sg_a (sg_a (sg_a (sg_a (sg_a Ω 4 (upd (Ω 4) ((6 : Int32)).toNatClampNeg (1 : Int32))) 4 (upd (upd (Ω 4) ((6 : Int32)).toNatClampNeg (1 : Int32)) ((7 : Int32)).toNatClampNeg a10)) 4 (upd (upd (upd (Ω 4) ((6 : Int32)).toNatClampNeg (1 : Int32)) ((7 : Int32)).toNatClampNeg a10) ((8 : Int32)).toNatClampNeg ((1 : Int32) + r_1))) 4 (upd (upd (upd (upd (Ω 4) ((6 : Int32)).toNatClampNeg (1 : Int32)) ((7 : Int32)).toNatClampNeg a10) ((8 : Int32)).toNatClampNeg ((1 : Int32) + r_1)) ((9 : Int32)).toNatClampNeg (0 : Int32))) 1 (upd (Ω 1) ((((6 : Int32) * a10) + (1 : Int32))).toNatClampNeg (((Ω 1) ((((6 : Int32) * a10) + (1 : Int32))).toNatClampNeg) + (1 : Int32)))))) (As := []) (rest := []) S hK hA hZ Y hl.1 (mX7_seek l D cI cS h q_13.2.1 q_13.2.2 q_16.1 q_16.2.1 q_16.2.2 e_17) (cBLC h g q_13.2.1 q_13.2.2 (sg_a (sg_a (sg_a (sg_a (sg_a Ω 4 (upd (Ω 4) ((6 : Int32)).toNatClampNeg (1 : Int32))) 4 (upd (upd (Ω 4) ((6 : Int32)).toNatClampNeg (1 : Int32)) ((7 : Int32)).toNatClampNeg a10)) 4 (upd (upd (upd (Ω 4) ((6 : Int32)).toNatClampNeg (1 : Int32)) ((7 : Int32)).toNatClampNeg a10) ((8 : Int32)).toNatClampNeg ((1 : Int32) + r_1))) 4 (upd (upd (upd (upd (Ω 4) ((6 : Int32)).toNatClampNeg (1 : Int32)) ((7 : Int32)).toNatClampNeg a10) ((8 : Int32)).toNatClampNeg ((1 : Int32) + r_1)) ((9 : Int32)).toNatClampNeg (0 : Int32))) 1 (upd (Ω 1) ((((6 : Int32) * a10) + (1 : Int32))).toNatClampNeg (((Ω 1) ((((6 : Int32) * a10) + (1 : Int32))).toNatClampNeg) + (1 : Int32))))) (cBQC h g q_13.2.1 q_13.2.2 (sg_a (sg_a (sg_a (sg_a (sg_a Ω 4 (upd (Ω 4) ((6 : Int32)).toNatClampNeg (1 : Int32))) 4 (upd (upd (Ω 4) ((6 : Int32)).toNatClampNeg (1 : Int32)) ((7 : Int32)).toNatClampNeg a10)) 4 (upd (upd (upd (Ω 4) ((6 : Int32)).toNatClampNeg (1 : Int32)) ((7 : Int32)).toNatClampNeg a10) ((8 : Int32)).toNatClampNeg ((1 : Int32) + r_1))) 4 (upd (upd (upd (upd (Ω 4) ((6 : Int32)).toNatClampNeg (1 : Int32)) ((7 : Int32)).toNatClampNeg a10) ((8 : Int32)).toNatClampNeg ((1 : Int32) + r_1)) ((9 : Int32)).toNatClampNeg (0 : Int32))) 1 (upd (Ω 1) ((((6 : Int32) * a10) + (1 : Int32))).toNatClampNeg (((Ω 1) ((((6 : Int32) * a10) + (1 : Int32))).toNatClampNeg) + (1 : Int32))))) nBL nBQ dBL (cBLP h g q_13.2.1 q_13.2.2 (sg_a (sg_a (sg_a (sg_a (sg_a Ω 4 (upd (Ω 4) ((6 : Int32)).toNatClampNeg (1 : Int32))) 4 (upd (upd (Ω 4) ((6 : Int32)).toNatClampNeg (1 : Int32)) ((7 : Int32)).toNatClampNeg a10)) 4 (upd (upd (upd (Ω 4) ((6 : Int32)).toNatClampNeg (1 : Int32)) ((7 : Int32)).toNatClampNeg a10) ((8 : Int32)).toNatClampNeg ((1 : Int32) + r_1))) 4 (upd (upd (upd (upd (Ω 4) ((6 : Int32)).toNatClampNeg (1 : Int32)) ((7 : Int32)).toNatClampNeg a10) ((8 : Int32)).toNatClampNeg ((1 : Int32) + r_1)) ((9 : Int32)).toNatClampNeg (0 : Int32))) 1 (upd (Ω 1) ((((6 : Int32) * a10) + (1 : Int32))).toNatClampNeg (((Ω 1) ((((6 : Int32) * a10) + (1 : Int32))).toNatClampNeg) + (1 : Int32)))) q_16.2.1 q_16.2.2) nPL rfl kL_89 (T := TX7) (N := 5) rfl (q0 := 0) rfl ⟨Nat.le_of_ble_eq_true rfl, Nat.le_of_ble_eq_true rfl⟩ rfl rfl (Nat.le_of_ble_eq_true rfl) ⟨Nat.le_of_ble_eq_true rfl, Nat.le_of_ble_eq_true rfl⟩ dL_law_469 (fun H locs Y => ?_)
    refine lv_iload hx hb dL_law_472 (lv_at hl 8 rfl) ?_
    refine lv_icmp_ne (tgt := 515) hx hb dL_law_474 (by decide) (fun c_18 => ?_) (fun c_18 => ?_)
    · have hrun := o_f hrun c_18
      cases hrun
    · have hrun := o_t hrun c_18
      refine lv_aload_n hx hb dL_law_477 rfl (lv_at hl 1 rfl) ?_
      refine lv_iload hx hb dL_law_478 (lv_at hl 7 rfl) ?_
      refine lv_iload hx hb dL_law_480 (lv_at hl 9 rfl) ?_
      obtain ⟨q_19, e_20, hrun⟩ := o_bh hrun
      refine cg_v (it := [0, 1]) (ws2 := (wB cI cS h g q_19.2.1 q_19.2.2 (sg_a (sg_a (sg_a (sg_a (sg_a Ω 4 (upd (Ω 4) ((6 : Int32)).toNatClampNeg (1 : Int32))) 4 (upd (upd (Ω 4) ((6 : Int32)).toNatClampNeg (1 : Int32)) ((7 : Int32)).toNatClampNeg a10)) 4 (upd (upd (upd (Ω 4) ((6 : Int32)).toNatClampNeg (1 : Int32)) ((7 : Int32)).toNatClampNeg a10) ((8 : Int32)).toNatClampNeg ((1 : Int32) + r_1))) 4 (upd (upd (upd (upd (Ω 4) ((6 : Int32)).toNatClampNeg (1 : Int32)) ((7 : Int32)).toNatClampNeg a10) ((8 : Int32)).toNatClampNeg ((1 : Int32) + r_1)) ((9 : Int32)).toNatClampNeg (0 : Int32))) 1 (upd (Ω 1) ((((6 : Int32) * a10) + (1 : Int32))).toNatClampNeg (((Ω 1) ((((6 : Int32) * a10) + (1 : Int32))).toNatClampNeg) + (1 : Int32)))))) (As := [.int a10, .int ((1 : Int32) + r_1)]) (rest := []) S hK hA hZ Y hl.1 (mX7_start l D cI cS h q_16.2.1 q_16.2.2 a10 ((1 : Int32) + r_1) q_19.1 q_19.2.1 q_19.2.2 e_20) (cBLC h g q_16.2.1 q_16.2.2 (sg_a (sg_a (sg_a (sg_a (sg_a Ω 4 (upd (Ω 4) ((6 : Int32)).toNatClampNeg (1 : Int32))) 4 (upd (upd (Ω 4) ((6 : Int32)).toNatClampNeg (1 : Int32)) ((7 : Int32)).toNatClampNeg a10)) 4 (upd (upd (upd (Ω 4) ((6 : Int32)).toNatClampNeg (1 : Int32)) ((7 : Int32)).toNatClampNeg a10) ((8 : Int32)).toNatClampNeg ((1 : Int32) + r_1))) 4 (upd (upd (upd (upd (Ω 4) ((6 : Int32)).toNatClampNeg (1 : Int32)) ((7 : Int32)).toNatClampNeg a10) ((8 : Int32)).toNatClampNeg ((1 : Int32) + r_1)) ((9 : Int32)).toNatClampNeg (0 : Int32))) 1 (upd (Ω 1) ((((6 : Int32) * a10) + (1 : Int32))).toNatClampNeg (((Ω 1) ((((6 : Int32) * a10) + (1 : Int32))).toNatClampNeg) + (1 : Int32))))) (cBQC h g q_16.2.1 q_16.2.2 (sg_a (sg_a (sg_a (sg_a (sg_a Ω 4 (upd (Ω 4) ((6 : Int32)).toNatClampNeg (1 : Int32))) 4 (upd (upd (Ω 4) ((6 : Int32)).toNatClampNeg (1 : Int32)) ((7 : Int32)).toNatClampNeg a10)) 4 (upd (upd (upd (Ω 4) ((6 : Int32)).toNatClampNeg (1 : Int32)) ((7 : Int32)).toNatClampNeg a10) ((8 : Int32)).toNatClampNeg ((1 : Int32) + r_1))) 4 (upd (upd (upd (upd (Ω 4) ((6 : Int32)).toNatClampNeg (1 : Int32)) ((7 : Int32)).toNatClampNeg a10) ((8 : Int32)).toNatClampNeg ((1 : Int32) + r_1)) ((9 : Int32)).toNatClampNeg (0 : Int32))) 1 (upd (Ω 1) ((((6 : Int32) * a10) + (1 : Int32))).toNatClampNeg (((Ω 1) ((((6 : Int32) * a10) + (1 : Int32))).toNatClampNeg) + (1 : Int32))))) nBL nBQ dBL (cBLP h g q_16.2.1 q_16.2.2 (sg_a (sg_a (sg_a (sg_a (sg_a Ω 4 (upd (Ω 4) ((6 : Int32)).toNatClampNeg (1 : Int32))) 4 (upd (upd (Ω 4) ((6 : Int32)).toNatClampNeg (1 : Int32)) ((7 : Int32)).toNatClampNeg a10)) 4 (upd (upd (upd (Ω 4) ((6 : Int32)).toNatClampNeg (1 : Int32)) ((7 : Int32)).toNatClampNeg a10) ((8 : Int32)).toNatClampNeg ((1 : Int32) + r_1))) 4 (upd (upd (upd (upd (Ω 4) ((6 : Int32)).toNatClampNeg (1 : Int32)) ((7 : Int32)).toNatClampNeg a10) ((8 : Int32)).toNatClampNeg ((1 : Int32) + r_1)) ((9 : Int32)).toNatClampNeg (0 : Int32))) 1 (upd (Ω 1) ((((6 : Int32) * a10) + (1 : Int32))).toNatClampNeg (((Ω 1) ((((6 : Int32) * a10) + (1 : Int32))).toNatClampNeg) + (1 : Int32)))) q_19.2.1 q_19.2.2) nPL rfl kL_92 (T := TX7) (N := 5) rfl (q0 := 0) rfl ⟨Nat.le_of_ble_eq_true rfl, Nat.le_of_ble_eq_true rfl⟩ rfl rfl (Nat.le_of_ble_eq_true rfl) ⟨Nat.le_of_ble_eq_true rfl, Nat.le_of_ble_eq_true rfl⟩ dL_law_482 (fun H locs Y => ?_)
      refine lv_iload hx hb dL_law_485 (lv_at hl 10 rfl) ?_
      refine lv_icmp_ne (tgt := 515) hx hb dL_law_487 (by decide) (fun c_21 => ?_) (fun c_21 => ?_)
      · have hrun := o_f hrun c_21
        cases hrun
      · have hrun := o_t hrun c_21
        refine lv_aload_n hx hb dL_law_490 rfl (lv_at hl 1 rfl) ?_
        refine lv_iload hx hb dL_law_491 (lv_at hl 7 rfl) ?_
        refine lv_iconst (v := (1 : Int32)) hx hb dL_law_493 (by decide) ?_
        obtain ⟨q_22, e_23, hrun⟩ := o_bh hrun
        refine cg_v (it := [0, 1]) (ws2 := (wB cI cS h g q_22.2.1 q_22.2.2 (sg_a (sg_a (sg_a (sg_a (sg_a Ω 4 (upd (Ω 4) ((6 : Int32)).toNatClampNeg (1 : Int32))) 4 (upd (upd (Ω 4) ((6 : Int32)).toNatClampNeg (1 : Int32)) ((7 : Int32)).toNatClampNeg a10)) 4 (upd (upd (upd (Ω 4) ((6 : Int32)).toNatClampNeg (1 : Int32)) ((7 : Int32)).toNatClampNeg a10) ((8 : Int32)).toNatClampNeg ((1 : Int32) + r_1))) 4 (upd (upd (upd (upd (Ω 4) ((6 : Int32)).toNatClampNeg (1 : Int32)) ((7 : Int32)).toNatClampNeg a10) ((8 : Int32)).toNatClampNeg ((1 : Int32) + r_1)) ((9 : Int32)).toNatClampNeg (0 : Int32))) 1 (upd (Ω 1) ((((6 : Int32) * a10) + (1 : Int32))).toNatClampNeg (((Ω 1) ((((6 : Int32) * a10) + (1 : Int32))).toNatClampNeg) + (1 : Int32)))))) (As := [.int a10, .int (1 : Int32)]) (rest := []) S hK hA hZ Y hl.1 (mX7_start l D cI cS h q_19.2.1 q_19.2.2 a10 (1 : Int32) q_22.1 q_22.2.1 q_22.2.2 e_23) (cBLC h g q_19.2.1 q_19.2.2 (sg_a (sg_a (sg_a (sg_a (sg_a Ω 4 (upd (Ω 4) ((6 : Int32)).toNatClampNeg (1 : Int32))) 4 (upd (upd (Ω 4) ((6 : Int32)).toNatClampNeg (1 : Int32)) ((7 : Int32)).toNatClampNeg a10)) 4 (upd (upd (upd (Ω 4) ((6 : Int32)).toNatClampNeg (1 : Int32)) ((7 : Int32)).toNatClampNeg a10) ((8 : Int32)).toNatClampNeg ((1 : Int32) + r_1))) 4 (upd (upd (upd (upd (Ω 4) ((6 : Int32)).toNatClampNeg (1 : Int32)) ((7 : Int32)).toNatClampNeg a10) ((8 : Int32)).toNatClampNeg ((1 : Int32) + r_1)) ((9 : Int32)).toNatClampNeg (0 : Int32))) 1 (upd (Ω 1) ((((6 : Int32) * a10) + (1 : Int32))).toNatClampNeg (((Ω 1) ((((6 : Int32) * a10) + (1 : Int32))).toNatClampNeg) + (1 : Int32))))) (cBQC h g q_19.2.1 q_19.2.2 (sg_a (sg_a (sg_a (sg_a (sg_a Ω 4 (upd (Ω 4) ((6 : Int32)).toNatClampNeg (1 : Int32))) 4 (upd (upd (Ω 4) ((6 : Int32)).toNatClampNeg (1 : Int32)) ((7 : Int32)).toNatClampNeg a10)) 4 (upd (upd (upd (Ω 4) ((6 : Int32)).toNatClampNeg (1 : Int32)) ((7 : Int32)).toNatClampNeg a10) ((8 : Int32)).toNatClampNeg ((1 : Int32) + r_1))) 4 (upd (upd (upd (upd (Ω 4) ((6 : Int32)).toNatClampNeg (1 : Int32)) ((7 : Int32)).toNatClampNeg a10) ((8 : Int32)).toNatClampNeg ((1 : Int32) + r_1)) ((9 : Int32)).toNatClampNeg (0 : Int32))) 1 (upd (Ω 1) ((((6 : Int32) * a10) + (1 : Int32))).toNatClampNeg (((Ω 1) ((((6 : Int32) * a10) + (1 : Int32))).toNatClampNeg) + (1 : Int32))))) nBL nBQ dBL (cBLP h g q_19.2.1 q_19.2.2 (sg_a (sg_a (sg_a (sg_a (sg_a Ω 4 (upd (Ω 4) ((6 : Int32)).toNatClampNeg (1 : Int32))) 4 (upd (upd (Ω 4) ((6 : Int32)).toNatClampNeg (1 : Int32)) ((7 : Int32)).toNatClampNeg a10)) 4 (upd (upd (upd (Ω 4) ((6 : Int32)).toNatClampNeg (1 : Int32)) ((7 : Int32)).toNatClampNeg a10) ((8 : Int32)).toNatClampNeg ((1 : Int32) + r_1))) 4 (upd (upd (upd (upd (Ω 4) ((6 : Int32)).toNatClampNeg (1 : Int32)) ((7 : Int32)).toNatClampNeg a10) ((8 : Int32)).toNatClampNeg ((1 : Int32) + r_1)) ((9 : Int32)).toNatClampNeg (0 : Int32))) 1 (upd (Ω 1) ((((6 : Int32) * a10) + (1 : Int32))).toNatClampNeg (((Ω 1) ((((6 : Int32) * a10) + (1 : Int32))).toNatClampNeg) + (1 : Int32)))) q_22.2.1 q_22.2.2) nPL rfl kL_92 (T := TX7) (N := 5) rfl (q0 := 0) rfl ⟨Nat.le_of_ble_eq_true rfl, Nat.le_of_ble_eq_true rfl⟩ rfl rfl (Nat.le_of_ble_eq_true rfl) ⟨Nat.le_of_ble_eq_true rfl, Nat.le_of_ble_eq_true rfl⟩ dL_law_494 (fun H locs Y => ?_)
        refine lv_iload hx hb dL_law_497 (lv_at hl 8 rfl) ?_
        refine lv_icmp_ne (tgt := 515) hx hb dL_law_499 (by decide) (fun c_24 => ?_) (fun c_24 => ?_)
        · have hrun := o_f hrun c_24
          cases hrun
        · have hrun := o_t hrun c_24
          refine lv_aload_n hx hb dL_law_502 rfl (lv_at hl 1 rfl) ?_
          obtain ⟨q_25, e_26, hrun⟩ := o_bh hrun
          refine cg_v (it := [0, 1]) (ws2 := (wB cI cS h g q_25.2.1 q_25.2.2 (sg_a (sg_a (sg_a (sg_a (sg_a Ω 4 (upd (Ω 4) ((6 : Int32)).toNatClampNeg (1 : Int32))) 4 (upd (upd (Ω 4) ((6 : Int32)).toNatClampNeg (1 : Int32)) ((7 : Int32)).toNatClampNeg a10)) 4 (upd (upd (upd (Ω 4) ((6 : Int32)).toNatClampNeg (1 : Int32)) ((7 : Int32)).toNatClampNeg a10) ((8 : Int32)).toNatClampNeg ((1 : Int32) + r_1))) 4 (upd (upd (upd (upd (Ω 4) ((6 : Int32)).toNatClampNeg (1 : Int32)) ((7 : Int32)).toNatClampNeg a10) ((8 : Int32)).toNatClampNeg ((1 : Int32) + r_1)) ((9 : Int32)).toNatClampNeg (0 : Int32))) 1 (upd (Ω 1) ((((6 : Int32) * a10) + (1 : Int32))).toNatClampNeg (((Ω 1) ((((6 : Int32) * a10) + (1 : Int32))).toNatClampNeg) + (1 : Int32)))))) (As := []) (rest := []) S hK hA hZ Y hl.1 (mX7_join l D cI cS h q_22.2.1 q_22.2.2 q_25.1 q_25.2.1 q_25.2.2 e_26) (cBLC h g q_22.2.1 q_22.2.2 (sg_a (sg_a (sg_a (sg_a (sg_a Ω 4 (upd (Ω 4) ((6 : Int32)).toNatClampNeg (1 : Int32))) 4 (upd (upd (Ω 4) ((6 : Int32)).toNatClampNeg (1 : Int32)) ((7 : Int32)).toNatClampNeg a10)) 4 (upd (upd (upd (Ω 4) ((6 : Int32)).toNatClampNeg (1 : Int32)) ((7 : Int32)).toNatClampNeg a10) ((8 : Int32)).toNatClampNeg ((1 : Int32) + r_1))) 4 (upd (upd (upd (upd (Ω 4) ((6 : Int32)).toNatClampNeg (1 : Int32)) ((7 : Int32)).toNatClampNeg a10) ((8 : Int32)).toNatClampNeg ((1 : Int32) + r_1)) ((9 : Int32)).toNatClampNeg (0 : Int32))) 1 (upd (Ω 1) ((((6 : Int32) * a10) + (1 : Int32))).toNatClampNeg (((Ω 1) ((((6 : Int32) * a10) + (1 : Int32))).toNatClampNeg) + (1 : Int32))))) (cBQC h g q_22.2.1 q_22.2.2 (sg_a (sg_a (sg_a (sg_a (sg_a Ω 4 (upd (Ω 4) ((6 : Int32)).toNatClampNeg (1 : Int32))) 4 (upd (upd (Ω 4) ((6 : Int32)).toNatClampNeg (1 : Int32)) ((7 : Int32)).toNatClampNeg a10)) 4 (upd (upd (upd (Ω 4) ((6 : Int32)).toNatClampNeg (1 : Int32)) ((7 : Int32)).toNatClampNeg a10) ((8 : Int32)).toNatClampNeg ((1 : Int32) + r_1))) 4 (upd (upd (upd (upd (Ω 4) ((6 : Int32)).toNatClampNeg (1 : Int32)) ((7 : Int32)).toNatClampNeg a10) ((8 : Int32)).toNatClampNeg ((1 : Int32) + r_1)) ((9 : Int32)).toNatClampNeg (0 : Int32))) 1 (upd (Ω 1) ((((6 : Int32) * a10) + (1 : Int32))).toNatClampNeg (((Ω 1) ((((6 : Int32) * a10) + (1 : Int32))).toNatClampNeg) + (1 : Int32))))) nBL nBQ dBL (cBLP h g q_22.2.1 q_22.2.2 (sg_a (sg_a (sg_a (sg_a (sg_a Ω 4 (upd (Ω 4) ((6 : Int32)).toNatClampNeg (1 : Int32))) 4 (upd (upd (Ω 4) ((6 : Int32)).toNatClampNeg (1 : Int32)) ((7 : Int32)).toNatClampNeg a10)) 4 (upd (upd (upd (Ω 4) ((6 : Int32)).toNatClampNeg (1 : Int32)) ((7 : Int32)).toNatClampNeg a10) ((8 : Int32)).toNatClampNeg ((1 : Int32) + r_1))) 4 (upd (upd (upd (upd (Ω 4) ((6 : Int32)).toNatClampNeg (1 : Int32)) ((7 : Int32)).toNatClampNeg a10) ((8 : Int32)).toNatClampNeg ((1 : Int32) + r_1)) ((9 : Int32)).toNatClampNeg (0 : Int32))) 1 (upd (Ω 1) ((((6 : Int32) * a10) + (1 : Int32))).toNatClampNeg (((Ω 1) ((((6 : Int32) * a10) + (1 : Int32))).toNatClampNeg) + (1 : Int32)))) q_25.2.1 q_25.2.2) nPL rfl kL_77 (T := TX7) (N := 5) rfl (q0 := 0) rfl ⟨Nat.le_of_ble_eq_true rfl, Nat.le_of_ble_eq_true rfl⟩ rfl rfl (Nat.le_of_ble_eq_true rfl) ⟨Nat.le_of_ble_eq_true rfl, Nat.le_of_ble_eq_true rfl⟩ dL_law_503 (fun H locs Y => ?_)
          refine lv_iload hx hb dL_law_506 (lv_at hl 8 rfl) ?_
          refine lv_icmp_ne (tgt := 515) hx hb dL_law_508 (by decide) (fun c_27 => ?_) (fun c_27 => ?_)
          · have hrun := o_f hrun c_27
            cases hrun
          · have hrun := o_t hrun c_27
            refine lv_iconst (v := (1 : Int32)) hx hb dL_law_511 (by decide) ?_
            refine lv_goto (tgt := 516) hx hb dL_law_512 (by decide) ?_
            refine lv_istore (lv' := [(12, .int (1 : Int32)), (0, .ref b), (1, .ref (h 8 0)), (2, .ref (g 1)), (3, .ref (g 2)), (4, .ref (g 3)), (5, .ref (g 4)), (6, .int a6), (10, .int a10), (11, .int (-10003 : Int32)), (13, .int ((1 : Int32) + r_1)), (14, .int q_11)]) hx hb dL_law_516 hl (Nat.le_of_ble_eq_true rfl) rfl (fun ls hl => ?_)
            refine lv_goto (tgt := 1373) hx hb dL_law_518 (by decide) ?_
            cases hrun
            exact kx _ _ _ Y (lv_sub hl [1, 2, 3, 4, 5, 6, 7, 0] rfl)
def bL_law_537 (a6 : Int32) (a9 : Int32) (a10 : Int32) (Λ : s3_T) (π : Nat → Nat) (Ω : sg_T) : Option (s3_T × (Nat → Nat) × sg_T) := ((if a10 = ((Ω 4) ((7 : Int32)).toNatClampNeg) then (some (0 : Int32)) else (o_x (((6 : Int32) * a10) + (5 : Int32)) 48 (if 0 ≤ ((Ω 1) ((((6 : Int32) * a10) + (5 : Int32))).toNatClampNeg) then (some (0 : Int32)) else ((fL_good a9 Ω).bind fun r_33 => (if r_33 = 0 then (some (0 : Int32)) else (some (1 : Int32))))))).bind fun q_2 => ((fL_here a9 Ω).bind fun r_5 => ((fL_count r_5).bind fun r_7 => ((if r_7 = (2 : Int32) then (some (1 : Int32)) else (some (0 : Int32))).bind fun q_10 => ((fX7_hide a10 a9 Λ π).bind fun q_13 => ((if q_2 = 0 then (some (-10003 : Int32)) else (if q_10 = 0 then ((fL_apart (0 : Int32) a9).bind fun r_29 => (some r_29)) else (some (-10004 : Int32)))).bind fun q_16 => (if q_13.1 = q_16 then ((if q_2 = 0 then (o_x (((6 : Int32) * a10) + (5 : Int32)) 48 (some ((Ω 1) ((((6 : Int32) * a10) + (5 : Int32))).toNatClampNeg))) else (if q_10 = 0 then (some a9) else (o_x (((6 : Int32) * a10) + (5 : Int32)) 48 (some ((Ω 1) ((((6 : Int32) * a10) + (5 : Int32))).toNatClampNeg))))).bind fun q_21 => (o_x (((6 : Int32) * a10) + (5 : Int32)) 48 (some (q_13.2.1, q_13.2.2, (sg_a Ω 1 (upd (Ω 1) ((((6 : Int32) * a10) + (5 : Int32))).toNatClampNeg q_21)))))) else none)))))))
set_option maxRecDepth 100000 in
set_option maxHeartbeats 16000000 in
theorem kL_law_537 {p : Program} {l : Launch} {e : Env} {s : State} {m : MethodId} {below : List Frame} {meth : Method} {c : Code} {Q : State → Prop} {D : va_G} {A : Nat → Prop} {cI cS : ClassId} {b : Nat} {h : Nat → Nat → Nat} {g : Nat → Nat} (S : CallFix p m c code 18 s #[Value.ref b] (Cond.tt :: uw_) RL) (hK : va_K D vwCl (tL cI cS) s) (hA : ∀ q, s.heap.size ≤ q → A q) (hZ : zs_ A s) (a6 : Int32) (a9 : Int32) (a10 : Int32) (Λ : s3_T) (π : Nat → Nat) (Ω : sg_T) (q_b : s3_T × (Nat → Nat) × sg_T) (hrun : bL_law_537 a6 a9 a10 Λ π Ω = some q_b) (kx : ∀ (H : Heap) (locs : List Loc) (ls : Array Slot), dy_ D A s (wB cI cS h g q_b.1 q_b.2.1 q_b.2.2) H locs → lv_has ls 18 [(0, .ref b), (1, .ref (h 8 0)), (2, .ref (g 1)), (3, .ref (g 2)), (4, .ref (g 3)), (5, .ref (g 4)), (6, .int a6), (12, .int (1 : Int32))] → W p l e room_1 s m #[Value.ref b] below meth c H locs 89 982 Q (F0 m 1373 ls [])) : ∀ (H : Heap) (locs : List Loc) (ls : Array Slot), dy_ D A s (wB cI cS h g Λ π Ω) H locs → lv_has ls 18 [(0, .ref b), (1, .ref (h 8 0)), (2, .ref (g 1)), (3, .ref (g 2)), (4, .ref (g 3)), (5, .ref (g 4)), (6, .int a6), (9, .int a9), (10, .int a10), (11, .int (-10003 : Int32))] → W p l e room_1 s m #[Value.ref b] below meth c H locs 89 982 Q (F0 m 537 ls []) := by
  have hx := S.1
  have hb := S.2.1
  intro H locs ls Y hl
  unfold bL_law_537 at hrun
  refine lv_iload hx hb dL_law_537 (lv_at hl 8 rfl) ?_
  refine lv_aload hx hb dL_law_539 (lv_at hl 5 rfl) ?_
  refine lv_bipush (v := (7 : Int32)) hx hb dL_law_541 (by decide) ?_
  refine ia S hK Y 88 0 (f := (Ω 4)) rfl rfl (show ¬ ((7 : Int32) < 0 ∨ 11 ≤ ((7 : Int32)).toNatClampNeg) by decide) dL_law_543 ?_
  obtain ⟨q_2, e_3, hrun⟩ := o_bh hrun
  have kx4 : ∀ (H : Heap) (locs : List Loc) (ls : Array Slot), dy_ D A s (wB cI cS h g Λ π Ω) H locs → lv_has ls 18 [(0, .ref b), (1, .ref (h 8 0)), (2, .ref (g 1)), (3, .ref (g 2)), (4, .ref (g 3)), (5, .ref (g 4)), (6, .int a6), (9, .int a9), (10, .int a10), (11, .int (-10003 : Int32))] → W p l e room_1 s m #[Value.ref b] below meth c H locs 89 982 Q (F0 m 576 ls [.int q_2]) := by
    intro H locs ls Y hl
    refine lv_istore (lv' := [(13, .int q_2), (0, .ref b), (1, .ref (h 8 0)), (2, .ref (g 1)), (3, .ref (g 2)), (4, .ref (g 3)), (5, .ref (g 4)), (6, .int a6), (9, .int a9), (10, .int a10), (11, .int (-10003 : Int32))]) hx hb dL_law_576 hl (Nat.le_of_ble_eq_true rfl) rfl (fun ls hl => ?_)
    refine lv_aload_n hx hb dL_law_578 rfl (lv_at hl 3 rfl) ?_
    refine lv_iload hx hb dL_law_579 (lv_at hl 8 rfl) ?_
    obtain ⟨r_5, e_6, hrun⟩ := o_bh hrun
    refine cg_s (it := [0]) (ws2 := (wB cI cS h g Λ π Ω)) (As := [.ref (g 1), .int a9]) (rest := []) S hK hA hZ Y hl.1 (mL_here l D cI g Ω a9 r_5 e_6) (cBQC h g Λ π Ω) (cBLC h g Λ π Ω) nBQ nBL dBQ (cBQP h g Λ π Ω Ω) nPQ rfl kL_32 ⟨Nat.le_of_ble_eq_true rfl, Nat.le_of_ble_eq_true rfl⟩ rfl rfl (Nat.le_of_ble_eq_true rfl) ⟨Nat.le_of_ble_eq_true rfl, Nat.le_of_ble_eq_true rfl⟩ dL_law_581 (fun H locs Y => ?_)
    obtain ⟨r_7, e_8, hrun⟩ := o_bh hrun
    refine cp_s (As := [.int r_5]) (rest := []) S hK hA hZ Y hl.1 (mL_count l D r_5 r_7 e_8) kL_40 ⟨Nat.le_of_ble_eq_true rfl, Nat.le_of_ble_eq_true rfl⟩ rfl rfl (Nat.le_of_ble_eq_true rfl) ⟨Nat.le_of_ble_eq_true rfl, Nat.le_of_ble_eq_true rfl⟩ dL_law_584 (fun H locs Y => ?_)
    refine lv_iconst (v := (2 : Int32)) hx hb dL_law_587 (by decide) ?_
    obtain ⟨q_10, e_11, hrun⟩ := o_bh hrun
    have kx12 : ∀ (H : Heap) (locs : List Loc) (ls : Array Slot), dy_ D A s (wB cI cS h g Λ π Ω) H locs → lv_has ls 18 [(0, .ref b), (1, .ref (h 8 0)), (2, .ref (g 1)), (3, .ref (g 2)), (4, .ref (g 3)), (5, .ref (g 4)), (6, .int a6), (9, .int a9), (10, .int a10), (11, .int (-10003 : Int32)), (13, .int q_2)] → W p l e room_1 s m #[Value.ref b] below meth c H locs 89 982 Q (F0 m 596 ls [.int q_10]) := by
      intro H locs ls Y hl
      refine lv_istore (lv' := [(14, .int q_10), (0, .ref b), (1, .ref (h 8 0)), (2, .ref (g 1)), (3, .ref (g 2)), (4, .ref (g 3)), (5, .ref (g 4)), (6, .int a6), (9, .int a9), (10, .int a10), (11, .int (-10003 : Int32)), (13, .int q_2)]) hx hb dL_law_596 hl (Nat.le_of_ble_eq_true rfl) rfl (fun ls hl => ?_)
      refine lv_aload_n hx hb dL_law_598 rfl (lv_at hl 2 rfl) ?_
      refine lv_iload hx hb dL_law_599 (lv_at hl 9 rfl) ?_
      refine lv_iload hx hb dL_law_601 (lv_at hl 8 rfl) ?_
      obtain ⟨q_13, e_14, hrun⟩ := o_bh hrun
      refine cg_v (it := [0, 1]) (ws2 := (wB cI cS h g q_13.2.1 q_13.2.2 Ω)) (As := [.int a10, .int a9]) (rest := []) S hK hA hZ Y hl.1 (mX7_hide l D cI cS h Λ π a10 a9 q_13.1 q_13.2.1 q_13.2.2 e_14) (cBLC h g Λ π Ω) (cBQC h g Λ π Ω) nBL nBQ dBL (cBLP h g Λ π Ω q_13.2.1 q_13.2.2) nPL rfl kL_95 (T := TX7) (N := 5) rfl (q0 := 0) rfl ⟨Nat.le_of_ble_eq_true rfl, Nat.le_of_ble_eq_true rfl⟩ rfl rfl (Nat.le_of_ble_eq_true rfl) ⟨Nat.le_of_ble_eq_true rfl, Nat.le_of_ble_eq_true rfl⟩ dL_law_603 (fun H locs Y => ?_)
      refine lv_iload hx hb dL_law_606 (lv_at hl 11 rfl) ?_
      obtain ⟨q_16, e_17, hrun⟩ := o_bh hrun
      have kx18 : ∀ (H : Heap) (locs : List Loc) (ls : Array Slot), dy_ D A s (wB cI cS h g q_13.2.1 q_13.2.2 Ω) H locs → lv_has ls 18 [(0, .ref b), (1, .ref (h 8 0)), (2, .ref (g 1)), (3, .ref (g 2)), (4, .ref (g 3)), (5, .ref (g 4)), (6, .int a6), (9, .int a9), (10, .int a10), (13, .int q_2), (14, .int q_10)] → W p l e room_1 s m #[Value.ref b] below meth c H locs 89 982 Q (F0 m 633 ls [.int q_16, .int q_13.1]) := by
        intro H locs ls Y hl
        refine lv_icmp_ne (tgt := 640) hx hb dL_law_633 (by decide) (fun c_19 => ?_) (fun c_19 => ?_)
        · have hrun := o_f hrun c_19
          cases hrun
        · have hrun := o_t hrun c_19
          refine lv_iconst (v := (1 : Int32)) hx hb dL_law_636 (by decide) ?_
          refine lv_goto (tgt := 641) hx hb dL_law_637 (by decide) ?_
          refine lv_istore (lv' := [(12, .int (1 : Int32)), (0, .ref b), (1, .ref (h 8 0)), (2, .ref (g 1)), (3, .ref (g 2)), (4, .ref (g 3)), (5, .ref (g 4)), (6, .int a6), (9, .int a9), (10, .int a10), (13, .int q_2), (14, .int q_10)]) hx hb dL_law_641 hl (Nat.le_of_ble_eq_true rfl) rfl (fun ls hl => ?_)
          refine lv_aload_n hx hb dL_law_643 rfl (lv_at hl 3 rfl) ?_
          refine lv_bipush (v := (6 : Int32)) hx hb dL_law_644 (by decide) ?_
          refine lv_iload hx hb dL_law_646 (lv_at hl 9 rfl) ?_
          refine lv_imul hx hb dL_law_648 ?_
          refine lv_iconst (v := (5 : Int32)) hx hb dL_law_649 (by decide) ?_
          refine lv_iadd hx hb dL_law_650 ?_
          refine lv_iload hx hb dL_law_651 (lv_at hl 10 rfl) ?_
          obtain ⟨q_21, e_22, hrun⟩ := o_bh hrun
          have kx23 : ∀ (H : Heap) (locs : List Loc) (ls : Array Slot), dy_ D A s (wB cI cS h g q_13.2.1 q_13.2.2 Ω) H locs → lv_has ls 18 [(0, .ref b), (1, .ref (h 8 0)), (2, .ref (g 1)), (3, .ref (g 2)), (4, .ref (g 3)), (5, .ref (g 4)), (6, .int a6), (12, .int (1 : Int32))] → W p l e room_1 s m #[Value.ref b] below meth c H locs 89 982 Q (F0 m 675 ls [.int q_21, .int (((6 : Int32) * a10) + (5 : Int32)), .ref (g 1)]) := by
            intro H locs ls Y hl
            obtain ⟨b_24, hrun⟩ := o_xh hrun
            refine iw S hK Y 85 0 (f := (Ω 1)) rfl rfl b_24 (ws' := (wB cI cS h g q_13.2.1 q_13.2.2 (sg_a Ω 1 (upd (Ω 1) ((((6 : Int32) * a10) + (5 : Int32))).toNatClampNeg q_21)))) (wB_a1 _ _ _ _ _ _) dL_law_675 (fun H locs Y => ?_)
            refine lv_goto (tgt := 1373) hx hb dL_law_676 (by decide) ?_
            cases hrun
            exact kx _ _ _ Y (lv_sub hl [0, 1, 2, 3, 4, 5, 6, 7] rfl)
          have hrun := e_22
          refine lv_if_eq (tgt := 666) hx hb dL_law_653 (by decide) (fun c_20 => ?_) (fun c_20 => ?_)
          · have hrun := o_t hrun c_20
            refine lv_aload_n hx hb dL_law_666 rfl (lv_at hl 3 rfl) ?_
            refine lv_bipush (v := (6 : Int32)) hx hb dL_law_667 (by decide) ?_
            refine lv_iload hx hb dL_law_669 (lv_at hl 9 rfl) ?_
            refine lv_imul hx hb dL_law_671 ?_
            refine lv_iconst (v := (5 : Int32)) hx hb dL_law_672 (by decide) ?_
            refine lv_iadd hx hb dL_law_673 ?_
            obtain ⟨b_25, hrun⟩ := o_xh hrun
            refine ia S hK Y 85 0 (f := (Ω 1)) rfl rfl b_25 dL_law_674 ?_
            cases hrun
            exact kx23 _ _ _ Y (lv_sub hl [1, 2, 3, 4, 5, 6, 7, 0] rfl)
          · have hrun := o_f hrun c_20
            refine lv_iload hx hb dL_law_656 (lv_at hl 11 rfl) ?_
            refine lv_if_ne (tgt := 666) hx hb dL_law_658 (by decide) (fun c_26 => ?_) (fun c_26 => ?_)
            · have hrun := o_f hrun c_26
              refine lv_aload_n hx hb dL_law_666 rfl (lv_at hl 3 rfl) ?_
              refine lv_bipush (v := (6 : Int32)) hx hb dL_law_667 (by decide) ?_
              refine lv_iload hx hb dL_law_669 (lv_at hl 9 rfl) ?_
              refine lv_imul hx hb dL_law_671 ?_
              refine lv_iconst (v := (5 : Int32)) hx hb dL_law_672 (by decide) ?_
              refine lv_iadd hx hb dL_law_673 ?_
              obtain ⟨b_27, hrun⟩ := o_xh hrun
              refine ia S hK Y 85 0 (f := (Ω 1)) rfl rfl b_27 dL_law_674 ?_
              cases hrun
              exact kx23 _ _ _ Y (lv_sub hl [1, 2, 3, 4, 5, 6, 7, 0] rfl)
            · have hrun := o_t hrun c_26
              refine lv_iload hx hb dL_law_661 (lv_at hl 8 rfl) ?_
              refine lv_goto (tgt := 675) hx hb dL_law_663 (by decide) ?_
              cases hrun
              exact kx23 _ _ _ Y (lv_sub hl [1, 2, 3, 4, 5, 6, 7, 0] rfl)
      have hrun := e_17
      refine lv_if_ne (tgt := 616) hx hb dL_law_608 (by decide) (fun c_15 => ?_) (fun c_15 => ?_)
      · have hrun := o_f hrun c_15
        refine lv_iload hx hb dL_law_616 (lv_at hl 0 rfl) ?_
        refine lv_if_eq (tgt := 627) hx hb dL_law_618 (by decide) (fun c_28 => ?_) (fun c_28 => ?_)
        · have hrun := o_t hrun c_28
          refine lv_iconst (v := (0 : Int32)) hx hb dL_law_627 (by decide) ?_
          refine lv_iload hx hb dL_law_628 (lv_at hl 8 rfl) ?_
          obtain ⟨r_29, e_30, hrun⟩ := o_bh hrun
          refine cp_s (As := [.int (0 : Int32), .int a9]) (rest := [.int q_13.1]) S hK hA hZ Y hl.1 (mL_apart l D (0 : Int32) a9 r_29 e_30) kL_10 ⟨Nat.le_of_ble_eq_true rfl, Nat.le_of_ble_eq_true rfl⟩ rfl rfl (Nat.le_of_ble_eq_true rfl) ⟨Nat.le_of_ble_eq_true rfl, Nat.le_of_ble_eq_true rfl⟩ dL_law_630 (fun H locs Y => ?_)
          cases hrun
          exact kx18 _ _ _ Y (lv_sub hl [1, 2, 3, 4, 5, 6, 7, 8, 9, 11, 0] rfl)
        · have hrun := o_f hrun c_28
          refine lv_sipush (v := (-10004 : Int32)) hx hb dL_law_621 (by decide) ?_
          refine lv_goto (tgt := 633) hx hb dL_law_624 (by decide) ?_
          cases hrun
          exact kx18 _ _ _ Y (lv_sub hl [1, 2, 3, 4, 5, 6, 7, 8, 9, 11, 0] rfl)
      · have hrun := o_t hrun c_15
        refine lv_iload hx hb dL_law_611 (lv_at hl 10 rfl) ?_
        refine lv_goto (tgt := 633) hx hb dL_law_613 (by decide) ?_
        cases hrun
        exact kx18 _ _ _ Y (lv_sub hl [1, 2, 3, 4, 5, 6, 7, 8, 9, 11, 0] rfl)
    have hrun := e_11
    refine lv_icmp_ne (tgt := 595) hx hb dL_law_588 (by decide) (fun c_9 => ?_) (fun c_9 => ?_)
    · have hrun := o_f hrun c_9
      refine lv_iconst (v := (0 : Int32)) hx hb dL_law_595 (by decide) ?_
      cases hrun
      exact kx12 _ _ _ Y (lv_sub hl [1, 2, 3, 4, 5, 6, 7, 8, 9, 10, 0] rfl)
    · have hrun := o_t hrun c_9
      refine lv_iconst (v := (1 : Int32)) hx hb dL_law_591 (by decide) ?_
      refine lv_goto (tgt := 596) hx hb dL_law_592 (by decide) ?_
      cases hrun
      exact kx12 _ _ _ Y (lv_sub hl [1, 2, 3, 4, 5, 6, 7, 8, 9, 10, 0] rfl)
  have hrun := e_3
  refine lv_icmp_eq (tgt := 575) hx hb dL_law_544 (by decide) (fun c_1 => ?_) (fun c_1 => ?_)
  · have hrun := o_t hrun c_1
    refine lv_iconst (v := (0 : Int32)) hx hb dL_law_575 (by decide) ?_
    cases hrun
    exact kx4 _ _ _ Y (lv_sub hl [0, 1, 2, 3, 4, 5, 6, 7, 8, 9] rfl)
  · have hrun := o_f hrun c_1
    refine lv_aload_n hx hb dL_law_547 rfl (lv_at hl 2 rfl) ?_
    refine lv_bipush (v := (6 : Int32)) hx hb dL_law_548 (by decide) ?_
    refine lv_iload hx hb dL_law_550 (lv_at hl 8 rfl) ?_
    refine lv_imul hx hb dL_law_552 ?_
    refine lv_iconst (v := (5 : Int32)) hx hb dL_law_553 (by decide) ?_
    refine lv_iadd hx hb dL_law_554 ?_
    obtain ⟨b_31, hrun⟩ := o_xh hrun
    refine ia S hK Y 85 0 (f := (Ω 1)) rfl rfl b_31 dL_law_555 ?_
    refine lv_if_ge (tgt := 575) hx hb dL_law_556 (by decide) (fun c_32 => ?_) (fun c_32 => ?_)
    · have hrun := o_t hrun c_32
      refine lv_iconst (v := (0 : Int32)) hx hb dL_law_575 (by decide) ?_
      cases hrun
      exact kx4 _ _ _ Y (lv_sub hl [0, 1, 2, 3, 4, 5, 6, 7, 8, 9] rfl)
    · have hrun := o_f hrun c_32
      refine lv_aload hx hb dL_law_559 (lv_at hl 4 rfl) ?_
      refine lv_aload hx hb dL_law_561 (lv_at hl 5 rfl) ?_
      refine lv_iload hx hb dL_law_563 (lv_at hl 7 rfl) ?_
      obtain ⟨r_33, e_34, hrun⟩ := o_bh hrun
      refine cg_s (it := [0]) (ws2 := (wB cI cS h g Λ π Ω)) (As := [.ref (g 3), .ref (g 4), .int a9]) (rest := []) S hK hA hZ Y hl.1 (mL_good l D cI g Ω a9 r_33 e_34) (cBQC h g Λ π Ω) (cBLC h g Λ π Ω) nBQ nBL dBQ (cBQP h g Λ π Ω Ω) nPQ rfl kL_36 ⟨Nat.le_of_ble_eq_true rfl, Nat.le_of_ble_eq_true rfl⟩ rfl rfl (Nat.le_of_ble_eq_true rfl) ⟨Nat.le_of_ble_eq_true rfl, Nat.le_of_ble_eq_true rfl⟩ dL_law_565 (fun H locs Y => ?_)
      refine lv_if_eq (tgt := 575) hx hb dL_law_568 (by decide) (fun c_35 => ?_) (fun c_35 => ?_)
      · have hrun := o_t hrun c_35
        refine lv_iconst (v := (0 : Int32)) hx hb dL_law_575 (by decide) ?_
        cases hrun
        exact kx4 _ _ _ Y (lv_sub hl [0, 1, 2, 3, 4, 5, 6, 7, 8, 9] rfl)
      · have hrun := o_f hrun c_35
        refine lv_iconst (v := (1 : Int32)) hx hb dL_law_571 (by decide) ?_
        refine lv_goto (tgt := 576) hx hb dL_law_572 (by decide) ?_
        cases hrun
        exact kx4 _ _ _ Y (lv_sub hl [0, 1, 2, 3, 4, 5, 6, 7, 8, 9] rfl)
def bL_law_688 (a6 : Int32) (Λ : s3_T) (π : Nat → Nat) (Ω : sg_T) : Option (s3_T × (Nat → Nat) × sg_T) := ((fL_hidden Ω).bind fun r_1 => ((fX7_seek Λ π).bind fun q_3 => (if q_3.1 = r_1 then ((if r_1 = 0 then ((fL_end (sg_a Ω 4 (upd (Ω 4) ((6 : Int32)).toNatClampNeg (2 : Int32)))).bind fun Ω10 => (some Ω10)) else (some (sg_a Ω 4 (upd (Ω 4) ((6 : Int32)).toNatClampNeg (2 : Int32))))).bind fun q_7 => (some (q_3.2.1, q_3.2.2, q_7))) else none)))
set_option maxRecDepth 100000 in
set_option maxHeartbeats 16000000 in
theorem kL_law_688 {p : Program} {l : Launch} {e : Env} {s : State} {m : MethodId} {below : List Frame} {meth : Method} {c : Code} {Q : State → Prop} {D : va_G} {A : Nat → Prop} {cI cS : ClassId} {b : Nat} {h : Nat → Nat → Nat} {g : Nat → Nat} (S : CallFix p m c code 18 s #[Value.ref b] (Cond.tt :: uw_) RL) (hK : va_K D vwCl (tL cI cS) s) (hA : ∀ q, s.heap.size ≤ q → A q) (hZ : zs_ A s) (a6 : Int32) (Λ : s3_T) (π : Nat → Nat) (Ω : sg_T) (q_b : s3_T × (Nat → Nat) × sg_T) (hrun : bL_law_688 a6 Λ π Ω = some q_b) (kx : ∀ (H : Heap) (locs : List Loc) (ls : Array Slot), dy_ D A s (wB cI cS h g q_b.1 q_b.2.1 q_b.2.2) H locs → lv_has ls 18 [(0, .ref b), (1, .ref (h 8 0)), (2, .ref (g 1)), (3, .ref (g 2)), (4, .ref (g 3)), (5, .ref (g 4)), (6, .int a6), (12, .int (1 : Int32))] → W p l e room_1 s m #[Value.ref b] below meth c H locs 89 982 Q (F0 m 1373 ls [])) : ∀ (H : Heap) (locs : List Loc) (ls : Array Slot), dy_ D A s (wB cI cS h g Λ π Ω) H locs → lv_has ls 18 [(0, .ref b), (1, .ref (h 8 0)), (2, .ref (g 1)), (3, .ref (g 2)), (4, .ref (g 3)), (5, .ref (g 4)), (6, .int a6)] → W p l e room_1 s m #[Value.ref b] below meth c H locs 89 982 Q (F0 m 688 ls []) := by
  have hx := S.1
  have hb := S.2.1
  intro H locs ls Y hl
  unfold bL_law_688 at hrun
  refine lv_aload_n hx hb dL_law_688 rfl (lv_at hl 2 rfl) ?_
  obtain ⟨r_1, e_2, hrun⟩ := o_bh hrun
  refine cg_s (it := [0]) (ws2 := (wB cI cS h g Λ π Ω)) (As := [.ref (g 1)]) (rest := []) S hK hA hZ Y hl.1 (mL_hidden l D cI g Ω r_1 e_2) (cBQC h g Λ π Ω) (cBLC h g Λ π Ω) nBQ nBL dBQ (cBQP h g Λ π Ω Ω) nPQ rfl kL_66 ⟨Nat.le_of_ble_eq_true rfl, Nat.le_of_ble_eq_true rfl⟩ rfl rfl (Nat.le_of_ble_eq_true rfl) ⟨Nat.le_of_ble_eq_true rfl, Nat.le_of_ble_eq_true rfl⟩ dL_law_689 (fun H locs Y => ?_)
  refine lv_istore (lv' := [(13, .int r_1), (0, .ref b), (1, .ref (h 8 0)), (2, .ref (g 1)), (3, .ref (g 2)), (4, .ref (g 3)), (5, .ref (g 4)), (6, .int a6)]) hx hb dL_law_692 hl (Nat.le_of_ble_eq_true rfl) rfl (fun ls hl => ?_)
  refine lv_aload hx hb dL_law_694 (lv_at hl 6 rfl) ?_
  refine lv_bipush (v := (6 : Int32)) hx hb dL_law_696 (by decide) ?_
  refine lv_iconst (v := (2 : Int32)) hx hb dL_law_698 (by decide) ?_
  refine iw S hK Y 88 0 (f := (Ω 4)) rfl rfl (show ¬ ((6 : Int32) < 0 ∨ 11 ≤ ((6 : Int32)).toNatClampNeg) by decide) (ws' := (wB cI cS h g Λ π (sg_a Ω 4 (upd (Ω 4) ((6 : Int32)).toNatClampNeg (2 : Int32))))) (wB_a4 _ _ _ _ _ _) dL_law_699 (fun H locs Y => ?_)
  refine lv_aload_n hx hb dL_law_700 rfl (lv_at hl 2 rfl) ?_
  obtain ⟨q_3, e_4, hrun⟩ := o_bh hrun
  refine cg_v (it := [0, 1]) (ws2 := (wB cI cS h g q_3.2.1 q_3.2.2 (sg_a Ω 4 (upd (Ω 4) ((6 : Int32)).toNatClampNeg (2 : Int32))))) (As := []) (rest := []) S hK hA hZ Y hl.1 (mX7_seek l D cI cS h Λ π q_3.1 q_3.2.1 q_3.2.2 e_4) (cBLC h g Λ π (sg_a Ω 4 (upd (Ω 4) ((6 : Int32)).toNatClampNeg (2 : Int32)))) (cBQC h g Λ π (sg_a Ω 4 (upd (Ω 4) ((6 : Int32)).toNatClampNeg (2 : Int32)))) nBL nBQ dBL (cBLP h g Λ π (sg_a Ω 4 (upd (Ω 4) ((6 : Int32)).toNatClampNeg (2 : Int32))) q_3.2.1 q_3.2.2) nPL rfl kL_89 (T := TX7) (N := 5) rfl (q0 := 0) rfl ⟨Nat.le_of_ble_eq_true rfl, Nat.le_of_ble_eq_true rfl⟩ rfl rfl (Nat.le_of_ble_eq_true rfl) ⟨Nat.le_of_ble_eq_true rfl, Nat.le_of_ble_eq_true rfl⟩ dL_law_701 (fun H locs Y => ?_)
  refine lv_iload hx hb dL_law_704 (lv_at hl 0 rfl) ?_
  refine lv_icmp_ne (tgt := 713) hx hb dL_law_706 (by decide) (fun c_5 => ?_) (fun c_5 => ?_)
  · have hrun := o_f hrun c_5
    cases hrun
  · have hrun := o_t hrun c_5
    refine lv_iconst (v := (1 : Int32)) hx hb dL_law_709 (by decide) ?_
    refine lv_goto (tgt := 714) hx hb dL_law_710 (by decide) ?_
    refine lv_istore (lv' := [(12, .int (1 : Int32)), (13, .int r_1), (0, .ref b), (1, .ref (h 8 0)), (2, .ref (g 1)), (3, .ref (g 2)), (4, .ref (g 3)), (5, .ref (g 4)), (6, .int a6)]) hx hb dL_law_714 hl (Nat.le_of_ble_eq_true rfl) rfl (fun ls hl => ?_)
    refine lv_iload hx hb dL_law_716 (lv_at hl 1 rfl) ?_
    obtain ⟨q_7, e_8, hrun⟩ := o_bh hrun
    have kx9 : ∀ (H : Heap) (locs : List Loc) (ls : Array Slot), dy_ D A s (wB cI cS h g q_3.2.1 q_3.2.2 q_7) H locs → lv_has ls 18 [(0, .ref b), (1, .ref (h 8 0)), (2, .ref (g 1)), (3, .ref (g 2)), (4, .ref (g 3)), (5, .ref (g 4)), (6, .int a6), (12, .int (1 : Int32))] → W p l e room_1 s m #[Value.ref b] below meth c H locs 89 982 Q (F0 m 730 ls []) := by
      intro H locs ls Y hl
      refine lv_goto (tgt := 1373) hx hb dL_law_730 (by decide) ?_
      cases hrun
      exact kx _ _ _ Y (lv_sub hl [0, 1, 2, 3, 4, 5, 6, 7] rfl)
    have hrun := e_8
    refine lv_if_ne (tgt := 730) hx hb dL_law_718 (by decide) (fun c_6 => ?_) (fun c_6 => ?_)
    · have hrun := o_f hrun c_6
      cases hrun
      exact kx9 _ _ _ Y (lv_sub hl [2, 3, 4, 5, 6, 7, 8, 0] rfl)
    · have hrun := o_t hrun c_6
      refine lv_aload_n hx hb dL_law_721 rfl (lv_at hl 4 rfl) ?_
      refine lv_aload_n hx hb dL_law_722 rfl (lv_at hl 5 rfl) ?_
      refine lv_aload hx hb dL_law_723 (lv_at hl 6 rfl) ?_
      refine lv_aload hx hb dL_law_725 (lv_at hl 7 rfl) ?_
      obtain ⟨Ω10, e_11, hrun⟩ := o_bh hrun
      refine cg_sv (it := [0]) (ws2 := (wB cI cS h g q_3.2.1 q_3.2.2 Ω10)) (As := [.ref (g 1), .ref (g 2), .ref (g 3), .ref (g 4)]) (rest := []) S hK hA hZ Y hl.1 (mL_end l D cI g (sg_a Ω 4 (upd (Ω 4) ((6 : Int32)).toNatClampNeg (2 : Int32))) Ω10 e_11) (cBQC h g q_3.2.1 q_3.2.2 (sg_a Ω 4 (upd (Ω 4) ((6 : Int32)).toNatClampNeg (2 : Int32)))) (cBLC h g q_3.2.1 q_3.2.2 (sg_a Ω 4 (upd (Ω 4) ((6 : Int32)).toNatClampNeg (2 : Int32)))) nBQ nBL dBQ (cBQP h g q_3.2.1 q_3.2.2 (sg_a Ω 4 (upd (Ω 4) ((6 : Int32)).toNatClampNeg (2 : Int32))) Ω10) nPQ rfl kL_98 ⟨Nat.le_of_ble_eq_true rfl, Nat.le_of_ble_eq_true rfl⟩ rfl rfl (Nat.le_of_ble_eq_true rfl) ⟨Nat.le_of_ble_eq_true rfl, Nat.le_of_ble_eq_true rfl⟩ dL_law_727 (fun H locs Y => ?_)
      cases hrun
      exact kx9 _ _ _ Y (lv_sub hl [2, 3, 4, 5, 6, 7, 8, 0] rfl)
def bL_law_740 (a6 : Int32) (a7 : Int32) (Λ : s3_T) (π : Nat → Nat) (Ω : sg_T) : Option (s3_T × (Nat → Nat) × sg_T) := ((fL_low (a7 >>> ((12 : Int32) &&& 31)) (3 : Int32)).bind fun r_1 => ((fX7_walk (r_1 - (1 : Int32)) Λ π).bind fun q_3 => (if q_3.1 = ((upd (Ω 4) ((9 : Int32)).toNatClampNeg (((((Ω 4) ((9 : Int32)).toNatClampNeg) + (r_1 - (1 : Int32))) + (16 : Int32)) - ((((Ω 4) ((9 : Int32)).toNatClampNeg) + (r_1 - (1 : Int32))) + (16 : Int32)) / (16 : Int32) * (16 : Int32))) ((9 : Int32)).toNatClampNeg) then (some (q_3.2.1, q_3.2.2, (sg_a Ω 4 (upd (Ω 4) ((9 : Int32)).toNatClampNeg (((((Ω 4) ((9 : Int32)).toNatClampNeg) + (r_1 - (1 : Int32))) + (16 : Int32)) - ((((Ω 4) ((9 : Int32)).toNatClampNeg) + (r_1 - (1 : Int32))) + (16 : Int32)) / (16 : Int32) * (16 : Int32)))))) else none)))
set_option maxRecDepth 100000 in
set_option maxHeartbeats 16000000 in
theorem kL_law_740 {p : Program} {l : Launch} {e : Env} {s : State} {m : MethodId} {below : List Frame} {meth : Method} {c : Code} {Q : State → Prop} {D : va_G} {A : Nat → Prop} {cI cS : ClassId} {b : Nat} {h : Nat → Nat → Nat} {g : Nat → Nat} (S : CallFix p m c code 18 s #[Value.ref b] (Cond.tt :: uw_) RL) (hK : va_K D vwCl (tL cI cS) s) (hA : ∀ q, s.heap.size ≤ q → A q) (hZ : zs_ A s) (a6 : Int32) (a7 : Int32) (Λ : s3_T) (π : Nat → Nat) (Ω : sg_T) (q_b : s3_T × (Nat → Nat) × sg_T) (hrun : bL_law_740 a6 a7 Λ π Ω = some q_b) (kx : ∀ (H : Heap) (locs : List Loc) (ls : Array Slot), dy_ D A s (wB cI cS h g q_b.1 q_b.2.1 q_b.2.2) H locs → lv_has ls 18 [(0, .ref b), (1, .ref (h 8 0)), (2, .ref (g 1)), (3, .ref (g 2)), (4, .ref (g 3)), (5, .ref (g 4)), (6, .int a6), (12, .int (1 : Int32))] → W p l e room_1 s m #[Value.ref b] below meth c H locs 89 982 Q (F0 m 1373 ls [])) : ∀ (H : Heap) (locs : List Loc) (ls : Array Slot), dy_ D A s (wB cI cS h g Λ π Ω) H locs → lv_has ls 18 [(0, .ref b), (1, .ref (h 8 0)), (2, .ref (g 1)), (3, .ref (g 2)), (4, .ref (g 3)), (5, .ref (g 4)), (6, .int a6), (7, .int a7)] → W p l e room_1 s m #[Value.ref b] below meth c H locs 89 982 Q (F0 m 740 ls []) := by
  have hx := S.1
  have hb := S.2.1
  intro H locs ls Y hl
  unfold bL_law_740 at hrun
  refine lv_iload hx hb dL_law_740 (lv_at hl 7 rfl) ?_
  refine lv_bipush (v := (12 : Int32)) hx hb dL_law_742 (by decide) ?_
  refine lv_ishr hx hb dL_law_744 ?_
  refine lv_iconst (v := (3 : Int32)) hx hb dL_law_745 (by decide) ?_
  obtain ⟨r_1, e_2, hrun⟩ := o_bh hrun
  refine cp_s (As := [.int (a7 >>> ((12 : Int32) &&& 31)), .int (3 : Int32)]) (rest := []) S hK hA hZ Y hl.1 (mL_low l D (a7 >>> ((12 : Int32) &&& 31)) (3 : Int32) r_1 e_2) kL_74 ⟨Nat.le_of_ble_eq_true rfl, Nat.le_of_ble_eq_true rfl⟩ rfl rfl (Nat.le_of_ble_eq_true rfl) ⟨Nat.le_of_ble_eq_true rfl, Nat.le_of_ble_eq_true rfl⟩ dL_law_746 (fun H locs Y => ?_)
  refine lv_iconst (v := (1 : Int32)) hx hb dL_law_749 (by decide) ?_
  refine lv_isub hx hb dL_law_750 ?_
  refine lv_istore (lv' := [(13, .int (r_1 - (1 : Int32))), (0, .ref b), (1, .ref (h 8 0)), (2, .ref (g 1)), (3, .ref (g 2)), (4, .ref (g 3)), (5, .ref (g 4)), (6, .int a6), (7, .int a7)]) hx hb dL_law_751 hl (Nat.le_of_ble_eq_true rfl) rfl (fun ls hl => ?_)
  refine lv_aload hx hb dL_law_753 (lv_at hl 6 rfl) ?_
  refine lv_bipush (v := (9 : Int32)) hx hb dL_law_755 (by decide) ?_
  refine lv_aload hx hb dL_law_757 (lv_at hl 6 rfl) ?_
  refine lv_bipush (v := (9 : Int32)) hx hb dL_law_759 (by decide) ?_
  refine ia S hK Y 88 0 (f := (Ω 4)) rfl rfl (show ¬ ((9 : Int32) < 0 ∨ 11 ≤ ((9 : Int32)).toNatClampNeg) by decide) dL_law_761 ?_
  refine lv_iload hx hb dL_law_762 (lv_at hl 0 rfl) ?_
  refine lv_iadd hx hb dL_law_764 ?_
  refine lv_bipush (v := (16 : Int32)) hx hb dL_law_765 (by decide) ?_
  refine lv_iadd hx hb dL_law_767 ?_
  refine lv_bipush (v := (16 : Int32)) hx hb dL_law_768 (by decide) ?_
  refine lv_irem hx hb dL_law_770 (by decide) ?_
  refine iw S hK Y 88 0 (f := (Ω 4)) rfl rfl (show ¬ ((9 : Int32) < 0 ∨ 11 ≤ ((9 : Int32)).toNatClampNeg) by decide) (ws' := (wB cI cS h g Λ π (sg_a Ω 4 (upd (Ω 4) ((9 : Int32)).toNatClampNeg (((((Ω 4) ((9 : Int32)).toNatClampNeg) + (r_1 - (1 : Int32))) + (16 : Int32)) - ((((Ω 4) ((9 : Int32)).toNatClampNeg) + (r_1 - (1 : Int32))) + (16 : Int32)) / (16 : Int32) * (16 : Int32)))))) (wB_a4 _ _ _ _ _ _) dL_law_771 (fun H locs Y => ?_)
  refine lv_aload_n hx hb dL_law_772 rfl (lv_at hl 2 rfl) ?_
  refine lv_iload hx hb dL_law_773 (lv_at hl 0 rfl) ?_
  obtain ⟨q_3, e_4, hrun⟩ := o_bh hrun
  refine cg_v (it := [0, 1]) (ws2 := (wB cI cS h g q_3.2.1 q_3.2.2 (sg_a Ω 4 (upd (Ω 4) ((9 : Int32)).toNatClampNeg (((((Ω 4) ((9 : Int32)).toNatClampNeg) + (r_1 - (1 : Int32))) + (16 : Int32)) - ((((Ω 4) ((9 : Int32)).toNatClampNeg) + (r_1 - (1 : Int32))) + (16 : Int32)) / (16 : Int32) * (16 : Int32)))))) (As := [.int (r_1 - (1 : Int32))]) (rest := []) S hK hA hZ Y hl.1 (mX7_walk l D cI cS h Λ π (r_1 - (1 : Int32)) q_3.1 q_3.2.1 q_3.2.2 e_4) (cBLC h g Λ π (sg_a Ω 4 (upd (Ω 4) ((9 : Int32)).toNatClampNeg (((((Ω 4) ((9 : Int32)).toNatClampNeg) + (r_1 - (1 : Int32))) + (16 : Int32)) - ((((Ω 4) ((9 : Int32)).toNatClampNeg) + (r_1 - (1 : Int32))) + (16 : Int32)) / (16 : Int32) * (16 : Int32))))) (cBQC h g Λ π (sg_a Ω 4 (upd (Ω 4) ((9 : Int32)).toNatClampNeg (((((Ω 4) ((9 : Int32)).toNatClampNeg) + (r_1 - (1 : Int32))) + (16 : Int32)) - ((((Ω 4) ((9 : Int32)).toNatClampNeg) + (r_1 - (1 : Int32))) + (16 : Int32)) / (16 : Int32) * (16 : Int32))))) nBL nBQ dBL (cBLP h g Λ π (sg_a Ω 4 (upd (Ω 4) ((9 : Int32)).toNatClampNeg (((((Ω 4) ((9 : Int32)).toNatClampNeg) + (r_1 - (1 : Int32))) + (16 : Int32)) - ((((Ω 4) ((9 : Int32)).toNatClampNeg) + (r_1 - (1 : Int32))) + (16 : Int32)) / (16 : Int32) * (16 : Int32)))) q_3.2.1 q_3.2.2) nPL rfl kL_86 (T := TX7) (N := 5) rfl (q0 := 0) rfl ⟨Nat.le_of_ble_eq_true rfl, Nat.le_of_ble_eq_true rfl⟩ rfl rfl (Nat.le_of_ble_eq_true rfl) ⟨Nat.le_of_ble_eq_true rfl, Nat.le_of_ble_eq_true rfl⟩ dL_law_775 (fun H locs Y => ?_)
  refine lv_aload hx hb dL_law_778 (lv_at hl 6 rfl) ?_
  refine lv_bipush (v := (9 : Int32)) hx hb dL_law_780 (by decide) ?_
  refine ia S hK Y 88 0 (f := (upd (Ω 4) ((9 : Int32)).toNatClampNeg (((((Ω 4) ((9 : Int32)).toNatClampNeg) + (r_1 - (1 : Int32))) + (16 : Int32)) - ((((Ω 4) ((9 : Int32)).toNatClampNeg) + (r_1 - (1 : Int32))) + (16 : Int32)) / (16 : Int32) * (16 : Int32)))) rfl rfl (show ¬ ((9 : Int32) < 0 ∨ 11 ≤ ((9 : Int32)).toNatClampNeg) by decide) dL_law_782 ?_
  refine lv_icmp_ne (tgt := 790) hx hb dL_law_783 (by decide) (fun c_5 => ?_) (fun c_5 => ?_)
  · have hrun := o_f hrun c_5
    cases hrun
  · have hrun := o_t hrun c_5
    refine lv_iconst (v := (1 : Int32)) hx hb dL_law_786 (by decide) ?_
    refine lv_goto (tgt := 791) hx hb dL_law_787 (by decide) ?_
    refine lv_istore (lv' := [(12, .int (1 : Int32)), (13, .int (r_1 - (1 : Int32))), (0, .ref b), (1, .ref (h 8 0)), (2, .ref (g 1)), (3, .ref (g 2)), (4, .ref (g 3)), (5, .ref (g 4)), (6, .int a6), (7, .int a7)]) hx hb dL_law_791 hl (Nat.le_of_ble_eq_true rfl) rfl (fun ls hl => ?_)
    refine lv_goto (tgt := 1373) hx hb dL_law_793 (by decide) ?_
    cases hrun
    exact kx _ _ _ Y (lv_sub hl [2, 3, 4, 5, 6, 7, 8, 0] rfl)
def lL_law_1081 : Nat → Int32 → Int32 → Int32 → (s3_T) → (Nat → Nat) → (sg_T) → Option (sg_T)
  | 0, _, _, _, _, _, _ => none
  | n + 1, a6, a12, a17, Λ, π, Ω => (if (8 : Int32) ≤ a17 then (some Ω) else (o_x ((6 : Int32) * a17) 48 (o_x (((6 : Int32) * a17) + (5 : Int32)) 48 ((if ((Ω 1) ((((6 : Int32) * a17) + (5 : Int32))).toNatClampNeg) ≤ 0 then (some (0 : Int32)) else (some (1 : Int32))).bind fun q_47 => (o_x (((6 : Int32) * a17) + (4 : Int32)) 48 ((if ((upd (Ω 1) (((6 : Int32) * a17)).toNatClampNeg (((Ω 1) (((6 : Int32) * a17)).toNatClampNeg) + q_47)) ((((6 : Int32) * a17) + (5 : Int32))).toNatClampNeg) ≤ 0 then (some (0 : Int32)) else (some (1 : Int32))).bind fun q_52 => (lL_law_1081 n a6 a12 (a17 + (1 : Int32)) Λ π (sg_a (sg_a Ω 1 (upd (Ω 1) (((6 : Int32) * a17)).toNatClampNeg (((Ω 1) (((6 : Int32) * a17)).toNatClampNeg) + q_47))) 1 (upd (upd (Ω 1) (((6 : Int32) * a17)).toNatClampNeg (((Ω 1) (((6 : Int32) * a17)).toNatClampNeg) + q_47)) ((((6 : Int32) * a17) + (4 : Int32))).toNatClampNeg (((upd (Ω 1) (((6 : Int32) * a17)).toNatClampNeg (((Ω 1) (((6 : Int32) * a17)).toNatClampNeg) + q_47)) ((((6 : Int32) * a17) + (4 : Int32))).toNatClampNeg) + q_52))))))))))
def bL_law_803 (a6 : Int32) (a7 : Int32) (a9 : Int32) (a10 : Int32) (Λ : s3_T) (π : Nat → Nat) (Ω : sg_T) : Option (s3_T × (Nat → Nat) × sg_T) := ((fL_low (a7 >>> ((13 : Int32) &&& 31)) (3 : Int32)).bind fun r_1 => ((if r_1 = 0 then (some a9) else (o_x (((6 : Int32) * a10) + (5 : Int32)) 48 (if 0 ≤ ((Ω 1) ((((6 : Int32) * a10) + (5 : Int32))).toNatClampNeg) then (some ((Ω 1) ((((6 : Int32) * a10) + (5 : Int32))).toNatClampNeg)) else (some a9)))).bind fun q_4 => ((if a10 = ((Ω 4) ((7 : Int32)).toNatClampNeg) then (some (0 : Int32)) else ((fL_apart q_4 ((Ω 4) ((9 : Int32)).toNatClampNeg)).bind fun r_75 => (if ((Ω 4) ((0 : Int32)).toNatClampNeg) < r_75 then (some (0 : Int32)) else (some (1 : Int32))))).bind fun q_8 => ((if q_8 = 0 then (some (0 : Int32)) else (o_x (((6 : Int32) * a10) + (5 : Int32)) 48 (if ((Ω 1) ((((6 : Int32) * a10) + (5 : Int32))).toNatClampNeg) = q_4 then (some (1 : Int32)) else (some (0 : Int32))))).bind fun q_12 => ((if q_12 = 0 then (if q_8 = 0 then (some Ω) else (o_x ((6 : Int32) * ((Ω 4) ((7 : Int32)).toNatClampNeg)) 48 (o_x (((6 : Int32) * ((Ω 4) ((7 : Int32)).toNatClampNeg)) + (3 : Int32)) 48 (some (sg_a (sg_a (sg_a Ω 1 (upd (Ω 1) (((6 : Int32) * ((Ω 4) ((7 : Int32)).toNatClampNeg))).toNatClampNeg (((Ω 1) (((6 : Int32) * ((Ω 4) ((7 : Int32)).toNatClampNeg))).toNatClampNeg) - (1 : Int32)))) 1 (upd (upd (Ω 1) (((6 : Int32) * ((Ω 4) ((7 : Int32)).toNatClampNeg))).toNatClampNeg (((Ω 1) (((6 : Int32) * ((Ω 4) ((7 : Int32)).toNatClampNeg))).toNatClampNeg) - (1 : Int32))) ((((6 : Int32) * ((Ω 4) ((7 : Int32)).toNatClampNeg)) + (3 : Int32))).toNatClampNeg (((upd (Ω 1) (((6 : Int32) * ((Ω 4) ((7 : Int32)).toNatClampNeg))).toNatClampNeg (((Ω 1) (((6 : Int32) * ((Ω 4) ((7 : Int32)).toNatClampNeg))).toNatClampNeg) - (1 : Int32))) ((((6 : Int32) * ((Ω 4) ((7 : Int32)).toNatClampNeg)) + (3 : Int32))).toNatClampNeg) + (1 : Int32)))) 4 (upd (Ω 4) ((10 : Int32)).toNatClampNeg (((Ω 4) ((10 : Int32)).toNatClampNeg) + (1 : Int32)))))))) else (o_x (((6 : Int32) * a10) + (5 : Int32)) 48 (o_x ((6 : Int32) * ((Ω 4) ((7 : Int32)).toNatClampNeg)) 48 (o_x (((6 : Int32) * ((Ω 4) ((7 : Int32)).toNatClampNeg)) + (2 : Int32)) 48 (o_x q_4 16 ((if ((upd (Ω 2) (q_4).toNatClampNeg (((Ω 2) (q_4).toNatClampNeg) + (1 : Int32))) (q_4).toNatClampNeg) < ((Ω 4) ((1 : Int32)).toNatClampNeg) then (o_x ((2 : Int32) * q_4) 32 (some ((Ω 3) (((2 : Int32) * q_4)).toNatClampNeg))) else (some (1 : Int32))).bind fun q_68 => (o_x ((2 : Int32) * q_4) 32 (some (sg_a (sg_a (sg_a (sg_a (sg_a Ω 1 (upd (Ω 1) ((((6 : Int32) * a10) + (5 : Int32))).toNatClampNeg (-1 : Int32))) 1 (upd (upd (Ω 1) ((((6 : Int32) * a10) + (5 : Int32))).toNatClampNeg (-1 : Int32)) (((6 : Int32) * ((Ω 4) ((7 : Int32)).toNatClampNeg))).toNatClampNeg (((upd (Ω 1) ((((6 : Int32) * a10) + (5 : Int32))).toNatClampNeg (-1 : Int32)) (((6 : Int32) * ((Ω 4) ((7 : Int32)).toNatClampNeg))).toNatClampNeg) + (2 : Int32)))) 1 (upd (upd (upd (Ω 1) ((((6 : Int32) * a10) + (5 : Int32))).toNatClampNeg (-1 : Int32)) (((6 : Int32) * ((Ω 4) ((7 : Int32)).toNatClampNeg))).toNatClampNeg (((upd (Ω 1) ((((6 : Int32) * a10) + (5 : Int32))).toNatClampNeg (-1 : Int32)) (((6 : Int32) * ((Ω 4) ((7 : Int32)).toNatClampNeg))).toNatClampNeg) + (2 : Int32))) ((((6 : Int32) * ((Ω 4) ((7 : Int32)).toNatClampNeg)) + (2 : Int32))).toNatClampNeg (((upd (upd (Ω 1) ((((6 : Int32) * a10) + (5 : Int32))).toNatClampNeg (-1 : Int32)) (((6 : Int32) * ((Ω 4) ((7 : Int32)).toNatClampNeg))).toNatClampNeg (((upd (Ω 1) ((((6 : Int32) * a10) + (5 : Int32))).toNatClampNeg (-1 : Int32)) (((6 : Int32) * ((Ω 4) ((7 : Int32)).toNatClampNeg))).toNatClampNeg) + (2 : Int32))) ((((6 : Int32) * ((Ω 4) ((7 : Int32)).toNatClampNeg)) + (2 : Int32))).toNatClampNeg) + (1 : Int32)))) 2 (upd (Ω 2) (q_4).toNatClampNeg (((Ω 2) (q_4).toNatClampNeg) + (1 : Int32)))) 3 (upd (Ω 3) (((2 : Int32) * q_4)).toNatClampNeg q_68)))))))))).bind fun q_16 => ((fX7_cry a10 q_4 Λ π).bind fun q_19 => ((if q_8 = 0 then (some (-10003 : Int32)) else (if q_12 = 0 then (some (0 : Int32)) else (some (1 : Int32)))).bind fun q_22 => (if q_19.1 = q_22 then ((if q_8 = 0 then (if q_12 = 0 then (some q_16) else ((fL_hidden q_16).bind fun r_31 => (if r_31 = 0 then ((fL_end q_16).bind fun Ω34 => (some Ω34)) else (some q_16)))) else (if q_12 = 0 then (if ((q_16 4) ((10 : Int32)).toNatClampNeg) < ((q_16 4) ((3 : Int32)).toNatClampNeg) then (some q_16) else ((lL_law_1081 70 a6 (1 : Int32) (0 : Int32) q_19.2.1 q_19.2.2 q_16).bind fun q_55 => ((fL_end q_55).bind fun Ω57 => (some Ω57)))) else ((fL_hidden q_16).bind fun r_37 => (if r_37 = 0 then ((fL_end q_16).bind fun Ω40 => (some Ω40)) else (some q_16))))).bind fun q_27 => (some (q_19.2.1, q_19.2.2, q_27))) else none))))))))
set_option maxRecDepth 100000 in
set_option maxHeartbeats 16000000 in
theorem kL_law_803 {p : Program} {l : Launch} {e : Env} {s : State} {m : MethodId} {below : List Frame} {meth : Method} {c : Code} {Q : State → Prop} {D : va_G} {A : Nat → Prop} {cI cS : ClassId} {b : Nat} {h : Nat → Nat → Nat} {g : Nat → Nat} (S : CallFix p m c code 18 s #[Value.ref b] (Cond.tt :: uw_) RL) (hK : va_K D vwCl (tL cI cS) s) (hA : ∀ q, s.heap.size ≤ q → A q) (hZ : zs_ A s) (a6 : Int32) (a7 : Int32) (a9 : Int32) (a10 : Int32) (Λ : s3_T) (π : Nat → Nat) (Ω : sg_T) (q_b : s3_T × (Nat → Nat) × sg_T) (hrun : bL_law_803 a6 a7 a9 a10 Λ π Ω = some q_b) (kx : ∀ (H : Heap) (locs : List Loc) (ls : Array Slot), dy_ D A s (wB cI cS h g q_b.1 q_b.2.1 q_b.2.2) H locs → lv_has ls 18 [(0, .ref b), (1, .ref (h 8 0)), (2, .ref (g 1)), (3, .ref (g 2)), (4, .ref (g 3)), (5, .ref (g 4)), (6, .int a6), (12, .int (1 : Int32))] → W p l e room_1 s m #[Value.ref b] below meth c H locs 89 982 Q (F0 m 1373 ls [])) : ∀ (H : Heap) (locs : List Loc) (ls : Array Slot), dy_ D A s (wB cI cS h g Λ π Ω) H locs → lv_has ls 18 [(0, .ref b), (1, .ref (h 8 0)), (2, .ref (g 1)), (3, .ref (g 2)), (4, .ref (g 3)), (5, .ref (g 4)), (6, .int a6), (7, .int a7), (9, .int a9), (10, .int a10), (11, .int (-10003 : Int32))] → W p l e room_1 s m #[Value.ref b] below meth c H locs 89 982 Q (F0 m 803 ls []) := by
  have hx := S.1
  have hb := S.2.1
  have lp1081 : ∀ (n : Nat) (a6 : Int32) (a12 : Int32) (a17 : Int32) (Λ : s3_T) (π : Nat → Nat) (Ω : sg_T) (q_x : sg_T), lL_law_1081 n a6 a12 a17 Λ π Ω = some q_x → (∀ (H : Heap) (locs : List Loc) (ls : Array Slot), dy_ D A s (wB cI cS h g Λ π q_x) H locs → lv_has ls 18 [(0, .ref b), (1, .ref (h 8 0)), (2, .ref (g 1)), (3, .ref (g 2)), (4, .ref (g 3)), (5, .ref (g 4)), (6, .int a6), (12, .int a12)] → W p l e room_1 s m #[Value.ref b] below meth c H locs 89 982 Q (F0 m 1150 ls [])) → ∀ (H : Heap) (locs : List Loc) (ls : Array Slot), dy_ D A s (wB cI cS h g Λ π Ω) H locs → lv_has ls 18 [(0, .ref b), (1, .ref (h 8 0)), (2, .ref (g 1)), (3, .ref (g 2)), (4, .ref (g 3)), (5, .ref (g 4)), (6, .int a6), (12, .int a12), (17, .int a17)] → W p l e room_1 s m #[Value.ref b] below meth c H locs 89 982 Q (F0 m 1081 ls []) := by
    intro n
    induction n with
    | zero => intro a6 a12 a17 Λ π Ω q_x hrun; cases hrun
    | succ n ih =>
      intro a6 a12 a17 Λ π Ω q_x hrun kx H locs ls Y hl
      unfold lL_law_1081 at hrun
      refine lv_iload hx hb dL_law_1081 (lv_at hl 8 rfl) ?_
      refine lv_bipush (v := (8 : Int32)) hx hb dL_law_1083 (by decide) ?_
      refine lv_icmp_ge (tgt := 1150) hx hb dL_law_1085 (by decide) (fun c_43 => ?_) (fun c_43 => ?_)
      · have hrun := o_t hrun c_43
        cases hrun
        exact kx _ _ _ Y (lv_sub hl [0, 1, 2, 3, 4, 5, 6, 7] rfl)
      · have hrun := o_f hrun c_43
        refine lv_aload_n hx hb dL_law_1088 rfl (lv_at hl 2 rfl) ?_
        refine lv_bipush (v := (6 : Int32)) hx hb dL_law_1089 (by decide) ?_
        refine lv_iload hx hb dL_law_1091 (lv_at hl 8 rfl) ?_
        refine lv_imul hx hb dL_law_1093 ?_
        refine lv_dup2_11 hx hb dL_law_1094 rfl rfl ?_
        obtain ⟨b_44, hrun⟩ := o_xh hrun
        refine ia S hK Y 85 0 (f := (Ω 1)) rfl rfl b_44 dL_law_1095 ?_
        refine lv_aload_n hx hb dL_law_1096 rfl (lv_at hl 2 rfl) ?_
        refine lv_bipush (v := (6 : Int32)) hx hb dL_law_1097 (by decide) ?_
        refine lv_iload hx hb dL_law_1099 (lv_at hl 8 rfl) ?_
        refine lv_imul hx hb dL_law_1101 ?_
        refine lv_iconst (v := (5 : Int32)) hx hb dL_law_1102 (by decide) ?_
        refine lv_iadd hx hb dL_law_1103 ?_
        obtain ⟨b_45, hrun⟩ := o_xh hrun
        refine ia S hK Y 85 0 (f := (Ω 1)) rfl rfl b_45 dL_law_1104 ?_
        obtain ⟨q_47, e_48, hrun⟩ := o_bh hrun
        have kx49 : ∀ (H : Heap) (locs : List Loc) (ls : Array Slot), dy_ D A s (wB cI cS h g Λ π Ω) H locs → lv_has ls 18 [(0, .ref b), (1, .ref (h 8 0)), (2, .ref (g 1)), (3, .ref (g 2)), (4, .ref (g 3)), (5, .ref (g 4)), (6, .int a6), (12, .int a12), (17, .int a17)] → W p l e room_1 s m #[Value.ref b] below meth c H locs 89 982 Q (F0 m 1113 ls [.int q_47, .int ((Ω 1) (((6 : Int32) * a17)).toNatClampNeg), .int ((6 : Int32) * a17), .ref (g 1)]) := by
          intro H locs ls Y hl
          refine lv_iadd hx hb dL_law_1113 ?_
          refine iw S hK Y 85 0 (f := (Ω 1)) rfl rfl b_44 (ws' := (wB cI cS h g Λ π (sg_a Ω 1 (upd (Ω 1) (((6 : Int32) * a17)).toNatClampNeg (((Ω 1) (((6 : Int32) * a17)).toNatClampNeg) + q_47))))) (wB_a1 _ _ _ _ _ _) dL_law_1114 (fun H locs Y => ?_)
          refine lv_aload_n hx hb dL_law_1115 rfl (lv_at hl 2 rfl) ?_
          refine lv_bipush (v := (6 : Int32)) hx hb dL_law_1116 (by decide) ?_
          refine lv_iload hx hb dL_law_1118 (lv_at hl 8 rfl) ?_
          refine lv_imul hx hb dL_law_1120 ?_
          refine lv_iconst (v := (4 : Int32)) hx hb dL_law_1121 (by decide) ?_
          refine lv_iadd hx hb dL_law_1122 ?_
          refine lv_dup2_11 hx hb dL_law_1123 rfl rfl ?_
          obtain ⟨b_50, hrun⟩ := o_xh hrun
          refine ia S hK Y 85 0 (f := (upd (Ω 1) (((6 : Int32) * a17)).toNatClampNeg (((Ω 1) (((6 : Int32) * a17)).toNatClampNeg) + q_47))) rfl rfl b_50 dL_law_1124 ?_
          refine lv_aload_n hx hb dL_law_1125 rfl (lv_at hl 2 rfl) ?_
          refine lv_bipush (v := (6 : Int32)) hx hb dL_law_1126 (by decide) ?_
          refine lv_iload hx hb dL_law_1128 (lv_at hl 8 rfl) ?_
          refine lv_imul hx hb dL_law_1130 ?_
          refine lv_iconst (v := (5 : Int32)) hx hb dL_law_1131 (by decide) ?_
          refine lv_iadd hx hb dL_law_1132 ?_
          refine ia S hK Y 85 0 (f := (upd (Ω 1) (((6 : Int32) * a17)).toNatClampNeg (((Ω 1) (((6 : Int32) * a17)).toNatClampNeg) + q_47))) rfl rfl b_45 dL_law_1133 ?_
          obtain ⟨q_52, e_53, hrun⟩ := o_bh hrun
          have kx54 : ∀ (H : Heap) (locs : List Loc) (ls : Array Slot), dy_ D A s (wB cI cS h g Λ π (sg_a Ω 1 (upd (Ω 1) (((6 : Int32) * a17)).toNatClampNeg (((Ω 1) (((6 : Int32) * a17)).toNatClampNeg) + q_47)))) H locs → lv_has ls 18 [(0, .ref b), (1, .ref (h 8 0)), (2, .ref (g 1)), (3, .ref (g 2)), (4, .ref (g 3)), (5, .ref (g 4)), (6, .int a6), (12, .int a12), (17, .int a17)] → W p l e room_1 s m #[Value.ref b] below meth c H locs 89 982 Q (F0 m 1142 ls [.int q_52, .int ((upd (Ω 1) (((6 : Int32) * a17)).toNatClampNeg (((Ω 1) (((6 : Int32) * a17)).toNatClampNeg) + q_47)) ((((6 : Int32) * a17) + (4 : Int32))).toNatClampNeg), .int (((6 : Int32) * a17) + (4 : Int32)), .ref (g 1)]) := by
            intro H locs ls Y hl
            refine lv_iadd hx hb dL_law_1142 ?_
            refine iw S hK Y 85 0 (f := (upd (Ω 1) (((6 : Int32) * a17)).toNatClampNeg (((Ω 1) (((6 : Int32) * a17)).toNatClampNeg) + q_47))) rfl rfl b_50 (ws' := (wB cI cS h g Λ π (sg_a (sg_a Ω 1 (upd (Ω 1) (((6 : Int32) * a17)).toNatClampNeg (((Ω 1) (((6 : Int32) * a17)).toNatClampNeg) + q_47))) 1 (upd (upd (Ω 1) (((6 : Int32) * a17)).toNatClampNeg (((Ω 1) (((6 : Int32) * a17)).toNatClampNeg) + q_47)) ((((6 : Int32) * a17) + (4 : Int32))).toNatClampNeg (((upd (Ω 1) (((6 : Int32) * a17)).toNatClampNeg (((Ω 1) (((6 : Int32) * a17)).toNatClampNeg) + q_47)) ((((6 : Int32) * a17) + (4 : Int32))).toNatClampNeg) + q_52))))) (wB_a1 _ _ _ _ _ _) dL_law_1143 (fun H locs Y => ?_)
            refine lv_iinc (v := (a17 + (1 : Int32))) (lv' := [(17, .int (a17 + (1 : Int32))), (0, .ref b), (1, .ref (h 8 0)), (2, .ref (g 1)), (3, .ref (g 2)), (4, .ref (g 3)), (5, .ref (g 4)), (6, .int a6), (12, .int a12)]) hx hb dL_law_1144 hl (k := 8) rfl (by rfl) (Nat.le_of_ble_eq_true rfl) rfl (fun ls hl => ?_)
            refine lv_goto (tgt := 1081) hx hb dL_law_1147 (by decide) ?_
            exact ih a6 a12 (a17 + (1 : Int32)) Λ π (sg_a (sg_a Ω 1 (upd (Ω 1) (((6 : Int32) * a17)).toNatClampNeg (((Ω 1) (((6 : Int32) * a17)).toNatClampNeg) + q_47))) 1 (upd (upd (Ω 1) (((6 : Int32) * a17)).toNatClampNeg (((Ω 1) (((6 : Int32) * a17)).toNatClampNeg) + q_47)) ((((6 : Int32) * a17) + (4 : Int32))).toNatClampNeg (((upd (Ω 1) (((6 : Int32) * a17)).toNatClampNeg (((Ω 1) (((6 : Int32) * a17)).toNatClampNeg) + q_47)) ((((6 : Int32) * a17) + (4 : Int32))).toNatClampNeg) + q_52))) q_x hrun kx _ _ _ Y (lv_sub hl [1, 2, 3, 4, 5, 6, 7, 8, 0] rfl)
          have hrun := e_53
          refine lv_if_le (tgt := 1141) hx hb dL_law_1134 (by decide) (fun c_51 => ?_) (fun c_51 => ?_)
          · have hrun := o_t hrun c_51
            refine lv_iconst (v := (0 : Int32)) hx hb dL_law_1141 (by decide) ?_
            cases hrun
            exact kx54 _ _ _ Y (lv_sub hl [0, 1, 2, 3, 4, 5, 6, 7, 8] rfl)
          · have hrun := o_f hrun c_51
            refine lv_iconst (v := (1 : Int32)) hx hb dL_law_1137 (by decide) ?_
            refine lv_goto (tgt := 1142) hx hb dL_law_1138 (by decide) ?_
            cases hrun
            exact kx54 _ _ _ Y (lv_sub hl [0, 1, 2, 3, 4, 5, 6, 7, 8] rfl)
        have hrun := e_48
        refine lv_if_le (tgt := 1112) hx hb dL_law_1105 (by decide) (fun c_46 => ?_) (fun c_46 => ?_)
        · have hrun := o_t hrun c_46
          refine lv_iconst (v := (0 : Int32)) hx hb dL_law_1112 (by decide) ?_
          cases hrun
          exact kx49 _ _ _ Y (lv_sub hl [0, 1, 2, 3, 4, 5, 6, 7, 8] rfl)
        · have hrun := o_f hrun c_46
          refine lv_iconst (v := (1 : Int32)) hx hb dL_law_1108 (by decide) ?_
          refine lv_goto (tgt := 1113) hx hb dL_law_1109 (by decide) ?_
          cases hrun
          exact kx49 _ _ _ Y (lv_sub hl [0, 1, 2, 3, 4, 5, 6, 7, 8] rfl)
  intro H locs ls Y hl
  unfold bL_law_803 at hrun
  refine lv_iload hx hb dL_law_803 (lv_at hl 7 rfl) ?_
  refine lv_bipush (v := (13 : Int32)) hx hb dL_law_805 (by decide) ?_
  refine lv_ishr hx hb dL_law_807 ?_
  refine lv_iconst (v := (3 : Int32)) hx hb dL_law_808 (by decide) ?_
  obtain ⟨r_1, e_2, hrun⟩ := o_bh hrun
  refine cp_s (As := [.int (a7 >>> ((13 : Int32) &&& 31)), .int (3 : Int32)]) (rest := []) S hK hA hZ Y hl.1 (mL_low l D (a7 >>> ((13 : Int32) &&& 31)) (3 : Int32) r_1 e_2) kL_74 ⟨Nat.le_of_ble_eq_true rfl, Nat.le_of_ble_eq_true rfl⟩ rfl rfl (Nat.le_of_ble_eq_true rfl) ⟨Nat.le_of_ble_eq_true rfl, Nat.le_of_ble_eq_true rfl⟩ dL_law_809 (fun H locs Y => ?_)
  obtain ⟨q_4, e_5, hrun⟩ := o_bh hrun
  have kx6 : ∀ (H : Heap) (locs : List Loc) (ls : Array Slot), dy_ D A s (wB cI cS h g Λ π Ω) H locs → lv_has ls 18 [(0, .ref b), (1, .ref (h 8 0)), (2, .ref (g 1)), (3, .ref (g 2)), (4, .ref (g 3)), (5, .ref (g 4)), (6, .int a6), (10, .int a10), (11, .int (-10003 : Int32))] → W p l e room_1 s m #[Value.ref b] below meth c H locs 89 982 Q (F0 m 841 ls [.int q_4]) := by
    intro H locs ls Y hl
    refine lv_istore (lv' := [(13, .int q_4), (0, .ref b), (1, .ref (h 8 0)), (2, .ref (g 1)), (3, .ref (g 2)), (4, .ref (g 3)), (5, .ref (g 4)), (6, .int a6), (10, .int a10), (11, .int (-10003 : Int32))]) hx hb dL_law_841 hl (Nat.le_of_ble_eq_true rfl) rfl (fun ls hl => ?_)
    refine lv_iload hx hb dL_law_843 (lv_at hl 8 rfl) ?_
    refine lv_aload hx hb dL_law_845 (lv_at hl 6 rfl) ?_
    refine lv_bipush (v := (7 : Int32)) hx hb dL_law_847 (by decide) ?_
    refine ia S hK Y 88 0 (f := (Ω 4)) rfl rfl (show ¬ ((7 : Int32) < 0 ∨ 11 ≤ ((7 : Int32)).toNatClampNeg) by decide) dL_law_849 ?_
    obtain ⟨q_8, e_9, hrun⟩ := o_bh hrun
    have kx10 : ∀ (H : Heap) (locs : List Loc) (ls : Array Slot), dy_ D A s (wB cI cS h g Λ π Ω) H locs → lv_has ls 18 [(0, .ref b), (1, .ref (h 8 0)), (2, .ref (g 1)), (3, .ref (g 2)), (4, .ref (g 3)), (5, .ref (g 4)), (6, .int a6), (10, .int a10), (11, .int (-10003 : Int32)), (13, .int q_4)] → W p l e room_1 s m #[Value.ref b] below meth c H locs 89 982 Q (F0 m 875 ls [.int q_8]) := by
      intro H locs ls Y hl
      refine lv_istore (lv' := [(14, .int q_8), (0, .ref b), (1, .ref (h 8 0)), (2, .ref (g 1)), (3, .ref (g 2)), (4, .ref (g 3)), (5, .ref (g 4)), (6, .int a6), (10, .int a10), (11, .int (-10003 : Int32)), (13, .int q_4)]) hx hb dL_law_875 hl (Nat.le_of_ble_eq_true rfl) rfl (fun ls hl => ?_)
      refine lv_iload hx hb dL_law_877 (lv_at hl 0 rfl) ?_
      obtain ⟨q_12, e_13, hrun⟩ := o_bh hrun
      have kx14 : ∀ (H : Heap) (locs : List Loc) (ls : Array Slot), dy_ D A s (wB cI cS h g Λ π Ω) H locs → lv_has ls 18 [(0, .ref b), (1, .ref (h 8 0)), (2, .ref (g 1)), (3, .ref (g 2)), (4, .ref (g 3)), (5, .ref (g 4)), (6, .int a6), (10, .int a10), (11, .int (-10003 : Int32)), (13, .int q_4), (14, .int q_8)] → W p l e room_1 s m #[Value.ref b] below meth c H locs 89 982 Q (F0 m 901 ls [.int q_12]) := by
        intro H locs ls Y hl
        refine lv_istore (lv' := [(15, .int q_12), (0, .ref b), (1, .ref (h 8 0)), (2, .ref (g 1)), (3, .ref (g 2)), (4, .ref (g 3)), (5, .ref (g 4)), (6, .int a6), (10, .int a10), (11, .int (-10003 : Int32)), (13, .int q_4), (14, .int q_8)]) hx hb dL_law_901 hl (Nat.le_of_ble_eq_true rfl) rfl (fun ls hl => ?_)
        refine lv_bipush (v := (6 : Int32)) hx hb dL_law_903 (by decide) ?_
        refine lv_aload hx hb dL_law_905 (lv_at hl 6 rfl) ?_
        refine lv_bipush (v := (7 : Int32)) hx hb dL_law_907 (by decide) ?_
        refine ia S hK Y 88 0 (f := (Ω 4)) rfl rfl (show ¬ ((7 : Int32) < 0 ∨ 11 ≤ ((7 : Int32)).toNatClampNeg) by decide) dL_law_909 ?_
        refine lv_imul hx hb dL_law_910 ?_
        refine lv_istore (lv' := [(16, .int ((6 : Int32) * ((Ω 4) ((7 : Int32)).toNatClampNeg))), (15, .int q_12), (0, .ref b), (1, .ref (h 8 0)), (2, .ref (g 1)), (3, .ref (g 2)), (4, .ref (g 3)), (5, .ref (g 4)), (6, .int a6), (10, .int a10), (11, .int (-10003 : Int32)), (13, .int q_4), (14, .int q_8)]) hx hb dL_law_911 hl (Nat.le_of_ble_eq_true rfl) rfl (fun ls hl => ?_)
        refine lv_iload hx hb dL_law_913 (lv_at hl 1 rfl) ?_
        obtain ⟨q_16, e_17, hrun⟩ := o_bh hrun
        have kx18 : ∀ (H : Heap) (locs : List Loc) (ls : Array Slot), dy_ D A s (wB cI cS h g Λ π q_16) H locs → lv_has ls 18 [(0, .ref b), (1, .ref (h 8 0)), (2, .ref (g 1)), (3, .ref (g 2)), (4, .ref (g 3)), (5, .ref (g 4)), (6, .int a6), (10, .int a10), (11, .int (-10003 : Int32)), (13, .int q_4), (14, .int q_8), (15, .int q_12)] → W p l e room_1 s m #[Value.ref b] below meth c H locs 89 982 Q (F0 m 1018 ls []) := by
          intro H locs ls Y hl
          refine lv_aload_n hx hb dL_law_1018 rfl (lv_at hl 1 rfl) ?_
          refine lv_iload hx hb dL_law_1019 (lv_at hl 7 rfl) ?_
          refine lv_iload hx hb dL_law_1021 (lv_at hl 9 rfl) ?_
          obtain ⟨q_19, e_20, hrun⟩ := o_bh hrun
          refine cg_v (it := [0, 1]) (ws2 := (wB cI cS h g q_19.2.1 q_19.2.2 q_16)) (As := [.int a10, .int q_4]) (rest := []) S hK hA hZ Y hl.1 (mX7_cry l D cI cS h Λ π a10 q_4 q_19.1 q_19.2.1 q_19.2.2 e_20) (cBLC h g Λ π q_16) (cBQC h g Λ π q_16) nBL nBQ dBL (cBLP h g Λ π q_16 q_19.2.1 q_19.2.2) nPL rfl kL_102 (T := TX7) (N := 5) rfl (q0 := 0) rfl ⟨Nat.le_of_ble_eq_true rfl, Nat.le_of_ble_eq_true rfl⟩ rfl rfl (Nat.le_of_ble_eq_true rfl) ⟨Nat.le_of_ble_eq_true rfl, Nat.le_of_ble_eq_true rfl⟩ dL_law_1023 (fun H locs Y => ?_)
          refine lv_iload hx hb dL_law_1026 (lv_at hl 10 rfl) ?_
          obtain ⟨q_22, e_23, hrun⟩ := o_bh hrun
          have kx24 : ∀ (H : Heap) (locs : List Loc) (ls : Array Slot), dy_ D A s (wB cI cS h g q_19.2.1 q_19.2.2 q_16) H locs → lv_has ls 18 [(0, .ref b), (1, .ref (h 8 0)), (2, .ref (g 1)), (3, .ref (g 2)), (4, .ref (g 3)), (5, .ref (g 4)), (6, .int a6), (14, .int q_8), (15, .int q_12)] → W p l e room_1 s m #[Value.ref b] below meth c H locs 89 982 Q (F0 m 1046 ls [.int q_22, .int q_19.1]) := by
            intro H locs ls Y hl
            refine lv_icmp_ne (tgt := 1053) hx hb dL_law_1046 (by decide) (fun c_25 => ?_) (fun c_25 => ?_)
            · have hrun := o_f hrun c_25
              cases hrun
            · have hrun := o_t hrun c_25
              refine lv_iconst (v := (1 : Int32)) hx hb dL_law_1049 (by decide) ?_
              refine lv_goto (tgt := 1054) hx hb dL_law_1050 (by decide) ?_
              refine lv_istore (lv' := [(12, .int (1 : Int32)), (0, .ref b), (1, .ref (h 8 0)), (2, .ref (g 1)), (3, .ref (g 2)), (4, .ref (g 3)), (5, .ref (g 4)), (6, .int a6), (14, .int q_8), (15, .int q_12)]) hx hb dL_law_1054 hl (Nat.le_of_ble_eq_true rfl) rfl (fun ls hl => ?_)
              refine lv_iload hx hb dL_law_1056 (lv_at hl 8 rfl) ?_
              obtain ⟨q_27, e_28, hrun⟩ := o_bh hrun
              have kx29 : ∀ (H : Heap) (locs : List Loc) (ls : Array Slot), dy_ D A s (wB cI cS h g q_19.2.1 q_19.2.2 q_27) H locs → lv_has ls 18 [(0, .ref b), (1, .ref (h 8 0)), (2, .ref (g 1)), (3, .ref (g 2)), (4, .ref (g 3)), (5, .ref (g 4)), (6, .int a6), (12, .int (1 : Int32))] → W p l e room_1 s m #[Value.ref b] below meth c H locs 89 982 Q (F0 m 1183 ls []) := by
                intro H locs ls Y hl
                refine lv_goto (tgt := 1373) hx hb dL_law_1183 (by decide) ?_
                cases hrun
                exact kx _ _ _ Y (lv_sub hl [0, 1, 2, 3, 4, 5, 6, 7] rfl)
              have hrun := e_28
              refine lv_if_eq (tgt := 1162) hx hb dL_law_1058 (by decide) (fun c_26 => ?_) (fun c_26 => ?_)
              · have hrun := o_t hrun c_26
                refine lv_iload hx hb dL_law_1162 (lv_at hl 9 rfl) ?_
                refine lv_if_eq (tgt := 1183) hx hb dL_law_1164 (by decide) (fun c_30 => ?_) (fun c_30 => ?_)
                · have hrun := o_t hrun c_30
                  cases hrun
                  exact kx29 _ _ _ Y (lv_sub hl [1, 2, 3, 4, 5, 6, 7, 0] rfl)
                · have hrun := o_f hrun c_30
                  refine lv_aload_n hx hb dL_law_1167 rfl (lv_at hl 3 rfl) ?_
                  obtain ⟨r_31, e_32, hrun⟩ := o_bh hrun
                  refine cg_s (it := [0]) (ws2 := (wB cI cS h g q_19.2.1 q_19.2.2 q_16)) (As := [.ref (g 1)]) (rest := []) S hK hA hZ Y hl.1 (mL_hidden l D cI g q_16 r_31 e_32) (cBQC h g q_19.2.1 q_19.2.2 q_16) (cBLC h g q_19.2.1 q_19.2.2 q_16) nBQ nBL dBQ (cBQP h g q_19.2.1 q_19.2.2 q_16 q_16) nPQ rfl kL_66 ⟨Nat.le_of_ble_eq_true rfl, Nat.le_of_ble_eq_true rfl⟩ rfl rfl (Nat.le_of_ble_eq_true rfl) ⟨Nat.le_of_ble_eq_true rfl, Nat.le_of_ble_eq_true rfl⟩ dL_law_1168 (fun H locs Y => ?_)
                  refine lv_if_ne (tgt := 1183) hx hb dL_law_1171 (by decide) (fun c_33 => ?_) (fun c_33 => ?_)
                  · have hrun := o_f hrun c_33
                    cases hrun
                    exact kx29 _ _ _ Y (lv_sub hl [1, 2, 3, 4, 5, 6, 7, 0] rfl)
                  · have hrun := o_t hrun c_33
                    refine lv_aload_n hx hb dL_law_1174 rfl (lv_at hl 3 rfl) ?_
                    refine lv_aload_n hx hb dL_law_1175 rfl (lv_at hl 4 rfl) ?_
                    refine lv_aload hx hb dL_law_1176 (lv_at hl 5 rfl) ?_
                    refine lv_aload hx hb dL_law_1178 (lv_at hl 6 rfl) ?_
                    obtain ⟨Ω34, e_35, hrun⟩ := o_bh hrun
                    refine cg_sv (it := [0]) (ws2 := (wB cI cS h g q_19.2.1 q_19.2.2 Ω34)) (As := [.ref (g 1), .ref (g 2), .ref (g 3), .ref (g 4)]) (rest := []) S hK hA hZ Y hl.1 (mL_end l D cI g q_16 Ω34 e_35) (cBQC h g q_19.2.1 q_19.2.2 q_16) (cBLC h g q_19.2.1 q_19.2.2 q_16) nBQ nBL dBQ (cBQP h g q_19.2.1 q_19.2.2 q_16 Ω34) nPQ rfl kL_98 ⟨Nat.le_of_ble_eq_true rfl, Nat.le_of_ble_eq_true rfl⟩ rfl rfl (Nat.le_of_ble_eq_true rfl) ⟨Nat.le_of_ble_eq_true rfl, Nat.le_of_ble_eq_true rfl⟩ dL_law_1180 (fun H locs Y => ?_)
                    cases hrun
                    exact kx29 _ _ _ Y (lv_sub hl [1, 2, 3, 4, 5, 6, 7, 0] rfl)
              · have hrun := o_f hrun c_26
                refine lv_iload hx hb dL_law_1061 (lv_at hl 9 rfl) ?_
                refine lv_if_ne (tgt := 1162) hx hb dL_law_1063 (by decide) (fun c_36 => ?_) (fun c_36 => ?_)
                · have hrun := o_f hrun c_36
                  refine lv_iload hx hb dL_law_1162 (lv_at hl 9 rfl) ?_
                  refine lv_if_eq (tgt := 1183) hx hb dL_law_1164 (by decide) (fun q => absurd q c_36) (fun _ => ?_)
                  refine lv_aload_n hx hb dL_law_1167 rfl (lv_at hl 3 rfl) ?_
                  obtain ⟨r_37, e_38, hrun⟩ := o_bh hrun
                  refine cg_s (it := [0]) (ws2 := (wB cI cS h g q_19.2.1 q_19.2.2 q_16)) (As := [.ref (g 1)]) (rest := []) S hK hA hZ Y hl.1 (mL_hidden l D cI g q_16 r_37 e_38) (cBQC h g q_19.2.1 q_19.2.2 q_16) (cBLC h g q_19.2.1 q_19.2.2 q_16) nBQ nBL dBQ (cBQP h g q_19.2.1 q_19.2.2 q_16 q_16) nPQ rfl kL_66 ⟨Nat.le_of_ble_eq_true rfl, Nat.le_of_ble_eq_true rfl⟩ rfl rfl (Nat.le_of_ble_eq_true rfl) ⟨Nat.le_of_ble_eq_true rfl, Nat.le_of_ble_eq_true rfl⟩ dL_law_1168 (fun H locs Y => ?_)
                  refine lv_if_ne (tgt := 1183) hx hb dL_law_1171 (by decide) (fun c_39 => ?_) (fun c_39 => ?_)
                  · have hrun := o_f hrun c_39
                    cases hrun
                    exact kx29 _ _ _ Y (lv_sub hl [1, 2, 3, 4, 5, 6, 7, 0] rfl)
                  · have hrun := o_t hrun c_39
                    refine lv_aload_n hx hb dL_law_1174 rfl (lv_at hl 3 rfl) ?_
                    refine lv_aload_n hx hb dL_law_1175 rfl (lv_at hl 4 rfl) ?_
                    refine lv_aload hx hb dL_law_1176 (lv_at hl 5 rfl) ?_
                    refine lv_aload hx hb dL_law_1178 (lv_at hl 6 rfl) ?_
                    obtain ⟨Ω40, e_41, hrun⟩ := o_bh hrun
                    refine cg_sv (it := [0]) (ws2 := (wB cI cS h g q_19.2.1 q_19.2.2 Ω40)) (As := [.ref (g 1), .ref (g 2), .ref (g 3), .ref (g 4)]) (rest := []) S hK hA hZ Y hl.1 (mL_end l D cI g q_16 Ω40 e_41) (cBQC h g q_19.2.1 q_19.2.2 q_16) (cBLC h g q_19.2.1 q_19.2.2 q_16) nBQ nBL dBQ (cBQP h g q_19.2.1 q_19.2.2 q_16 Ω40) nPQ rfl kL_98 ⟨Nat.le_of_ble_eq_true rfl, Nat.le_of_ble_eq_true rfl⟩ rfl rfl (Nat.le_of_ble_eq_true rfl) ⟨Nat.le_of_ble_eq_true rfl, Nat.le_of_ble_eq_true rfl⟩ dL_law_1180 (fun H locs Y => ?_)
                    cases hrun
                    exact kx29 _ _ _ Y (lv_sub hl [1, 2, 3, 4, 5, 6, 7, 0] rfl)
                · have hrun := o_t hrun c_36
                  refine lv_aload hx hb dL_law_1066 (lv_at hl 6 rfl) ?_
                  refine lv_bipush (v := (10 : Int32)) hx hb dL_law_1068 (by decide) ?_
                  refine ia S hK Y 88 0 (f := (q_16 4)) rfl rfl (show ¬ ((10 : Int32) < 0 ∨ 11 ≤ ((10 : Int32)).toNatClampNeg) by decide) dL_law_1070 ?_
                  refine lv_aload hx hb dL_law_1071 (lv_at hl 6 rfl) ?_
                  refine lv_iconst (v := (3 : Int32)) hx hb dL_law_1073 (by decide) ?_
                  refine ia S hK Y 88 0 (f := (q_16 4)) rfl rfl (show ¬ ((3 : Int32) < 0 ∨ 11 ≤ ((3 : Int32)).toNatClampNeg) by decide) dL_law_1074 ?_
                  refine lv_icmp_lt (tgt := 1162) hx hb dL_law_1075 (by decide) (fun c_42 => ?_) (fun c_42 => ?_)
                  · have hrun := o_t hrun c_42
                    refine lv_iload hx hb dL_law_1162 (lv_at hl 9 rfl) ?_
                    refine lv_if_eq (tgt := 1183) hx hb dL_law_1164 (by decide) (fun _ => ?_) (fun q => absurd c_36 q)
                    cases hrun
                    exact kx29 _ _ _ Y (lv_sub hl [1, 2, 3, 4, 5, 6, 7, 0] rfl)
                  · have hrun := o_f hrun c_42
                    refine lv_iconst (v := (0 : Int32)) hx hb dL_law_1078 (by decide) ?_
                    refine lv_istore (lv' := [(17, .int (0 : Int32)), (12, .int (1 : Int32)), (0, .ref b), (1, .ref (h 8 0)), (2, .ref (g 1)), (3, .ref (g 2)), (4, .ref (g 3)), (5, .ref (g 4)), (6, .int a6), (14, .int q_8), (15, .int q_12)]) hx hb dL_law_1079 hl (Nat.le_of_ble_eq_true rfl) rfl (fun ls hl => ?_)
                    obtain ⟨q_55, e_56, hrun⟩ := o_bh hrun
                    refine lp1081 70 a6 (1 : Int32) (0 : Int32) q_19.2.1 q_19.2.2 q_16 q_55 e_56 (fun H locs ls Y hl => ?_) _ _ _ Y (lv_sub hl [2, 3, 4, 5, 6, 7, 8, 1, 0] rfl)
                    refine lv_aload_n hx hb dL_law_1150 rfl (lv_at hl 2 rfl) ?_
                    refine lv_aload_n hx hb dL_law_1151 rfl (lv_at hl 3 rfl) ?_
                    refine lv_aload hx hb dL_law_1152 (lv_at hl 4 rfl) ?_
                    refine lv_aload hx hb dL_law_1154 (lv_at hl 5 rfl) ?_
                    obtain ⟨Ω57, e_58, hrun⟩ := o_bh hrun
                    refine cg_sv (it := [0]) (ws2 := (wB cI cS h g q_19.2.1 q_19.2.2 Ω57)) (As := [.ref (g 1), .ref (g 2), .ref (g 3), .ref (g 4)]) (rest := []) S hK hA hZ Y hl.1 (mL_end l D cI g q_55 Ω57 e_58) (cBQC h g q_19.2.1 q_19.2.2 q_55) (cBLC h g q_19.2.1 q_19.2.2 q_55) nBQ nBL dBQ (cBQP h g q_19.2.1 q_19.2.2 q_55 Ω57) nPQ rfl kL_98 ⟨Nat.le_of_ble_eq_true rfl, Nat.le_of_ble_eq_true rfl⟩ rfl rfl (Nat.le_of_ble_eq_true rfl) ⟨Nat.le_of_ble_eq_true rfl, Nat.le_of_ble_eq_true rfl⟩ dL_law_1156 (fun H locs Y => ?_)
                    refine lv_goto (tgt := 1183) hx hb dL_law_1159 (by decide) ?_
                    cases hrun
                    exact kx29 _ _ _ Y (lv_sub hl [0, 1, 2, 3, 4, 5, 6, 7] rfl)
          have hrun := e_23
          refine lv_if_ne (tgt := 1036) hx hb dL_law_1028 (by decide) (fun c_21 => ?_) (fun c_21 => ?_)
          · have hrun := o_f hrun c_21
            refine lv_iload hx hb dL_law_1036 (lv_at hl 11 rfl) ?_
            refine lv_if_eq (tgt := 1045) hx hb dL_law_1038 (by decide) (fun c_59 => ?_) (fun c_59 => ?_)
            · have hrun := o_t hrun c_59
              refine lv_iconst (v := (0 : Int32)) hx hb dL_law_1045 (by decide) ?_
              cases hrun
              exact kx24 _ _ _ Y (lv_sub hl [0, 1, 2, 3, 4, 5, 6, 10, 11] rfl)
            · have hrun := o_f hrun c_59
              refine lv_iconst (v := (1 : Int32)) hx hb dL_law_1041 (by decide) ?_
              refine lv_goto (tgt := 1046) hx hb dL_law_1042 (by decide) ?_
              cases hrun
              exact kx24 _ _ _ Y (lv_sub hl [0, 1, 2, 3, 4, 5, 6, 10, 11] rfl)
          · have hrun := o_t hrun c_21
            refine lv_iload hx hb dL_law_1031 (lv_at hl 8 rfl) ?_
            refine lv_goto (tgt := 1046) hx hb dL_law_1033 (by decide) ?_
            cases hrun
            exact kx24 _ _ _ Y (lv_sub hl [0, 1, 2, 3, 4, 5, 6, 10, 11] rfl)
        have hrun := e_17
        refine lv_if_eq (tgt := 986) hx hb dL_law_915 (by decide) (fun c_15 => ?_) (fun c_15 => ?_)
        · have hrun := o_t hrun c_15
          refine lv_iload hx hb dL_law_986 (lv_at hl 12 rfl) ?_
          refine lv_if_eq (tgt := 1018) hx hb dL_law_988 (by decide) (fun c_60 => ?_) (fun c_60 => ?_)
          · have hrun := o_t hrun c_60
            cases hrun
            exact kx18 _ _ _ Y (lv_sub hl [2, 3, 4, 5, 6, 7, 8, 9, 10, 11, 12, 1] rfl)
          · have hrun := o_f hrun c_60
            refine lv_aload_n hx hb dL_law_991 rfl (lv_at hl 4 rfl) ?_
            refine lv_iload hx hb dL_law_992 (lv_at hl 0 rfl) ?_
            refine lv_dup2_11 hx hb dL_law_994 rfl rfl ?_
            obtain ⟨b_61, hrun⟩ := o_xh hrun
            refine ia S hK Y 85 0 (f := (Ω 1)) rfl rfl b_61 dL_law_995 ?_
            refine lv_iconst (v := (1 : Int32)) hx hb dL_law_996 (by decide) ?_
            refine lv_isub hx hb dL_law_997 ?_
            refine iw S hK Y 85 0 (f := (Ω 1)) rfl rfl b_61 (ws' := (wB cI cS h g Λ π (sg_a Ω 1 (upd (Ω 1) (((6 : Int32) * ((Ω 4) ((7 : Int32)).toNatClampNeg))).toNatClampNeg (((Ω 1) (((6 : Int32) * ((Ω 4) ((7 : Int32)).toNatClampNeg))).toNatClampNeg) - (1 : Int32)))))) (wB_a1 _ _ _ _ _ _) dL_law_998 (fun H locs Y => ?_)
            refine lv_aload_n hx hb dL_law_999 rfl (lv_at hl 4 rfl) ?_
            refine lv_iload hx hb dL_law_1000 (lv_at hl 0 rfl) ?_
            refine lv_iconst (v := (3 : Int32)) hx hb dL_law_1002 (by decide) ?_
            refine lv_iadd hx hb dL_law_1003 ?_
            refine lv_dup2_11 hx hb dL_law_1004 rfl rfl ?_
            obtain ⟨b_62, hrun⟩ := o_xh hrun
            refine ia S hK Y 85 0 (f := (upd (Ω 1) (((6 : Int32) * ((Ω 4) ((7 : Int32)).toNatClampNeg))).toNatClampNeg (((Ω 1) (((6 : Int32) * ((Ω 4) ((7 : Int32)).toNatClampNeg))).toNatClampNeg) - (1 : Int32)))) rfl rfl b_62 dL_law_1005 ?_
            refine lv_iconst (v := (1 : Int32)) hx hb dL_law_1006 (by decide) ?_
            refine lv_iadd hx hb dL_law_1007 ?_
            refine iw S hK Y 85 0 (f := (upd (Ω 1) (((6 : Int32) * ((Ω 4) ((7 : Int32)).toNatClampNeg))).toNatClampNeg (((Ω 1) (((6 : Int32) * ((Ω 4) ((7 : Int32)).toNatClampNeg))).toNatClampNeg) - (1 : Int32)))) rfl rfl b_62 (ws' := (wB cI cS h g Λ π (sg_a (sg_a Ω 1 (upd (Ω 1) (((6 : Int32) * ((Ω 4) ((7 : Int32)).toNatClampNeg))).toNatClampNeg (((Ω 1) (((6 : Int32) * ((Ω 4) ((7 : Int32)).toNatClampNeg))).toNatClampNeg) - (1 : Int32)))) 1 (upd (upd (Ω 1) (((6 : Int32) * ((Ω 4) ((7 : Int32)).toNatClampNeg))).toNatClampNeg (((Ω 1) (((6 : Int32) * ((Ω 4) ((7 : Int32)).toNatClampNeg))).toNatClampNeg) - (1 : Int32))) ((((6 : Int32) * ((Ω 4) ((7 : Int32)).toNatClampNeg)) + (3 : Int32))).toNatClampNeg (((upd (Ω 1) (((6 : Int32) * ((Ω 4) ((7 : Int32)).toNatClampNeg))).toNatClampNeg (((Ω 1) (((6 : Int32) * ((Ω 4) ((7 : Int32)).toNatClampNeg))).toNatClampNeg) - (1 : Int32))) ((((6 : Int32) * ((Ω 4) ((7 : Int32)).toNatClampNeg)) + (3 : Int32))).toNatClampNeg) + (1 : Int32)))))) (wB_a1 _ _ _ _ _ _) dL_law_1008 (fun H locs Y => ?_)
            refine lv_aload hx hb dL_law_1009 (lv_at hl 7 rfl) ?_
            refine lv_bipush (v := (10 : Int32)) hx hb dL_law_1011 (by decide) ?_
            refine lv_dup2_11 hx hb dL_law_1013 rfl rfl ?_
            refine ia S hK Y 88 0 (f := (Ω 4)) rfl rfl (show ¬ ((10 : Int32) < 0 ∨ 11 ≤ ((10 : Int32)).toNatClampNeg) by decide) dL_law_1014 ?_
            refine lv_iconst (v := (1 : Int32)) hx hb dL_law_1015 (by decide) ?_
            refine lv_iadd hx hb dL_law_1016 ?_
            refine iw S hK Y 88 0 (f := (Ω 4)) rfl rfl (show ¬ ((10 : Int32) < 0 ∨ 11 ≤ ((10 : Int32)).toNatClampNeg) by decide) (ws' := (wB cI cS h g Λ π (sg_a (sg_a (sg_a Ω 1 (upd (Ω 1) (((6 : Int32) * ((Ω 4) ((7 : Int32)).toNatClampNeg))).toNatClampNeg (((Ω 1) (((6 : Int32) * ((Ω 4) ((7 : Int32)).toNatClampNeg))).toNatClampNeg) - (1 : Int32)))) 1 (upd (upd (Ω 1) (((6 : Int32) * ((Ω 4) ((7 : Int32)).toNatClampNeg))).toNatClampNeg (((Ω 1) (((6 : Int32) * ((Ω 4) ((7 : Int32)).toNatClampNeg))).toNatClampNeg) - (1 : Int32))) ((((6 : Int32) * ((Ω 4) ((7 : Int32)).toNatClampNeg)) + (3 : Int32))).toNatClampNeg (((upd (Ω 1) (((6 : Int32) * ((Ω 4) ((7 : Int32)).toNatClampNeg))).toNatClampNeg (((Ω 1) (((6 : Int32) * ((Ω 4) ((7 : Int32)).toNatClampNeg))).toNatClampNeg) - (1 : Int32))) ((((6 : Int32) * ((Ω 4) ((7 : Int32)).toNatClampNeg)) + (3 : Int32))).toNatClampNeg) + (1 : Int32)))) 4 (upd (Ω 4) ((10 : Int32)).toNatClampNeg (((Ω 4) ((10 : Int32)).toNatClampNeg) + (1 : Int32)))))) (wB_a4 _ _ _ _ _ _) dL_law_1017 (fun H locs Y => ?_)
            cases hrun
            exact kx18 _ _ _ Y (lv_sub hl [2, 3, 4, 5, 6, 7, 8, 9, 10, 11, 12, 1] rfl)
        · have hrun := o_f hrun c_15
          refine lv_aload_n hx hb dL_law_918 rfl (lv_at hl 4 rfl) ?_
          refine lv_bipush (v := (6 : Int32)) hx hb dL_law_919 (by decide) ?_
          refine lv_iload hx hb dL_law_921 (lv_at hl 9 rfl) ?_
          refine lv_imul hx hb dL_law_923 ?_
          refine lv_iconst (v := (5 : Int32)) hx hb dL_law_924 (by decide) ?_
          refine lv_iadd hx hb dL_law_925 ?_
          refine lv_iconst (v := (-1 : Int32)) hx hb dL_law_926 (by decide) ?_
          obtain ⟨b_63, hrun⟩ := o_xh hrun
          refine iw S hK Y 85 0 (f := (Ω 1)) rfl rfl b_63 (ws' := (wB cI cS h g Λ π (sg_a Ω 1 (upd (Ω 1) ((((6 : Int32) * a10) + (5 : Int32))).toNatClampNeg (-1 : Int32))))) (wB_a1 _ _ _ _ _ _) dL_law_927 (fun H locs Y => ?_)
          refine lv_aload_n hx hb dL_law_928 rfl (lv_at hl 4 rfl) ?_
          refine lv_iload hx hb dL_law_929 (lv_at hl 0 rfl) ?_
          refine lv_dup2_11 hx hb dL_law_931 rfl rfl ?_
          obtain ⟨b_64, hrun⟩ := o_xh hrun
          refine ia S hK Y 85 0 (f := (upd (Ω 1) ((((6 : Int32) * a10) + (5 : Int32))).toNatClampNeg (-1 : Int32))) rfl rfl b_64 dL_law_932 ?_
          refine lv_iconst (v := (2 : Int32)) hx hb dL_law_933 (by decide) ?_
          refine lv_iadd hx hb dL_law_934 ?_
          refine iw S hK Y 85 0 (f := (upd (Ω 1) ((((6 : Int32) * a10) + (5 : Int32))).toNatClampNeg (-1 : Int32))) rfl rfl b_64 (ws' := (wB cI cS h g Λ π (sg_a (sg_a Ω 1 (upd (Ω 1) ((((6 : Int32) * a10) + (5 : Int32))).toNatClampNeg (-1 : Int32))) 1 (upd (upd (Ω 1) ((((6 : Int32) * a10) + (5 : Int32))).toNatClampNeg (-1 : Int32)) (((6 : Int32) * ((Ω 4) ((7 : Int32)).toNatClampNeg))).toNatClampNeg (((upd (Ω 1) ((((6 : Int32) * a10) + (5 : Int32))).toNatClampNeg (-1 : Int32)) (((6 : Int32) * ((Ω 4) ((7 : Int32)).toNatClampNeg))).toNatClampNeg) + (2 : Int32)))))) (wB_a1 _ _ _ _ _ _) dL_law_935 (fun H locs Y => ?_)
          refine lv_aload_n hx hb dL_law_936 rfl (lv_at hl 4 rfl) ?_
          refine lv_iload hx hb dL_law_937 (lv_at hl 0 rfl) ?_
          refine lv_iconst (v := (2 : Int32)) hx hb dL_law_939 (by decide) ?_
          refine lv_iadd hx hb dL_law_940 ?_
          refine lv_dup2_11 hx hb dL_law_941 rfl rfl ?_
          obtain ⟨b_65, hrun⟩ := o_xh hrun
          refine ia S hK Y 85 0 (f := (upd (upd (Ω 1) ((((6 : Int32) * a10) + (5 : Int32))).toNatClampNeg (-1 : Int32)) (((6 : Int32) * ((Ω 4) ((7 : Int32)).toNatClampNeg))).toNatClampNeg (((upd (Ω 1) ((((6 : Int32) * a10) + (5 : Int32))).toNatClampNeg (-1 : Int32)) (((6 : Int32) * ((Ω 4) ((7 : Int32)).toNatClampNeg))).toNatClampNeg) + (2 : Int32)))) rfl rfl b_65 dL_law_942 ?_
          refine lv_iconst (v := (1 : Int32)) hx hb dL_law_943 (by decide) ?_
          refine lv_iadd hx hb dL_law_944 ?_
          refine iw S hK Y 85 0 (f := (upd (upd (Ω 1) ((((6 : Int32) * a10) + (5 : Int32))).toNatClampNeg (-1 : Int32)) (((6 : Int32) * ((Ω 4) ((7 : Int32)).toNatClampNeg))).toNatClampNeg (((upd (Ω 1) ((((6 : Int32) * a10) + (5 : Int32))).toNatClampNeg (-1 : Int32)) (((6 : Int32) * ((Ω 4) ((7 : Int32)).toNatClampNeg))).toNatClampNeg) + (2 : Int32)))) rfl rfl b_65 (ws' := (wB cI cS h g Λ π (sg_a (sg_a (sg_a Ω 1 (upd (Ω 1) ((((6 : Int32) * a10) + (5 : Int32))).toNatClampNeg (-1 : Int32))) 1 (upd (upd (Ω 1) ((((6 : Int32) * a10) + (5 : Int32))).toNatClampNeg (-1 : Int32)) (((6 : Int32) * ((Ω 4) ((7 : Int32)).toNatClampNeg))).toNatClampNeg (((upd (Ω 1) ((((6 : Int32) * a10) + (5 : Int32))).toNatClampNeg (-1 : Int32)) (((6 : Int32) * ((Ω 4) ((7 : Int32)).toNatClampNeg))).toNatClampNeg) + (2 : Int32)))) 1 (upd (upd (upd (Ω 1) ((((6 : Int32) * a10) + (5 : Int32))).toNatClampNeg (-1 : Int32)) (((6 : Int32) * ((Ω 4) ((7 : Int32)).toNatClampNeg))).toNatClampNeg (((upd (Ω 1) ((((6 : Int32) * a10) + (5 : Int32))).toNatClampNeg (-1 : Int32)) (((6 : Int32) * ((Ω 4) ((7 : Int32)).toNatClampNeg))).toNatClampNeg) + (2 : Int32))) ((((6 : Int32) * ((Ω 4) ((7 : Int32)).toNatClampNeg)) + (2 : Int32))).toNatClampNeg (((upd (upd (Ω 1) ((((6 : Int32) * a10) + (5 : Int32))).toNatClampNeg (-1 : Int32)) (((6 : Int32) * ((Ω 4) ((7 : Int32)).toNatClampNeg))).toNatClampNeg (((upd (Ω 1) ((((6 : Int32) * a10) + (5 : Int32))).toNatClampNeg (-1 : Int32)) (((6 : Int32) * ((Ω 4) ((7 : Int32)).toNatClampNeg))).toNatClampNeg) + (2 : Int32))) ((((6 : Int32) * ((Ω 4) ((7 : Int32)).toNatClampNeg)) + (2 : Int32))).toNatClampNeg) + (1 : Int32)))))) (wB_a1 _ _ _ _ _ _) dL_law_945 (fun H locs Y => ?_)
          refine lv_aload_n hx hb dL_law_946 rfl (lv_at hl 5 rfl) ?_
          refine lv_iload hx hb dL_law_947 (lv_at hl 11 rfl) ?_
          refine lv_dup2_11 hx hb dL_law_949 rfl rfl ?_
          obtain ⟨b_66, hrun⟩ := o_xh hrun
          refine ia S hK Y 86 0 (f := (Ω 2)) rfl rfl b_66 dL_law_950 ?_
          refine lv_iconst (v := (1 : Int32)) hx hb dL_law_951 (by decide) ?_
          refine lv_iadd hx hb dL_law_952 ?_
          refine iw S hK Y 86 0 (f := (Ω 2)) rfl rfl b_66 (ws' := (wB cI cS h g Λ π (sg_a (sg_a (sg_a (sg_a Ω 1 (upd (Ω 1) ((((6 : Int32) * a10) + (5 : Int32))).toNatClampNeg (-1 : Int32))) 1 (upd (upd (Ω 1) ((((6 : Int32) * a10) + (5 : Int32))).toNatClampNeg (-1 : Int32)) (((6 : Int32) * ((Ω 4) ((7 : Int32)).toNatClampNeg))).toNatClampNeg (((upd (Ω 1) ((((6 : Int32) * a10) + (5 : Int32))).toNatClampNeg (-1 : Int32)) (((6 : Int32) * ((Ω 4) ((7 : Int32)).toNatClampNeg))).toNatClampNeg) + (2 : Int32)))) 1 (upd (upd (upd (Ω 1) ((((6 : Int32) * a10) + (5 : Int32))).toNatClampNeg (-1 : Int32)) (((6 : Int32) * ((Ω 4) ((7 : Int32)).toNatClampNeg))).toNatClampNeg (((upd (Ω 1) ((((6 : Int32) * a10) + (5 : Int32))).toNatClampNeg (-1 : Int32)) (((6 : Int32) * ((Ω 4) ((7 : Int32)).toNatClampNeg))).toNatClampNeg) + (2 : Int32))) ((((6 : Int32) * ((Ω 4) ((7 : Int32)).toNatClampNeg)) + (2 : Int32))).toNatClampNeg (((upd (upd (Ω 1) ((((6 : Int32) * a10) + (5 : Int32))).toNatClampNeg (-1 : Int32)) (((6 : Int32) * ((Ω 4) ((7 : Int32)).toNatClampNeg))).toNatClampNeg (((upd (Ω 1) ((((6 : Int32) * a10) + (5 : Int32))).toNatClampNeg (-1 : Int32)) (((6 : Int32) * ((Ω 4) ((7 : Int32)).toNatClampNeg))).toNatClampNeg) + (2 : Int32))) ((((6 : Int32) * ((Ω 4) ((7 : Int32)).toNatClampNeg)) + (2 : Int32))).toNatClampNeg) + (1 : Int32)))) 2 (upd (Ω 2) (q_4).toNatClampNeg (((Ω 2) (q_4).toNatClampNeg) + (1 : Int32)))))) (wB_a2 _ _ _ _ _ _) dL_law_953 (fun H locs Y => ?_)
          refine lv_aload hx hb dL_law_954 (lv_at hl 6 rfl) ?_
          refine lv_iconst (v := (2 : Int32)) hx hb dL_law_956 (by decide) ?_
          refine lv_iload hx hb dL_law_957 (lv_at hl 11 rfl) ?_
          refine lv_imul hx hb dL_law_959 ?_
          refine lv_aload_n hx hb dL_law_960 rfl (lv_at hl 5 rfl) ?_
          refine lv_iload hx hb dL_law_961 (lv_at hl 11 rfl) ?_
          refine ia S hK Y 86 0 (f := (upd (Ω 2) (q_4).toNatClampNeg (((Ω 2) (q_4).toNatClampNeg) + (1 : Int32)))) rfl rfl b_66 dL_law_963 ?_
          refine lv_aload hx hb dL_law_964 (lv_at hl 7 rfl) ?_
          refine lv_iconst (v := (1 : Int32)) hx hb dL_law_966 (by decide) ?_
          refine ia S hK Y 88 0 (f := (Ω 4)) rfl rfl (show ¬ ((1 : Int32) < 0 ∨ 11 ≤ ((1 : Int32)).toNatClampNeg) by decide) dL_law_967 ?_
          obtain ⟨q_68, e_69, hrun⟩ := o_bh hrun
          have kx70 : ∀ (H : Heap) (locs : List Loc) (ls : Array Slot), dy_ D A s (wB cI cS h g Λ π (sg_a (sg_a (sg_a (sg_a Ω 1 (upd (Ω 1) ((((6 : Int32) * a10) + (5 : Int32))).toNatClampNeg (-1 : Int32))) 1 (upd (upd (Ω 1) ((((6 : Int32) * a10) + (5 : Int32))).toNatClampNeg (-1 : Int32)) (((6 : Int32) * ((Ω 4) ((7 : Int32)).toNatClampNeg))).toNatClampNeg (((upd (Ω 1) ((((6 : Int32) * a10) + (5 : Int32))).toNatClampNeg (-1 : Int32)) (((6 : Int32) * ((Ω 4) ((7 : Int32)).toNatClampNeg))).toNatClampNeg) + (2 : Int32)))) 1 (upd (upd (upd (Ω 1) ((((6 : Int32) * a10) + (5 : Int32))).toNatClampNeg (-1 : Int32)) (((6 : Int32) * ((Ω 4) ((7 : Int32)).toNatClampNeg))).toNatClampNeg (((upd (Ω 1) ((((6 : Int32) * a10) + (5 : Int32))).toNatClampNeg (-1 : Int32)) (((6 : Int32) * ((Ω 4) ((7 : Int32)).toNatClampNeg))).toNatClampNeg) + (2 : Int32))) ((((6 : Int32) * ((Ω 4) ((7 : Int32)).toNatClampNeg)) + (2 : Int32))).toNatClampNeg (((upd (upd (Ω 1) ((((6 : Int32) * a10) + (5 : Int32))).toNatClampNeg (-1 : Int32)) (((6 : Int32) * ((Ω 4) ((7 : Int32)).toNatClampNeg))).toNatClampNeg (((upd (Ω 1) ((((6 : Int32) * a10) + (5 : Int32))).toNatClampNeg (-1 : Int32)) (((6 : Int32) * ((Ω 4) ((7 : Int32)).toNatClampNeg))).toNatClampNeg) + (2 : Int32))) ((((6 : Int32) * ((Ω 4) ((7 : Int32)).toNatClampNeg)) + (2 : Int32))).toNatClampNeg) + (1 : Int32)))) 2 (upd (Ω 2) (q_4).toNatClampNeg (((Ω 2) (q_4).toNatClampNeg) + (1 : Int32))))) H locs → lv_has ls 18 [(0, .ref b), (1, .ref (h 8 0)), (2, .ref (g 1)), (3, .ref (g 2)), (4, .ref (g 3)), (5, .ref (g 4)), (6, .int a6), (10, .int a10), (11, .int (-10003 : Int32)), (13, .int q_4), (14, .int q_8), (15, .int q_12)] → W p l e room_1 s m #[Value.ref b] below meth c H locs 89 982 Q (F0 m 982 ls [.int q_68, .int ((2 : Int32) * q_4), .ref (g 3)]) := by
            intro H locs ls Y hl
            obtain ⟨b_71, hrun⟩ := o_xh hrun
            refine iw S hK Y 87 0 (f := (Ω 3)) rfl rfl b_71 (ws' := (wB cI cS h g Λ π (sg_a (sg_a (sg_a (sg_a (sg_a Ω 1 (upd (Ω 1) ((((6 : Int32) * a10) + (5 : Int32))).toNatClampNeg (-1 : Int32))) 1 (upd (upd (Ω 1) ((((6 : Int32) * a10) + (5 : Int32))).toNatClampNeg (-1 : Int32)) (((6 : Int32) * ((Ω 4) ((7 : Int32)).toNatClampNeg))).toNatClampNeg (((upd (Ω 1) ((((6 : Int32) * a10) + (5 : Int32))).toNatClampNeg (-1 : Int32)) (((6 : Int32) * ((Ω 4) ((7 : Int32)).toNatClampNeg))).toNatClampNeg) + (2 : Int32)))) 1 (upd (upd (upd (Ω 1) ((((6 : Int32) * a10) + (5 : Int32))).toNatClampNeg (-1 : Int32)) (((6 : Int32) * ((Ω 4) ((7 : Int32)).toNatClampNeg))).toNatClampNeg (((upd (Ω 1) ((((6 : Int32) * a10) + (5 : Int32))).toNatClampNeg (-1 : Int32)) (((6 : Int32) * ((Ω 4) ((7 : Int32)).toNatClampNeg))).toNatClampNeg) + (2 : Int32))) ((((6 : Int32) * ((Ω 4) ((7 : Int32)).toNatClampNeg)) + (2 : Int32))).toNatClampNeg (((upd (upd (Ω 1) ((((6 : Int32) * a10) + (5 : Int32))).toNatClampNeg (-1 : Int32)) (((6 : Int32) * ((Ω 4) ((7 : Int32)).toNatClampNeg))).toNatClampNeg (((upd (Ω 1) ((((6 : Int32) * a10) + (5 : Int32))).toNatClampNeg (-1 : Int32)) (((6 : Int32) * ((Ω 4) ((7 : Int32)).toNatClampNeg))).toNatClampNeg) + (2 : Int32))) ((((6 : Int32) * ((Ω 4) ((7 : Int32)).toNatClampNeg)) + (2 : Int32))).toNatClampNeg) + (1 : Int32)))) 2 (upd (Ω 2) (q_4).toNatClampNeg (((Ω 2) (q_4).toNatClampNeg) + (1 : Int32)))) 3 (upd (Ω 3) (((2 : Int32) * q_4)).toNatClampNeg q_68)))) (wB_a3 _ _ _ _ _ _) dL_law_982 (fun H locs Y => ?_)
            refine lv_goto (tgt := 1018) hx hb dL_law_983 (by decide) ?_
            cases hrun
            exact kx18 _ _ _ Y (lv_sub hl [0, 1, 2, 3, 4, 5, 6, 7, 8, 9, 10, 11] rfl)
          have hrun := e_69
          refine lv_icmp_lt (tgt := 975) hx hb dL_law_968 (by decide) (fun c_67 => ?_) (fun c_67 => ?_)
          · have hrun := o_t hrun c_67
            refine lv_aload hx hb dL_law_975 (lv_at hl 6 rfl) ?_
            refine lv_iconst (v := (2 : Int32)) hx hb dL_law_977 (by decide) ?_
            refine lv_iload hx hb dL_law_978 (lv_at hl 11 rfl) ?_
            refine lv_imul hx hb dL_law_980 ?_
            obtain ⟨b_72, hrun⟩ := o_xh hrun
            refine ia S hK Y 87 0 (f := (Ω 3)) rfl rfl b_72 dL_law_981 ?_
            cases hrun
            exact kx70 _ _ _ Y (lv_sub hl [2, 3, 4, 5, 6, 7, 8, 9, 10, 11, 12, 1] rfl)
          · have hrun := o_f hrun c_67
            refine lv_iconst (v := (1 : Int32)) hx hb dL_law_971 (by decide) ?_
            refine lv_goto (tgt := 982) hx hb dL_law_972 (by decide) ?_
            cases hrun
            exact kx70 _ _ _ Y (lv_sub hl [2, 3, 4, 5, 6, 7, 8, 9, 10, 11, 12, 1] rfl)
      have hrun := e_13
      refine lv_if_eq (tgt := 900) hx hb dL_law_879 (by decide) (fun c_11 => ?_) (fun c_11 => ?_)
      · have hrun := o_t hrun c_11
        refine lv_iconst (v := (0 : Int32)) hx hb dL_law_900 (by decide) ?_
        cases hrun
        exact kx14 _ _ _ Y (lv_sub hl [1, 2, 3, 4, 5, 6, 7, 8, 9, 10, 0] rfl)
      · have hrun := o_f hrun c_11
        refine lv_aload_n hx hb dL_law_882 rfl (lv_at hl 3 rfl) ?_
        refine lv_bipush (v := (6 : Int32)) hx hb dL_law_883 (by decide) ?_
        refine lv_iload hx hb dL_law_885 (lv_at hl 8 rfl) ?_
        refine lv_imul hx hb dL_law_887 ?_
        refine lv_iconst (v := (5 : Int32)) hx hb dL_law_888 (by decide) ?_
        refine lv_iadd hx hb dL_law_889 ?_
        obtain ⟨b_73, hrun⟩ := o_xh hrun
        refine ia S hK Y 85 0 (f := (Ω 1)) rfl rfl b_73 dL_law_890 ?_
        refine lv_iload hx hb dL_law_891 (lv_at hl 10 rfl) ?_
        refine lv_icmp_ne (tgt := 900) hx hb dL_law_893 (by decide) (fun c_74 => ?_) (fun c_74 => ?_)
        · have hrun := o_f hrun c_74
          refine lv_iconst (v := (0 : Int32)) hx hb dL_law_900 (by decide) ?_
          cases hrun
          exact kx14 _ _ _ Y (lv_sub hl [1, 2, 3, 4, 5, 6, 7, 8, 9, 10, 0] rfl)
        · have hrun := o_t hrun c_74
          refine lv_iconst (v := (1 : Int32)) hx hb dL_law_896 (by decide) ?_
          refine lv_goto (tgt := 901) hx hb dL_law_897 (by decide) ?_
          cases hrun
          exact kx14 _ _ _ Y (lv_sub hl [1, 2, 3, 4, 5, 6, 7, 8, 9, 10, 0] rfl)
    have hrun := e_9
    refine lv_icmp_eq (tgt := 874) hx hb dL_law_850 (by decide) (fun c_7 => ?_) (fun c_7 => ?_)
    · have hrun := o_t hrun c_7
      refine lv_iconst (v := (0 : Int32)) hx hb dL_law_874 (by decide) ?_
      cases hrun
      exact kx10 _ _ _ Y (lv_sub hl [1, 2, 3, 4, 5, 6, 7, 8, 9, 0] rfl)
    · have hrun := o_f hrun c_7
      refine lv_iload hx hb dL_law_853 (lv_at hl 0 rfl) ?_
      refine lv_aload hx hb dL_law_855 (lv_at hl 6 rfl) ?_
      refine lv_bipush (v := (9 : Int32)) hx hb dL_law_857 (by decide) ?_
      refine ia S hK Y 88 0 (f := (Ω 4)) rfl rfl (show ¬ ((9 : Int32) < 0 ∨ 11 ≤ ((9 : Int32)).toNatClampNeg) by decide) dL_law_859 ?_
      obtain ⟨r_75, e_76, hrun⟩ := o_bh hrun
      refine cp_s (As := [.int q_4, .int ((Ω 4) ((9 : Int32)).toNatClampNeg)]) (rest := []) S hK hA hZ Y hl.1 (mL_apart l D q_4 ((Ω 4) ((9 : Int32)).toNatClampNeg) r_75 e_76) kL_10 ⟨Nat.le_of_ble_eq_true rfl, Nat.le_of_ble_eq_true rfl⟩ rfl rfl (Nat.le_of_ble_eq_true rfl) ⟨Nat.le_of_ble_eq_true rfl, Nat.le_of_ble_eq_true rfl⟩ dL_law_860 (fun H locs Y => ?_)
      refine lv_aload hx hb dL_law_863 (lv_at hl 6 rfl) ?_
      refine lv_iconst (v := (0 : Int32)) hx hb dL_law_865 (by decide) ?_
      refine ia S hK Y 88 0 (f := (Ω 4)) rfl rfl (show ¬ ((0 : Int32) < 0 ∨ 11 ≤ ((0 : Int32)).toNatClampNeg) by decide) dL_law_866 ?_
      refine lv_icmp_gt (tgt := 874) hx hb dL_law_867 (by decide) (fun c_77 => ?_) (fun c_77 => ?_)
      · have hrun := o_t hrun c_77
        refine lv_iconst (v := (0 : Int32)) hx hb dL_law_874 (by decide) ?_
        cases hrun
        exact kx10 _ _ _ Y (lv_sub hl [1, 2, 3, 4, 5, 6, 7, 8, 9, 0] rfl)
      · have hrun := o_f hrun c_77
        refine lv_iconst (v := (1 : Int32)) hx hb dL_law_870 (by decide) ?_
        refine lv_goto (tgt := 875) hx hb dL_law_871 (by decide) ?_
        cases hrun
        exact kx10 _ _ _ Y (lv_sub hl [1, 2, 3, 4, 5, 6, 7, 8, 9, 0] rfl)
  have hrun := e_5
  refine lv_if_eq (tgt := 827) hx hb dL_law_812 (by decide) (fun c_3 => ?_) (fun c_3 => ?_)
  · have hrun := o_t hrun c_3
    refine lv_iload hx hb dL_law_827 (lv_at hl 8 rfl) ?_
    refine lv_goto (tgt := 841) hx hb dL_law_829 (by decide) ?_
    cases hrun
    exact kx6 _ _ _ Y (lv_sub hl [0, 1, 2, 3, 4, 5, 6, 9, 10] rfl)
  · have hrun := o_f hrun c_3
    refine lv_aload_n hx hb dL_law_815 rfl (lv_at hl 2 rfl) ?_
    refine lv_bipush (v := (6 : Int32)) hx hb dL_law_816 (by decide) ?_
    refine lv_iload hx hb dL_law_818 (lv_at hl 9 rfl) ?_
    refine lv_imul hx hb dL_law_820 ?_
    refine lv_iconst (v := (5 : Int32)) hx hb dL_law_821 (by decide) ?_
    refine lv_iadd hx hb dL_law_822 ?_
    obtain ⟨b_78, hrun⟩ := o_xh hrun
    refine ia S hK Y 85 0 (f := (Ω 1)) rfl rfl b_78 dL_law_823 ?_
    refine lv_if_ge (tgt := 832) hx hb dL_law_824 (by decide) (fun c_79 => ?_) (fun c_79 => ?_)
    · have hrun := o_t hrun c_79
      refine lv_aload_n hx hb dL_law_832 rfl (lv_at hl 2 rfl) ?_
      refine lv_bipush (v := (6 : Int32)) hx hb dL_law_833 (by decide) ?_
      refine lv_iload hx hb dL_law_835 (lv_at hl 9 rfl) ?_
      refine lv_imul hx hb dL_law_837 ?_
      refine lv_iconst (v := (5 : Int32)) hx hb dL_law_838 (by decide) ?_
      refine lv_iadd hx hb dL_law_839 ?_
      refine ia S hK Y 85 0 (f := (Ω 1)) rfl rfl b_78 dL_law_840 ?_
      cases hrun
      exact kx6 _ _ _ Y (lv_sub hl [0, 1, 2, 3, 4, 5, 6, 9, 10] rfl)
    · have hrun := o_f hrun c_79
      refine lv_iload hx hb dL_law_827 (lv_at hl 8 rfl) ?_
      refine lv_goto (tgt := 841) hx hb dL_law_829 (by decide) ?_
      cases hrun
      exact kx6 _ _ _ Y (lv_sub hl [0, 1, 2, 3, 4, 5, 6, 9, 10] rfl)
def bL_law_1186 (a6 : Int32) (a10 : Int32) (Λ : s3_T) (π : Nat → Nat) (Ω : sg_T) : Option (s3_T × (Nat → Nat) × sg_T) := (o_x (((6 : Int32) * a10) + (5 : Int32)) 48 ((if ((Ω 1) ((((6 : Int32) * a10) + (5 : Int32))).toNatClampNeg) ≤ 0 then (some (0 : Int32)) else (some (1 : Int32))).bind fun q_3 => ((if q_3 = 0 then (some (0 : Int32)) else ((fL_apart (0 : Int32) ((Ω 1) ((((6 : Int32) * a10) + (5 : Int32))).toNatClampNeg)).bind fun r_42 => ((fL_apart (0 : Int32) ((Ω 4) ((9 : Int32)).toNatClampNeg)).bind fun r_44 => (if r_44 ≤ r_42 then (some (0 : Int32)) else (some (1 : Int32)))))).bind fun q_7 => ((if q_7 = 0 then (some ((6 : Int32) * ((Ω 4) ((7 : Int32)).toNatClampNeg))) else (some ((6 : Int32) * a10))).bind fun q_11 => ((if q_3 = 0 then (some Ω) else (o_x q_11 48 ((if q_7 = 0 then (some (1 : Int32)) else (some (3 : Int32))).bind fun q_34 => ((if q_7 = 0 then (some (2 : Int32)) else (some (4 : Int32))).bind fun q_38 => (o_x (q_11 + q_38) 48 (some (sg_a (sg_a (sg_a Ω 1 (upd (Ω 1) ((((6 : Int32) * a10) + (5 : Int32))).toNatClampNeg (-1 : Int32))) 1 (upd (upd (Ω 1) ((((6 : Int32) * a10) + (5 : Int32))).toNatClampNeg (-1 : Int32)) (q_11).toNatClampNeg (((upd (Ω 1) ((((6 : Int32) * a10) + (5 : Int32))).toNatClampNeg (-1 : Int32)) (q_11).toNatClampNeg) + q_34))) 1 (upd (upd (upd (Ω 1) ((((6 : Int32) * a10) + (5 : Int32))).toNatClampNeg (-1 : Int32)) (q_11).toNatClampNeg (((upd (Ω 1) ((((6 : Int32) * a10) + (5 : Int32))).toNatClampNeg (-1 : Int32)) (q_11).toNatClampNeg) + q_34)) ((q_11 + q_38)).toNatClampNeg (((upd (upd (Ω 1) ((((6 : Int32) * a10) + (5 : Int32))).toNatClampNeg (-1 : Int32)) (q_11).toNatClampNeg (((upd (Ω 1) ((((6 : Int32) * a10) + (5 : Int32))).toNatClampNeg (-1 : Int32)) (q_11).toNatClampNeg) + q_34)) ((q_11 + q_38)).toNatClampNeg) + (1 : Int32)))))))))).bind fun q_15 => ((fX7_dash a10 Λ π).bind fun q_18 => ((if q_3 = 0 then (some (-10003 : Int32)) else (if q_7 = 0 then (some (0 : Int32)) else (some (1 : Int32)))).bind fun q_21 => (if q_18.1 = q_21 then (if q_3 = 0 then (some (q_18.2.1, q_18.2.2, q_15)) else ((fL_hidden q_15).bind fun r_26 => (if r_26 = 0 then ((fL_end q_15).bind fun Ω29 => (some (q_18.2.1, q_18.2.2, Ω29))) else (some (q_18.2.1, q_18.2.2, q_15))))) else none))))))))
set_option maxRecDepth 100000 in
set_option maxHeartbeats 16000000 in
theorem kL_law_1186 {p : Program} {l : Launch} {e : Env} {s : State} {m : MethodId} {below : List Frame} {meth : Method} {c : Code} {Q : State → Prop} {D : va_G} {A : Nat → Prop} {cI cS : ClassId} {b : Nat} {h : Nat → Nat → Nat} {g : Nat → Nat} (S : CallFix p m c code 18 s #[Value.ref b] (Cond.tt :: uw_) RL) (hK : va_K D vwCl (tL cI cS) s) (hA : ∀ q, s.heap.size ≤ q → A q) (hZ : zs_ A s) (a6 : Int32) (a10 : Int32) (Λ : s3_T) (π : Nat → Nat) (Ω : sg_T) (q_b : s3_T × (Nat → Nat) × sg_T) (hrun : bL_law_1186 a6 a10 Λ π Ω = some q_b) (kx : ∀ (H : Heap) (locs : List Loc) (ls : Array Slot), dy_ D A s (wB cI cS h g q_b.1 q_b.2.1 q_b.2.2) H locs → lv_has ls 18 [(0, .ref b), (1, .ref (h 8 0)), (2, .ref (g 1)), (3, .ref (g 2)), (4, .ref (g 3)), (5, .ref (g 4)), (6, .int a6), (12, .int (1 : Int32))] → W p l e room_1 s m #[Value.ref b] below meth c H locs 89 982 Q (F0 m 1373 ls [])) : ∀ (H : Heap) (locs : List Loc) (ls : Array Slot), dy_ D A s (wB cI cS h g Λ π Ω) H locs → lv_has ls 18 [(0, .ref b), (1, .ref (h 8 0)), (2, .ref (g 1)), (3, .ref (g 2)), (4, .ref (g 3)), (5, .ref (g 4)), (6, .int a6), (10, .int a10), (11, .int (-10003 : Int32))] → W p l e room_1 s m #[Value.ref b] below meth c H locs 89 982 Q (F0 m 1186 ls []) := by
  have hx := S.1
  have hb := S.2.1
  intro H locs ls Y hl
  unfold bL_law_1186 at hrun
  refine lv_aload_n hx hb dL_law_1186 rfl (lv_at hl 2 rfl) ?_
  refine lv_bipush (v := (6 : Int32)) hx hb dL_law_1187 (by decide) ?_
  refine lv_iload hx hb dL_law_1189 (lv_at hl 7 rfl) ?_
  refine lv_imul hx hb dL_law_1191 ?_
  refine lv_iconst (v := (5 : Int32)) hx hb dL_law_1192 (by decide) ?_
  refine lv_iadd hx hb dL_law_1193 ?_
  obtain ⟨b_1, hrun⟩ := o_xh hrun
  refine ia S hK Y 85 0 (f := (Ω 1)) rfl rfl b_1 dL_law_1194 ?_
  obtain ⟨q_3, e_4, hrun⟩ := o_bh hrun
  have kx5 : ∀ (H : Heap) (locs : List Loc) (ls : Array Slot), dy_ D A s (wB cI cS h g Λ π Ω) H locs → lv_has ls 18 [(0, .ref b), (1, .ref (h 8 0)), (2, .ref (g 1)), (3, .ref (g 2)), (4, .ref (g 3)), (5, .ref (g 4)), (6, .int a6), (10, .int a10), (11, .int (-10003 : Int32))] → W p l e room_1 s m #[Value.ref b] below meth c H locs 89 982 Q (F0 m 1203 ls [.int q_3]) := by
    intro H locs ls Y hl
    refine lv_istore (lv' := [(13, .int q_3), (0, .ref b), (1, .ref (h 8 0)), (2, .ref (g 1)), (3, .ref (g 2)), (4, .ref (g 3)), (5, .ref (g 4)), (6, .int a6), (10, .int a10), (11, .int (-10003 : Int32))]) hx hb dL_law_1203 hl (Nat.le_of_ble_eq_true rfl) rfl (fun ls hl => ?_)
    refine lv_iload hx hb dL_law_1205 (lv_at hl 0 rfl) ?_
    obtain ⟨q_7, e_8, hrun⟩ := o_bh hrun
    have kx9 : ∀ (H : Heap) (locs : List Loc) (ls : Array Slot), dy_ D A s (wB cI cS h g Λ π Ω) H locs → lv_has ls 18 [(0, .ref b), (1, .ref (h 8 0)), (2, .ref (g 1)), (3, .ref (g 2)), (4, .ref (g 3)), (5, .ref (g 4)), (6, .int a6), (10, .int a10), (11, .int (-10003 : Int32)), (13, .int q_3)] → W p l e room_1 s m #[Value.ref b] below meth c H locs 89 982 Q (F0 m 1240 ls [.int q_7]) := by
      intro H locs ls Y hl
      refine lv_istore (lv' := [(14, .int q_7), (0, .ref b), (1, .ref (h 8 0)), (2, .ref (g 1)), (3, .ref (g 2)), (4, .ref (g 3)), (5, .ref (g 4)), (6, .int a6), (10, .int a10), (11, .int (-10003 : Int32)), (13, .int q_3)]) hx hb dL_law_1240 hl (Nat.le_of_ble_eq_true rfl) rfl (fun ls hl => ?_)
      refine lv_iload hx hb dL_law_1242 (lv_at hl 0 rfl) ?_
      obtain ⟨q_11, e_12, hrun⟩ := o_bh hrun
      have kx13 : ∀ (H : Heap) (locs : List Loc) (ls : Array Slot), dy_ D A s (wB cI cS h g Λ π Ω) H locs → lv_has ls 18 [(0, .ref b), (1, .ref (h 8 0)), (2, .ref (g 1)), (3, .ref (g 2)), (4, .ref (g 3)), (5, .ref (g 4)), (6, .int a6), (10, .int a10), (11, .int (-10003 : Int32)), (13, .int q_3), (14, .int q_7)] → W p l e room_1 s m #[Value.ref b] below meth c H locs 89 982 Q (F0 m 1263 ls [.int q_11]) := by
        intro H locs ls Y hl
        refine lv_istore (lv' := [(15, .int q_11), (0, .ref b), (1, .ref (h 8 0)), (2, .ref (g 1)), (3, .ref (g 2)), (4, .ref (g 3)), (5, .ref (g 4)), (6, .int a6), (10, .int a10), (11, .int (-10003 : Int32)), (13, .int q_3), (14, .int q_7)]) hx hb dL_law_1263 hl (Nat.le_of_ble_eq_true rfl) rfl (fun ls hl => ?_)
        refine lv_iload hx hb dL_law_1265 (lv_at hl 10 rfl) ?_
        obtain ⟨q_15, e_16, hrun⟩ := o_bh hrun
        have kx17 : ∀ (H : Heap) (locs : List Loc) (ls : Array Slot), dy_ D A s (wB cI cS h g Λ π q_15) H locs → lv_has ls 18 [(0, .ref b), (1, .ref (h 8 0)), (2, .ref (g 1)), (3, .ref (g 2)), (4, .ref (g 3)), (5, .ref (g 4)), (6, .int a6), (10, .int a10), (11, .int (-10003 : Int32)), (13, .int q_3), (14, .int q_7)] → W p l e room_1 s m #[Value.ref b] below meth c H locs 89 982 Q (F0 m 1316 ls []) := by
          intro H locs ls Y hl
          refine lv_aload_n hx hb dL_law_1316 rfl (lv_at hl 1 rfl) ?_
          refine lv_iload hx hb dL_law_1317 (lv_at hl 7 rfl) ?_
          obtain ⟨q_18, e_19, hrun⟩ := o_bh hrun
          refine cg_v (it := [0, 1]) (ws2 := (wB cI cS h g q_18.2.1 q_18.2.2 q_15)) (As := [.int a10]) (rest := []) S hK hA hZ Y hl.1 (mX7_dash l D cI cS h Λ π a10 q_18.1 q_18.2.1 q_18.2.2 e_19) (cBLC h g Λ π q_15) (cBQC h g Λ π q_15) nBL nBQ dBL (cBLP h g Λ π q_15 q_18.2.1 q_18.2.2) nPL rfl kL_105 (T := TX7) (N := 5) rfl (q0 := 0) rfl ⟨Nat.le_of_ble_eq_true rfl, Nat.le_of_ble_eq_true rfl⟩ rfl rfl (Nat.le_of_ble_eq_true rfl) ⟨Nat.le_of_ble_eq_true rfl, Nat.le_of_ble_eq_true rfl⟩ dL_law_1319 (fun H locs Y => ?_)
          refine lv_iload hx hb dL_law_1322 (lv_at hl 9 rfl) ?_
          obtain ⟨q_21, e_22, hrun⟩ := o_bh hrun
          have kx23 : ∀ (H : Heap) (locs : List Loc) (ls : Array Slot), dy_ D A s (wB cI cS h g q_18.2.1 q_18.2.2 q_15) H locs → lv_has ls 18 [(0, .ref b), (1, .ref (h 8 0)), (2, .ref (g 1)), (3, .ref (g 2)), (4, .ref (g 3)), (5, .ref (g 4)), (6, .int a6), (13, .int q_3)] → W p l e room_1 s m #[Value.ref b] below meth c H locs 89 982 Q (F0 m 1342 ls [.int q_21, .int q_18.1]) := by
            intro H locs ls Y hl
            refine lv_icmp_ne (tgt := 1349) hx hb dL_law_1342 (by decide) (fun c_24 => ?_) (fun c_24 => ?_)
            · have hrun := o_f hrun c_24
              cases hrun
            · have hrun := o_t hrun c_24
              refine lv_iconst (v := (1 : Int32)) hx hb dL_law_1345 (by decide) ?_
              refine lv_goto (tgt := 1350) hx hb dL_law_1346 (by decide) ?_
              refine lv_istore (lv' := [(12, .int (1 : Int32)), (0, .ref b), (1, .ref (h 8 0)), (2, .ref (g 1)), (3, .ref (g 2)), (4, .ref (g 3)), (5, .ref (g 4)), (6, .int a6), (13, .int q_3)]) hx hb dL_law_1350 hl (Nat.le_of_ble_eq_true rfl) rfl (fun ls hl => ?_)
              refine lv_iload hx hb dL_law_1352 (lv_at hl 8 rfl) ?_
              refine lv_if_eq (tgt := 1373) hx hb dL_law_1354 (by decide) (fun c_25 => ?_) (fun c_25 => ?_)
              · have hrun := o_t hrun c_25
                cases hrun
                exact kx _ _ _ Y (lv_sub hl [1, 2, 3, 4, 5, 6, 7, 0] rfl)
              · have hrun := o_f hrun c_25
                refine lv_aload_n hx hb dL_law_1357 rfl (lv_at hl 3 rfl) ?_
                obtain ⟨r_26, e_27, hrun⟩ := o_bh hrun
                refine cg_s (it := [0]) (ws2 := (wB cI cS h g q_18.2.1 q_18.2.2 q_15)) (As := [.ref (g 1)]) (rest := []) S hK hA hZ Y hl.1 (mL_hidden l D cI g q_15 r_26 e_27) (cBQC h g q_18.2.1 q_18.2.2 q_15) (cBLC h g q_18.2.1 q_18.2.2 q_15) nBQ nBL dBQ (cBQP h g q_18.2.1 q_18.2.2 q_15 q_15) nPQ rfl kL_66 ⟨Nat.le_of_ble_eq_true rfl, Nat.le_of_ble_eq_true rfl⟩ rfl rfl (Nat.le_of_ble_eq_true rfl) ⟨Nat.le_of_ble_eq_true rfl, Nat.le_of_ble_eq_true rfl⟩ dL_law_1358 (fun H locs Y => ?_)
                refine lv_if_ne (tgt := 1373) hx hb dL_law_1361 (by decide) (fun c_28 => ?_) (fun c_28 => ?_)
                · have hrun := o_f hrun c_28
                  cases hrun
                  exact kx _ _ _ Y (lv_sub hl [1, 2, 3, 4, 5, 6, 7, 0] rfl)
                · have hrun := o_t hrun c_28
                  refine lv_aload_n hx hb dL_law_1364 rfl (lv_at hl 3 rfl) ?_
                  refine lv_aload_n hx hb dL_law_1365 rfl (lv_at hl 4 rfl) ?_
                  refine lv_aload hx hb dL_law_1366 (lv_at hl 5 rfl) ?_
                  refine lv_aload hx hb dL_law_1368 (lv_at hl 6 rfl) ?_
                  obtain ⟨Ω29, e_30, hrun⟩ := o_bh hrun
                  refine cg_sv (it := [0]) (ws2 := (wB cI cS h g q_18.2.1 q_18.2.2 Ω29)) (As := [.ref (g 1), .ref (g 2), .ref (g 3), .ref (g 4)]) (rest := []) S hK hA hZ Y hl.1 (mL_end l D cI g q_15 Ω29 e_30) (cBQC h g q_18.2.1 q_18.2.2 q_15) (cBLC h g q_18.2.1 q_18.2.2 q_15) nBQ nBL dBQ (cBQP h g q_18.2.1 q_18.2.2 q_15 Ω29) nPQ rfl kL_98 ⟨Nat.le_of_ble_eq_true rfl, Nat.le_of_ble_eq_true rfl⟩ rfl rfl (Nat.le_of_ble_eq_true rfl) ⟨Nat.le_of_ble_eq_true rfl, Nat.le_of_ble_eq_true rfl⟩ dL_law_1370 (fun H locs Y => ?_)
                  cases hrun
                  exact kx _ _ _ Y (lv_sub hl [1, 2, 3, 4, 5, 6, 7, 0] rfl)
          have hrun := e_22
          refine lv_if_ne (tgt := 1332) hx hb dL_law_1324 (by decide) (fun c_20 => ?_) (fun c_20 => ?_)
          · have hrun := o_f hrun c_20
            refine lv_iload hx hb dL_law_1332 (lv_at hl 10 rfl) ?_
            refine lv_if_eq (tgt := 1341) hx hb dL_law_1334 (by decide) (fun c_31 => ?_) (fun c_31 => ?_)
            · have hrun := o_t hrun c_31
              refine lv_iconst (v := (0 : Int32)) hx hb dL_law_1341 (by decide) ?_
              cases hrun
              exact kx23 _ _ _ Y (lv_sub hl [0, 1, 2, 3, 4, 5, 6, 9] rfl)
            · have hrun := o_f hrun c_31
              refine lv_iconst (v := (1 : Int32)) hx hb dL_law_1337 (by decide) ?_
              refine lv_goto (tgt := 1342) hx hb dL_law_1338 (by decide) ?_
              cases hrun
              exact kx23 _ _ _ Y (lv_sub hl [0, 1, 2, 3, 4, 5, 6, 9] rfl)
          · have hrun := o_t hrun c_20
            refine lv_iload hx hb dL_law_1327 (lv_at hl 8 rfl) ?_
            refine lv_goto (tgt := 1342) hx hb dL_law_1329 (by decide) ?_
            cases hrun
            exact kx23 _ _ _ Y (lv_sub hl [0, 1, 2, 3, 4, 5, 6, 9] rfl)
        have hrun := e_16
        refine lv_if_eq (tgt := 1316) hx hb dL_law_1267 (by decide) (fun c_14 => ?_) (fun c_14 => ?_)
        · have hrun := o_t hrun c_14
          cases hrun
          exact kx17 _ _ _ Y (lv_sub hl [1, 2, 3, 4, 5, 6, 7, 8, 9, 10, 11] rfl)
        · have hrun := o_f hrun c_14
          refine lv_aload_n hx hb dL_law_1270 rfl (lv_at hl 3 rfl) ?_
          refine lv_bipush (v := (6 : Int32)) hx hb dL_law_1271 (by decide) ?_
          refine lv_iload hx hb dL_law_1273 (lv_at hl 8 rfl) ?_
          refine lv_imul hx hb dL_law_1275 ?_
          refine lv_iconst (v := (5 : Int32)) hx hb dL_law_1276 (by decide) ?_
          refine lv_iadd hx hb dL_law_1277 ?_
          refine lv_iconst (v := (-1 : Int32)) hx hb dL_law_1278 (by decide) ?_
          refine iw S hK Y 85 0 (f := (Ω 1)) rfl rfl b_1 (ws' := (wB cI cS h g Λ π (sg_a Ω 1 (upd (Ω 1) ((((6 : Int32) * a10) + (5 : Int32))).toNatClampNeg (-1 : Int32))))) (wB_a1 _ _ _ _ _ _) dL_law_1279 (fun H locs Y => ?_)
          refine lv_aload_n hx hb dL_law_1280 rfl (lv_at hl 3 rfl) ?_
          refine lv_iload hx hb dL_law_1281 (lv_at hl 0 rfl) ?_
          refine lv_dup2_11 hx hb dL_law_1283 rfl rfl ?_
          obtain ⟨b_32, hrun⟩ := o_xh hrun
          refine ia S hK Y 85 0 (f := (upd (Ω 1) ((((6 : Int32) * a10) + (5 : Int32))).toNatClampNeg (-1 : Int32))) rfl rfl b_32 dL_law_1284 ?_
          refine lv_iload hx hb dL_law_1285 (lv_at hl 11 rfl) ?_
          obtain ⟨q_34, e_35, hrun⟩ := o_bh hrun
          have kx36 : ∀ (H : Heap) (locs : List Loc) (ls : Array Slot), dy_ D A s (wB cI cS h g Λ π (sg_a Ω 1 (upd (Ω 1) ((((6 : Int32) * a10) + (5 : Int32))).toNatClampNeg (-1 : Int32)))) H locs → lv_has ls 18 [(0, .ref b), (1, .ref (h 8 0)), (2, .ref (g 1)), (3, .ref (g 2)), (4, .ref (g 3)), (5, .ref (g 4)), (6, .int a6), (10, .int a10), (11, .int (-10003 : Int32)), (13, .int q_3), (14, .int q_7), (15, .int q_11)] → W p l e room_1 s m #[Value.ref b] below meth c H locs 89 982 Q (F0 m 1295 ls [.int q_34, .int ((upd (Ω 1) ((((6 : Int32) * a10) + (5 : Int32))).toNatClampNeg (-1 : Int32)) (q_11).toNatClampNeg), .int q_11, .ref (g 1)]) := by
            intro H locs ls Y hl
            refine lv_iadd hx hb dL_law_1295 ?_
            refine iw S hK Y 85 0 (f := (upd (Ω 1) ((((6 : Int32) * a10) + (5 : Int32))).toNatClampNeg (-1 : Int32))) rfl rfl b_32 (ws' := (wB cI cS h g Λ π (sg_a (sg_a Ω 1 (upd (Ω 1) ((((6 : Int32) * a10) + (5 : Int32))).toNatClampNeg (-1 : Int32))) 1 (upd (upd (Ω 1) ((((6 : Int32) * a10) + (5 : Int32))).toNatClampNeg (-1 : Int32)) (q_11).toNatClampNeg (((upd (Ω 1) ((((6 : Int32) * a10) + (5 : Int32))).toNatClampNeg (-1 : Int32)) (q_11).toNatClampNeg) + q_34))))) (wB_a1 _ _ _ _ _ _) dL_law_1296 (fun H locs Y => ?_)
            refine lv_aload_n hx hb dL_law_1297 rfl (lv_at hl 2 rfl) ?_
            refine lv_iload hx hb dL_law_1298 (lv_at hl 11 rfl) ?_
            refine lv_iload hx hb dL_law_1300 (lv_at hl 10 rfl) ?_
            obtain ⟨q_38, e_39, hrun⟩ := o_bh hrun
            have kx40 : ∀ (H : Heap) (locs : List Loc) (ls : Array Slot), dy_ D A s (wB cI cS h g Λ π (sg_a (sg_a Ω 1 (upd (Ω 1) ((((6 : Int32) * a10) + (5 : Int32))).toNatClampNeg (-1 : Int32))) 1 (upd (upd (Ω 1) ((((6 : Int32) * a10) + (5 : Int32))).toNatClampNeg (-1 : Int32)) (q_11).toNatClampNeg (((upd (Ω 1) ((((6 : Int32) * a10) + (5 : Int32))).toNatClampNeg (-1 : Int32)) (q_11).toNatClampNeg) + q_34)))) H locs → lv_has ls 18 [(0, .ref b), (1, .ref (h 8 0)), (2, .ref (g 1)), (3, .ref (g 2)), (4, .ref (g 3)), (5, .ref (g 4)), (6, .int a6), (10, .int a10), (11, .int (-10003 : Int32)), (13, .int q_3), (14, .int q_7)] → W p l e room_1 s m #[Value.ref b] below meth c H locs 89 982 Q (F0 m 1310 ls [.int q_38, .int q_11, .ref (g 1)]) := by
              intro H locs ls Y hl
              refine lv_iadd hx hb dL_law_1310 ?_
              refine lv_dup2_11 hx hb dL_law_1311 rfl rfl ?_
              obtain ⟨b_41, hrun⟩ := o_xh hrun
              refine ia S hK Y 85 0 (f := (upd (upd (Ω 1) ((((6 : Int32) * a10) + (5 : Int32))).toNatClampNeg (-1 : Int32)) (q_11).toNatClampNeg (((upd (Ω 1) ((((6 : Int32) * a10) + (5 : Int32))).toNatClampNeg (-1 : Int32)) (q_11).toNatClampNeg) + q_34))) rfl rfl b_41 dL_law_1312 ?_
              refine lv_iconst (v := (1 : Int32)) hx hb dL_law_1313 (by decide) ?_
              refine lv_iadd hx hb dL_law_1314 ?_
              refine iw S hK Y 85 0 (f := (upd (upd (Ω 1) ((((6 : Int32) * a10) + (5 : Int32))).toNatClampNeg (-1 : Int32)) (q_11).toNatClampNeg (((upd (Ω 1) ((((6 : Int32) * a10) + (5 : Int32))).toNatClampNeg (-1 : Int32)) (q_11).toNatClampNeg) + q_34))) rfl rfl b_41 (ws' := (wB cI cS h g Λ π (sg_a (sg_a (sg_a Ω 1 (upd (Ω 1) ((((6 : Int32) * a10) + (5 : Int32))).toNatClampNeg (-1 : Int32))) 1 (upd (upd (Ω 1) ((((6 : Int32) * a10) + (5 : Int32))).toNatClampNeg (-1 : Int32)) (q_11).toNatClampNeg (((upd (Ω 1) ((((6 : Int32) * a10) + (5 : Int32))).toNatClampNeg (-1 : Int32)) (q_11).toNatClampNeg) + q_34))) 1 (upd (upd (upd (Ω 1) ((((6 : Int32) * a10) + (5 : Int32))).toNatClampNeg (-1 : Int32)) (q_11).toNatClampNeg (((upd (Ω 1) ((((6 : Int32) * a10) + (5 : Int32))).toNatClampNeg (-1 : Int32)) (q_11).toNatClampNeg) + q_34)) ((q_11 + q_38)).toNatClampNeg (((upd (upd (Ω 1) ((((6 : Int32) * a10) + (5 : Int32))).toNatClampNeg (-1 : Int32)) (q_11).toNatClampNeg (((upd (Ω 1) ((((6 : Int32) * a10) + (5 : Int32))).toNatClampNeg (-1 : Int32)) (q_11).toNatClampNeg) + q_34)) ((q_11 + q_38)).toNatClampNeg) + (1 : Int32)))))) (wB_a1 _ _ _ _ _ _) dL_law_1315 (fun H locs Y => ?_)
              cases hrun
              exact kx17 _ _ _ Y (lv_sub hl [0, 1, 2, 3, 4, 5, 6, 7, 8, 9, 10] rfl)
            have hrun := e_39
            refine lv_if_eq (tgt := 1309) hx hb dL_law_1302 (by decide) (fun c_37 => ?_) (fun c_37 => ?_)
            · have hrun := o_t hrun c_37
              refine lv_iconst (v := (2 : Int32)) hx hb dL_law_1309 (by decide) ?_
              cases hrun
              exact kx40 _ _ _ Y (lv_sub hl [0, 1, 2, 3, 4, 5, 6, 7, 8, 9, 10] rfl)
            · have hrun := o_f hrun c_37
              refine lv_iconst (v := (4 : Int32)) hx hb dL_law_1305 (by decide) ?_
              refine lv_goto (tgt := 1310) hx hb dL_law_1306 (by decide) ?_
              cases hrun
              exact kx40 _ _ _ Y (lv_sub hl [0, 1, 2, 3, 4, 5, 6, 7, 8, 9, 10] rfl)
          have hrun := e_35
          refine lv_if_eq (tgt := 1294) hx hb dL_law_1287 (by decide) (fun c_33 => ?_) (fun c_33 => ?_)
          · have hrun := o_t hrun c_33
            refine lv_iconst (v := (1 : Int32)) hx hb dL_law_1294 (by decide) ?_
            cases hrun
            exact kx36 _ _ _ Y (lv_sub hl [1, 2, 3, 4, 5, 6, 7, 8, 9, 10, 11, 0] rfl)
          · have hrun := o_f hrun c_33
            refine lv_iconst (v := (3 : Int32)) hx hb dL_law_1290 (by decide) ?_
            refine lv_goto (tgt := 1295) hx hb dL_law_1291 (by decide) ?_
            cases hrun
            exact kx36 _ _ _ Y (lv_sub hl [1, 2, 3, 4, 5, 6, 7, 8, 9, 10, 11, 0] rfl)
      have hrun := e_12
      refine lv_if_eq (tgt := 1255) hx hb dL_law_1244 (by decide) (fun c_10 => ?_) (fun c_10 => ?_)
      · have hrun := o_t hrun c_10
        refine lv_bipush (v := (6 : Int32)) hx hb dL_law_1255 (by decide) ?_
        refine lv_aload hx hb dL_law_1257 (lv_at hl 6 rfl) ?_
        refine lv_bipush (v := (7 : Int32)) hx hb dL_law_1259 (by decide) ?_
        refine ia S hK Y 88 0 (f := (Ω 4)) rfl rfl (show ¬ ((7 : Int32) < 0 ∨ 11 ≤ ((7 : Int32)).toNatClampNeg) by decide) dL_law_1261 ?_
        refine lv_imul hx hb dL_law_1262 ?_
        cases hrun
        exact kx13 _ _ _ Y (lv_sub hl [1, 2, 3, 4, 5, 6, 7, 8, 9, 10, 0] rfl)
      · have hrun := o_f hrun c_10
        refine lv_bipush (v := (6 : Int32)) hx hb dL_law_1247 (by decide) ?_
        refine lv_iload hx hb dL_law_1249 (lv_at hl 8 rfl) ?_
        refine lv_imul hx hb dL_law_1251 ?_
        refine lv_goto (tgt := 1263) hx hb dL_law_1252 (by decide) ?_
        cases hrun
        exact kx13 _ _ _ Y (lv_sub hl [1, 2, 3, 4, 5, 6, 7, 8, 9, 10, 0] rfl)
    have hrun := e_8
    refine lv_if_eq (tgt := 1239) hx hb dL_law_1207 (by decide) (fun c_6 => ?_) (fun c_6 => ?_)
    · have hrun := o_t hrun c_6
      refine lv_iconst (v := (0 : Int32)) hx hb dL_law_1239 (by decide) ?_
      cases hrun
      exact kx9 _ _ _ Y (lv_sub hl [1, 2, 3, 4, 5, 6, 7, 8, 9, 0] rfl)
    · have hrun := o_f hrun c_6
      refine lv_iconst (v := (0 : Int32)) hx hb dL_law_1210 (by decide) ?_
      refine lv_aload_n hx hb dL_law_1211 rfl (lv_at hl 3 rfl) ?_
      refine lv_bipush (v := (6 : Int32)) hx hb dL_law_1212 (by decide) ?_
      refine lv_iload hx hb dL_law_1214 (lv_at hl 8 rfl) ?_
      refine lv_imul hx hb dL_law_1216 ?_
      refine lv_iconst (v := (5 : Int32)) hx hb dL_law_1217 (by decide) ?_
      refine lv_iadd hx hb dL_law_1218 ?_
      refine ia S hK Y 85 0 (f := (Ω 1)) rfl rfl b_1 dL_law_1219 ?_
      obtain ⟨r_42, e_43, hrun⟩ := o_bh hrun
      refine cp_s (As := [.int (0 : Int32), .int ((Ω 1) ((((6 : Int32) * a10) + (5 : Int32))).toNatClampNeg)]) (rest := []) S hK hA hZ Y hl.1 (mL_apart l D (0 : Int32) ((Ω 1) ((((6 : Int32) * a10) + (5 : Int32))).toNatClampNeg) r_42 e_43) kL_10 ⟨Nat.le_of_ble_eq_true rfl, Nat.le_of_ble_eq_true rfl⟩ rfl rfl (Nat.le_of_ble_eq_true rfl) ⟨Nat.le_of_ble_eq_true rfl, Nat.le_of_ble_eq_true rfl⟩ dL_law_1220 (fun H locs Y => ?_)
      refine lv_iconst (v := (0 : Int32)) hx hb dL_law_1223 (by decide) ?_
      refine lv_aload hx hb dL_law_1224 (lv_at hl 6 rfl) ?_
      refine lv_bipush (v := (9 : Int32)) hx hb dL_law_1226 (by decide) ?_
      refine ia S hK Y 88 0 (f := (Ω 4)) rfl rfl (show ¬ ((9 : Int32) < 0 ∨ 11 ≤ ((9 : Int32)).toNatClampNeg) by decide) dL_law_1228 ?_
      obtain ⟨r_44, e_45, hrun⟩ := o_bh hrun
      refine cp_s (As := [.int (0 : Int32), .int ((Ω 4) ((9 : Int32)).toNatClampNeg)]) (rest := [.int r_42]) S hK hA hZ Y hl.1 (mL_apart l D (0 : Int32) ((Ω 4) ((9 : Int32)).toNatClampNeg) r_44 e_45) kL_10 ⟨Nat.le_of_ble_eq_true rfl, Nat.le_of_ble_eq_true rfl⟩ rfl rfl (Nat.le_of_ble_eq_true rfl) ⟨Nat.le_of_ble_eq_true rfl, Nat.le_of_ble_eq_true rfl⟩ dL_law_1229 (fun H locs Y => ?_)
      refine lv_icmp_ge (tgt := 1239) hx hb dL_law_1232 (by decide) (fun c_46 => ?_) (fun c_46 => ?_)
      · have hrun := o_t hrun c_46
        refine lv_iconst (v := (0 : Int32)) hx hb dL_law_1239 (by decide) ?_
        cases hrun
        exact kx9 _ _ _ Y (lv_sub hl [1, 2, 3, 4, 5, 6, 7, 8, 9, 0] rfl)
      · have hrun := o_f hrun c_46
        refine lv_iconst (v := (1 : Int32)) hx hb dL_law_1235 (by decide) ?_
        refine lv_goto (tgt := 1240) hx hb dL_law_1236 (by decide) ?_
        cases hrun
        exact kx9 _ _ _ Y (lv_sub hl [1, 2, 3, 4, 5, 6, 7, 8, 9, 0] rfl)
  have hrun := e_4
  refine lv_if_le (tgt := 1202) hx hb dL_law_1195 (by decide) (fun c_2 => ?_) (fun c_2 => ?_)
  · have hrun := o_t hrun c_2
    refine lv_iconst (v := (0 : Int32)) hx hb dL_law_1202 (by decide) ?_
    cases hrun
    exact kx5 _ _ _ Y (lv_sub hl [0, 1, 2, 3, 4, 5, 6, 7, 8] rfl)
  · have hrun := o_f hrun c_2
    refine lv_iconst (v := (1 : Int32)) hx hb dL_law_1198 (by decide) ?_
    refine lv_goto (tgt := 1203) hx hb dL_law_1199 (by decide) ?_
    cases hrun
    exact kx5 _ _ _ Y (lv_sub hl [0, 1, 2, 3, 4, 5, 6, 7, 8] rfl)
def bL_law_94 (a6 : Int32) (a7 : Int32) (Λ : s3_T) (π : Nat → Nat) (Ω : sg_T) : Option (s3_T × (Nat → Nat) × sg_T) := ((fL_low a7 (20 : Int32)).bind fun r_1 => ((fL_low (a7 >>> ((25 : Int32) &&& 31)) (2 : Int32)).bind fun r_3 => ((if r_3 = 0 then (some (16 : Int32)) else (some (5 : Int32))).bind fun q_6 => ((fL_low (a7 >>> ((5 : Int32) &&& 31)) q_6).bind fun r_9 => ((if ((Ω 4) ((4 : Int32)).toNatClampNeg) = 0 then (some (1 : Int32)) else (some ((Ω 4) ((4 : Int32)).toNatClampNeg))).bind fun q_12 => ((fL_low (a7 >>> ((9 : Int32) &&& 31)) q_12).bind fun r_15 => ((if a6 < (3 : Int32) then ((bL_law_182 a6 Λ π Ω).bind fun q_24 => (some (q_24.1, q_24.2.1, q_24.2.2))) else (if r_1 = 0 then (if ((Ω 4) ((6 : Int32)).toNatClampNeg) = 0 then ((bL_law_182 a6 Λ π Ω).bind fun q_62 => (some (q_62.1, q_62.2.1, q_62.2.2))) else (if ((Ω 4) ((6 : Int32)).toNatClampNeg) = (1 : Int32) then (if (15 : Int32) ≤ r_1 then ((bL_law_688 a6 Λ π Ω).bind fun q_58 => (some (q_58.1, q_58.2.1, q_58.2.2))) else ((bL_law_537 a6 r_9 r_15 Λ π Ω).bind fun q_60 => (some (q_60.1, q_60.2.1, q_60.2.2)))) else (if (7 : Int32) ≤ r_1 then (if (16 : Int32) ≤ r_1 then ((bL_law_1186 a6 r_15 Λ π Ω).bind fun q_51 => (some (q_51.1, q_51.2.1, q_51.2.2))) else ((bL_law_803 a6 a7 r_9 r_15 Λ π Ω).bind fun q_53 => (some (q_53.1, q_53.2.1, q_53.2.2)))) else ((bL_law_740 a6 a7 Λ π Ω).bind fun q_55 => (some (q_55.1, q_55.2.1, q_55.2.2)))))) else (if r_1 = (1 : Int32) then ((bL_law_253 a6 a7 Λ π Ω).bind fun q_45 => (some (q_45.1, q_45.2.1, q_45.2.2))) else (if ((Ω 4) ((6 : Int32)).toNatClampNeg) = 0 then ((bL_law_364 a6 a7 r_15 Λ π Ω).bind fun q_43 => (some (q_43.1, q_43.2.1, q_43.2.2))) else (if ((Ω 4) ((6 : Int32)).toNatClampNeg) = (1 : Int32) then (if (15 : Int32) ≤ r_1 then ((bL_law_688 a6 Λ π Ω).bind fun q_39 => (some (q_39.1, q_39.2.1, q_39.2.2))) else ((bL_law_537 a6 r_9 r_15 Λ π Ω).bind fun q_41 => (some (q_41.1, q_41.2.1, q_41.2.2)))) else (if (7 : Int32) ≤ r_1 then (if (16 : Int32) ≤ r_1 then ((bL_law_1186 a6 r_15 Λ π Ω).bind fun q_32 => (some (q_32.1, q_32.2.1, q_32.2.2))) else ((bL_law_803 a6 a7 r_9 r_15 Λ π Ω).bind fun q_34 => (some (q_34.1, q_34.2.1, q_34.2.2)))) else ((bL_law_740 a6 a7 Λ π Ω).bind fun q_36 => (some (q_36.1, q_36.2.1, q_36.2.2))))))))).bind fun q_18 => ((fL_league q_18.1 q_18.2.1 q_18.2.2).bind fun r_21 => (if r_21 = 0 then none else (some (q_18.1, q_18.2.1, q_18.2.2)))))))))))
set_option maxRecDepth 100000 in
set_option maxHeartbeats 16000000 in
theorem kL_law_94 {p : Program} {l : Launch} {e : Env} {s : State} {m : MethodId} {below : List Frame} {meth : Method} {c : Code} {Q : State → Prop} {D : va_G} {A : Nat → Prop} {cI cS : ClassId} {b : Nat} {h : Nat → Nat → Nat} {g : Nat → Nat} (S : CallFix p m c code 18 s #[Value.ref b] (Cond.tt :: uw_) RL) (hK : va_K D vwCl (tL cI cS) s) (hA : ∀ q, s.heap.size ≤ q → A q) (hZ : zs_ A s) (a6 : Int32) (a7 : Int32) (Λ : s3_T) (π : Nat → Nat) (Ω : sg_T) (q_b : s3_T × (Nat → Nat) × sg_T) (hrun : bL_law_94 a6 a7 Λ π Ω = some q_b) (kx : ∀ (H : Heap) (locs : List Loc) (ls : Array Slot), dy_ D A s (wB cI cS h g q_b.1 q_b.2.1 q_b.2.2) H locs → lv_has ls 18 [(0, .ref b), (1, .ref (h 8 0)), (2, .ref (g 1)), (3, .ref (g 2)), (4, .ref (g 3)), (5, .ref (g 4)), (6, .int a6)] → W p l e room_1 s m #[Value.ref b] below meth c H locs 89 982 Q (F0 m 1393 ls [])) : ∀ (H : Heap) (locs : List Loc) (ls : Array Slot), dy_ D A s (wB cI cS h g Λ π Ω) H locs → lv_has ls 18 [(0, .ref b), (1, .ref (h 8 0)), (2, .ref (g 1)), (3, .ref (g 2)), (4, .ref (g 3)), (5, .ref (g 4)), (6, .int a6), (7, .int a7)] → W p l e room_1 s m #[Value.ref b] below meth c H locs 89 982 Q (F0 m 94 ls []) := by
  have hx := S.1
  have hb := S.2.1
  intro H locs ls Y hl
  unfold bL_law_94 at hrun
  refine lv_iload hx hb dL_law_94 (lv_at hl 7 rfl) ?_
  refine lv_bipush (v := (20 : Int32)) hx hb dL_law_96 (by decide) ?_
  obtain ⟨r_1, e_2, hrun⟩ := o_bh hrun
  refine cp_s (As := [.int a7, .int (20 : Int32)]) (rest := []) S hK hA hZ Y hl.1 (mL_low l D a7 (20 : Int32) r_1 e_2) kL_74 ⟨Nat.le_of_ble_eq_true rfl, Nat.le_of_ble_eq_true rfl⟩ rfl rfl (Nat.le_of_ble_eq_true rfl) ⟨Nat.le_of_ble_eq_true rfl, Nat.le_of_ble_eq_true rfl⟩ dL_law_98 (fun H locs Y => ?_)
  refine lv_istore (lv' := [(8, .int r_1), (0, .ref b), (1, .ref (h 8 0)), (2, .ref (g 1)), (3, .ref (g 2)), (4, .ref (g 3)), (5, .ref (g 4)), (6, .int a6), (7, .int a7)]) hx hb dL_law_101 hl (Nat.le_of_ble_eq_true rfl) rfl (fun ls hl => ?_)
  refine lv_iload hx hb dL_law_103 (lv_at hl 8 rfl) ?_
  refine lv_iconst (v := (5 : Int32)) hx hb dL_law_105 (by decide) ?_
  refine lv_ishr hx hb dL_law_106 ?_
  refine lv_iload hx hb dL_law_107 (lv_at hl 8 rfl) ?_
  refine lv_bipush (v := (25 : Int32)) hx hb dL_law_109 (by decide) ?_
  refine lv_ishr hx hb dL_law_111 ?_
  refine lv_iconst (v := (2 : Int32)) hx hb dL_law_112 (by decide) ?_
  obtain ⟨r_3, e_4, hrun⟩ := o_bh hrun
  refine cp_s (As := [.int (a7 >>> ((25 : Int32) &&& 31)), .int (2 : Int32)]) (rest := [.int (a7 >>> ((5 : Int32) &&& 31))]) S hK hA hZ Y hl.1 (mL_low l D (a7 >>> ((25 : Int32) &&& 31)) (2 : Int32) r_3 e_4) kL_74 ⟨Nat.le_of_ble_eq_true rfl, Nat.le_of_ble_eq_true rfl⟩ rfl rfl (Nat.le_of_ble_eq_true rfl) ⟨Nat.le_of_ble_eq_true rfl, Nat.le_of_ble_eq_true rfl⟩ dL_law_113 (fun H locs Y => ?_)
  obtain ⟨q_6, e_7, hrun⟩ := o_bh hrun
  have kx8 : ∀ (H : Heap) (locs : List Loc) (ls : Array Slot), dy_ D A s (wB cI cS h g Λ π Ω) H locs → lv_has ls 18 [(0, .ref b), (1, .ref (h 8 0)), (2, .ref (g 1)), (3, .ref (g 2)), (4, .ref (g 3)), (5, .ref (g 4)), (6, .int a6), (7, .int a7), (8, .int r_1)] → W p l e room_1 s m #[Value.ref b] below meth c H locs 89 982 Q (F0 m 125 ls [.int q_6, .int (a7 >>> ((5 : Int32) &&& 31))]) := by
    intro H locs ls Y hl
    obtain ⟨r_9, e_10, hrun⟩ := o_bh hrun
    refine cp_s (As := [.int (a7 >>> ((5 : Int32) &&& 31)), .int q_6]) (rest := []) S hK hA hZ Y hl.1 (mL_low l D (a7 >>> ((5 : Int32) &&& 31)) q_6 r_9 e_10) kL_74 ⟨Nat.le_of_ble_eq_true rfl, Nat.le_of_ble_eq_true rfl⟩ rfl rfl (Nat.le_of_ble_eq_true rfl) ⟨Nat.le_of_ble_eq_true rfl, Nat.le_of_ble_eq_true rfl⟩ dL_law_125 (fun H locs Y => ?_)
    refine lv_istore (lv' := [(9, .int r_9), (0, .ref b), (1, .ref (h 8 0)), (2, .ref (g 1)), (3, .ref (g 2)), (4, .ref (g 3)), (5, .ref (g 4)), (6, .int a6), (7, .int a7), (8, .int r_1)]) hx hb dL_law_128 hl (Nat.le_of_ble_eq_true rfl) rfl (fun ls hl => ?_)
    refine lv_iload hx hb dL_law_130 (lv_at hl 8 rfl) ?_
    refine lv_bipush (v := (9 : Int32)) hx hb dL_law_132 (by decide) ?_
    refine lv_ishr hx hb dL_law_134 ?_
    refine lv_aload hx hb dL_law_135 (lv_at hl 6 rfl) ?_
    refine lv_iconst (v := (4 : Int32)) hx hb dL_law_137 (by decide) ?_
    refine ia S hK Y 88 0 (f := (Ω 4)) rfl rfl (show ¬ ((4 : Int32) < 0 ∨ 11 ≤ ((4 : Int32)).toNatClampNeg) by decide) dL_law_138 ?_
    obtain ⟨q_12, e_13, hrun⟩ := o_bh hrun
    have kx14 : ∀ (H : Heap) (locs : List Loc) (ls : Array Slot), dy_ D A s (wB cI cS h g Λ π Ω) H locs → lv_has ls 18 [(0, .ref b), (1, .ref (h 8 0)), (2, .ref (g 1)), (3, .ref (g 2)), (4, .ref (g 3)), (5, .ref (g 4)), (6, .int a6), (7, .int a7), (8, .int r_1), (9, .int r_9)] → W p l e room_1 s m #[Value.ref b] below meth c H locs 89 982 Q (F0 m 150 ls [.int q_12, .int (a7 >>> ((9 : Int32) &&& 31))]) := by
      intro H locs ls Y hl
      obtain ⟨r_15, e_16, hrun⟩ := o_bh hrun
      refine cp_s (As := [.int (a7 >>> ((9 : Int32) &&& 31)), .int q_12]) (rest := []) S hK hA hZ Y hl.1 (mL_low l D (a7 >>> ((9 : Int32) &&& 31)) q_12 r_15 e_16) kL_74 ⟨Nat.le_of_ble_eq_true rfl, Nat.le_of_ble_eq_true rfl⟩ rfl rfl (Nat.le_of_ble_eq_true rfl) ⟨Nat.le_of_ble_eq_true rfl, Nat.le_of_ble_eq_true rfl⟩ dL_law_150 (fun H locs Y => ?_)
      refine lv_istore (lv' := [(10, .int r_15), (0, .ref b), (1, .ref (h 8 0)), (2, .ref (g 1)), (3, .ref (g 2)), (4, .ref (g 3)), (5, .ref (g 4)), (6, .int a6), (7, .int a7), (8, .int r_1), (9, .int r_9)]) hx hb dL_law_153 hl (Nat.le_of_ble_eq_true rfl) rfl (fun ls hl => ?_)
      refine lv_sipush (v := (-10003 : Int32)) hx hb dL_law_155 (by decide) ?_
      refine lv_istore (lv' := [(11, .int (-10003 : Int32)), (10, .int r_15), (0, .ref b), (1, .ref (h 8 0)), (2, .ref (g 1)), (3, .ref (g 2)), (4, .ref (g 3)), (5, .ref (g 4)), (6, .int a6), (7, .int a7), (8, .int r_1), (9, .int r_9)]) hx hb dL_law_158 hl (Nat.le_of_ble_eq_true rfl) rfl (fun ls hl => ?_)
      refine lv_iconst (v := (1 : Int32)) hx hb dL_law_160 (by decide) ?_
      refine lv_istore (lv' := [(12, .int (1 : Int32)), (11, .int (-10003 : Int32)), (10, .int r_15), (0, .ref b), (1, .ref (h 8 0)), (2, .ref (g 1)), (3, .ref (g 2)), (4, .ref (g 3)), (5, .ref (g 4)), (6, .int a6), (7, .int a7), (8, .int r_1), (9, .int r_9)]) hx hb dL_law_161 hl (Nat.le_of_ble_eq_true rfl) rfl (fun ls hl => ?_)
      refine lv_iload hx hb dL_law_163 (lv_at hl 9 rfl) ?_
      refine lv_iconst (v := (3 : Int32)) hx hb dL_law_165 (by decide) ?_
      obtain ⟨q_18, e_19, hrun⟩ := o_bh hrun
      have kx20 : ∀ (H : Heap) (locs : List Loc) (ls : Array Slot), dy_ D A s (wB cI cS h g q_18.1 q_18.2.1 q_18.2.2) H locs → lv_has ls 18 [(0, .ref b), (1, .ref (h 8 0)), (2, .ref (g 1)), (3, .ref (g 2)), (4, .ref (g 3)), (5, .ref (g 4)), (6, .int a6), (12, .int (1 : Int32))] → W p l e room_1 s m #[Value.ref b] below meth c H locs 89 982 Q (F0 m 1373 ls []) := by
        intro H locs ls Y hl
        refine lv_iload hx hb dL_law_1373 (lv_at hl 7 rfl) ?_
        refine lv_if_eq (tgt := 1391) hx hb dL_law_1375 (by decide) (fun q => absurd q (by decide)) (fun _ => ?_)
        refine lv_aload_n hx hb dL_law_1378 rfl (lv_at hl 1 rfl) ?_
        refine lv_aload_n hx hb dL_law_1379 rfl (lv_at hl 2 rfl) ?_
        refine lv_aload_n hx hb dL_law_1380 rfl (lv_at hl 3 rfl) ?_
        refine lv_aload hx hb dL_law_1381 (lv_at hl 4 rfl) ?_
        refine lv_aload hx hb dL_law_1383 (lv_at hl 5 rfl) ?_
        obtain ⟨r_21, e_22, hrun⟩ := o_bh hrun
        refine cf_s (As := [.ref (h 8 0), .ref (g 1), .ref (g 2), .ref (g 3), .ref (g 4)]) (rest := []) S hK hA hZ Y hl.1 (mL_league l D cI cS h g q_18.1 q_18.2.1 q_18.2.2 r_21 e_22) kL_108 ⟨Nat.le_of_ble_eq_true rfl, Nat.le_of_ble_eq_true rfl⟩ rfl rfl (Nat.le_of_ble_eq_true rfl) ⟨Nat.le_of_ble_eq_true rfl, Nat.le_of_ble_eq_true rfl⟩ dL_law_1385 (fun H locs Y => ?_)
        refine lv_if_ne (tgt := 1393) hx hb dL_law_1388 (by decide) (fun c_23 => ?_) (fun c_23 => ?_)
        · have hrun := o_f hrun c_23
          cases hrun
          exact kx _ _ _ Y (lv_sub hl [0, 1, 2, 3, 4, 5, 6] rfl)
        · have hrun := o_t hrun c_23
          cases hrun
      have hrun := e_19
      refine lv_icmp_lt (tgt := 182) hx hb dL_law_166 (by decide) (fun c_17 => ?_) (fun c_17 => ?_)
      · have hrun := o_t hrun c_17
        obtain ⟨q_24, e_25, hrun⟩ := o_bh hrun
        refine kL_law_182 S hK hA hZ a6 Λ π Ω q_24 e_25 (fun H locs ls Y hl => ?_) _ _ _ Y (lv_sub hl [3, 4, 5, 6, 7, 8, 9] rfl)
        cases hrun
        exact kx20 _ _ _ Y (lv_sub hl [0, 1, 2, 3, 4, 5, 6, 7] rfl)
      · have hrun := o_f hrun c_17
        refine lv_iload hx hb dL_law_169 (lv_at hl 11 rfl) ?_
        refine lv_if_ne (tgt := 247) hx hb dL_law_171 (by decide) (fun c_26 => ?_) (fun c_26 => ?_)
        · have hrun := o_f hrun c_26
          refine lv_iload hx hb dL_law_247 (lv_at hl 11 rfl) ?_
          refine lv_iconst (v := (1 : Int32)) hx hb dL_law_249 (by decide) ?_
          refine lv_icmp_ne (tgt := 356) hx hb dL_law_250 (by decide) (fun c_27 => ?_) (fun c_27 => ?_)
          · have hrun := o_f hrun c_27
            refine lv_aload hx hb dL_law_356 (lv_at hl 8 rfl) ?_
            refine lv_bipush (v := (6 : Int32)) hx hb dL_law_358 (by decide) ?_
            refine ia S hK Y 88 0 (f := (Ω 4)) rfl rfl (show ¬ ((6 : Int32) < 0 ∨ 11 ≤ ((6 : Int32)).toNatClampNeg) by decide) dL_law_360 ?_
            refine lv_if_ne (tgt := 521) hx hb dL_law_361 (by decide) (fun c_28 => ?_) (fun c_28 => ?_)
            · have hrun := o_f hrun c_28
              refine lv_aload hx hb dL_law_521 (lv_at hl 8 rfl) ?_
              refine lv_bipush (v := (6 : Int32)) hx hb dL_law_523 (by decide) ?_
              refine ia S hK Y 88 0 (f := (Ω 4)) rfl rfl (show ¬ ((6 : Int32) < 0 ∨ 11 ≤ ((6 : Int32)).toNatClampNeg) by decide) dL_law_525 ?_
              refine lv_iconst (v := (1 : Int32)) hx hb dL_law_526 (by decide) ?_
              refine lv_icmp_ne (tgt := 679) hx hb dL_law_527 (by decide) (fun c_29 => ?_) (fun c_29 => ?_)
              · have hrun := o_f hrun c_29
                refine lv_aload hx hb dL_law_679 (lv_at hl 8 rfl) ?_
                refine lv_bipush (v := (6 : Int32)) hx hb dL_law_681 (by decide) ?_
                refine ia S hK Y 88 0 (f := (Ω 4)) rfl rfl (show ¬ ((6 : Int32) < 0 ∨ 11 ≤ ((6 : Int32)).toNatClampNeg) by decide) dL_law_683 ?_
                refine lv_iconst (v := (1 : Int32)) hx hb dL_law_684 (by decide) ?_
                refine lv_icmp_ne (tgt := 733) hx hb dL_law_685 (by decide) (fun _ => ?_) (fun q => absurd q c_29)
                refine lv_iload hx hb dL_law_733 (lv_at hl 11 rfl) ?_
                refine lv_bipush (v := (7 : Int32)) hx hb dL_law_735 (by decide) ?_
                refine lv_icmp_ge (tgt := 796) hx hb dL_law_737 (by decide) (fun c_30 => ?_) (fun c_30 => ?_)
                · have hrun := o_t hrun c_30
                  refine lv_iload hx hb dL_law_796 (lv_at hl 11 rfl) ?_
                  refine lv_bipush (v := (16 : Int32)) hx hb dL_law_798 (by decide) ?_
                  refine lv_icmp_ge (tgt := 1186) hx hb dL_law_800 (by decide) (fun c_31 => ?_) (fun c_31 => ?_)
                  · have hrun := o_t hrun c_31
                    obtain ⟨q_32, e_33, hrun⟩ := o_bh hrun
                    refine kL_law_1186 S hK hA hZ a6 r_15 Λ π Ω q_32 e_33 (fun H locs ls Y hl => ?_) _ _ _ Y (lv_sub hl [3, 4, 5, 6, 7, 8, 9, 2, 1] rfl)
                    cases hrun
                    exact kx20 _ _ _ Y (lv_sub hl [0, 1, 2, 3, 4, 5, 6, 7] rfl)
                  · have hrun := o_f hrun c_31
                    obtain ⟨q_34, e_35, hrun⟩ := o_bh hrun
                    refine kL_law_803 S hK hA hZ a6 a7 r_9 r_15 Λ π Ω q_34 e_35 (fun H locs ls Y hl => ?_) _ _ _ Y (lv_sub hl [3, 4, 5, 6, 7, 8, 9, 10, 12, 2, 1] rfl)
                    cases hrun
                    exact kx20 _ _ _ Y (lv_sub hl [0, 1, 2, 3, 4, 5, 6, 7] rfl)
                · have hrun := o_f hrun c_30
                  obtain ⟨q_36, e_37, hrun⟩ := o_bh hrun
                  refine kL_law_740 S hK hA hZ a6 a7 Λ π Ω q_36 e_37 (fun H locs ls Y hl => ?_) _ _ _ Y (lv_sub hl [3, 4, 5, 6, 7, 8, 9, 10] rfl)
                  cases hrun
                  exact kx20 _ _ _ Y (lv_sub hl [0, 1, 2, 3, 4, 5, 6, 7] rfl)
              · have hrun := o_t hrun c_29
                refine lv_iload hx hb dL_law_530 (lv_at hl 11 rfl) ?_
                refine lv_bipush (v := (15 : Int32)) hx hb dL_law_532 (by decide) ?_
                refine lv_icmp_ge (tgt := 679) hx hb dL_law_534 (by decide) (fun c_38 => ?_) (fun c_38 => ?_)
                · have hrun := o_t hrun c_38
                  refine lv_aload hx hb dL_law_679 (lv_at hl 8 rfl) ?_
                  refine lv_bipush (v := (6 : Int32)) hx hb dL_law_681 (by decide) ?_
                  refine ia S hK Y 88 0 (f := (Ω 4)) rfl rfl (show ¬ ((6 : Int32) < 0 ∨ 11 ≤ ((6 : Int32)).toNatClampNeg) by decide) dL_law_683 ?_
                  refine lv_iconst (v := (1 : Int32)) hx hb dL_law_684 (by decide) ?_
                  refine lv_icmp_ne (tgt := 733) hx hb dL_law_685 (by decide) (fun q => absurd c_29 q) (fun _ => ?_)
                  obtain ⟨q_39, e_40, hrun⟩ := o_bh hrun
                  refine kL_law_688 S hK hA hZ a6 Λ π Ω q_39 e_40 (fun H locs ls Y hl => ?_) _ _ _ Y (lv_sub hl [3, 4, 5, 6, 7, 8, 9] rfl)
                  cases hrun
                  exact kx20 _ _ _ Y (lv_sub hl [0, 1, 2, 3, 4, 5, 6, 7] rfl)
                · have hrun := o_f hrun c_38
                  obtain ⟨q_41, e_42, hrun⟩ := o_bh hrun
                  refine kL_law_537 S hK hA hZ a6 r_9 r_15 Λ π Ω q_41 e_42 (fun H locs ls Y hl => ?_) _ _ _ Y (lv_sub hl [3, 4, 5, 6, 7, 8, 9, 12, 2, 1] rfl)
                  cases hrun
                  exact kx20 _ _ _ Y (lv_sub hl [0, 1, 2, 3, 4, 5, 6, 7] rfl)
            · have hrun := o_t hrun c_28
              obtain ⟨q_43, e_44, hrun⟩ := o_bh hrun
              refine kL_law_364 S hK hA hZ a6 a7 r_15 Λ π Ω q_43 e_44 (fun H locs ls Y hl => ?_) _ _ _ Y (lv_sub hl [3, 4, 5, 6, 7, 8, 9, 10, 2, 1] rfl)
              cases hrun
              exact kx20 _ _ _ Y (lv_sub hl [0, 1, 2, 3, 4, 5, 6, 7] rfl)
          · have hrun := o_t hrun c_27
            obtain ⟨q_45, e_46, hrun⟩ := o_bh hrun
            refine kL_law_253 S hK hA hZ a6 a7 Λ π Ω q_45 e_46 (fun H locs ls Y hl => ?_) _ _ _ Y (lv_sub hl [3, 4, 5, 6, 7, 8, 9, 10] rfl)
            cases hrun
            exact kx20 _ _ _ Y (lv_sub hl [0, 1, 2, 3, 4, 5, 6, 7] rfl)
        · have hrun := o_t hrun c_26
          refine lv_aload hx hb dL_law_174 (lv_at hl 8 rfl) ?_
          refine lv_bipush (v := (6 : Int32)) hx hb dL_law_176 (by decide) ?_
          refine ia S hK Y 88 0 (f := (Ω 4)) rfl rfl (show ¬ ((6 : Int32) < 0 ∨ 11 ≤ ((6 : Int32)).toNatClampNeg) by decide) dL_law_178 ?_
          refine lv_if_ne (tgt := 247) hx hb dL_law_179 (by decide) (fun c_47 => ?_) (fun c_47 => ?_)
          · have hrun := o_f hrun c_47
            refine lv_iload hx hb dL_law_247 (lv_at hl 11 rfl) ?_
            refine lv_iconst (v := (1 : Int32)) hx hb dL_law_249 (by decide) ?_
            refine lv_icmp_ne (tgt := 356) hx hb dL_law_250 (by decide) (fun _ => ?_) (fun q => absurd q (fun q => absurd (c_26.symm.trans q) (by decide)))
            refine lv_aload hx hb dL_law_356 (lv_at hl 8 rfl) ?_
            refine lv_bipush (v := (6 : Int32)) hx hb dL_law_358 (by decide) ?_
            refine ia S hK Y 88 0 (f := (Ω 4)) rfl rfl (show ¬ ((6 : Int32) < 0 ∨ 11 ≤ ((6 : Int32)).toNatClampNeg) by decide) dL_law_360 ?_
            refine lv_if_ne (tgt := 521) hx hb dL_law_361 (by decide) (fun _ => ?_) (fun q => absurd q c_47)
            refine lv_aload hx hb dL_law_521 (lv_at hl 8 rfl) ?_
            refine lv_bipush (v := (6 : Int32)) hx hb dL_law_523 (by decide) ?_
            refine ia S hK Y 88 0 (f := (Ω 4)) rfl rfl (show ¬ ((6 : Int32) < 0 ∨ 11 ≤ ((6 : Int32)).toNatClampNeg) by decide) dL_law_525 ?_
            refine lv_iconst (v := (1 : Int32)) hx hb dL_law_526 (by decide) ?_
            refine lv_icmp_ne (tgt := 679) hx hb dL_law_527 (by decide) (fun c_48 => ?_) (fun c_48 => ?_)
            · have hrun := o_f hrun c_48
              refine lv_aload hx hb dL_law_679 (lv_at hl 8 rfl) ?_
              refine lv_bipush (v := (6 : Int32)) hx hb dL_law_681 (by decide) ?_
              refine ia S hK Y 88 0 (f := (Ω 4)) rfl rfl (show ¬ ((6 : Int32) < 0 ∨ 11 ≤ ((6 : Int32)).toNatClampNeg) by decide) dL_law_683 ?_
              refine lv_iconst (v := (1 : Int32)) hx hb dL_law_684 (by decide) ?_
              refine lv_icmp_ne (tgt := 733) hx hb dL_law_685 (by decide) (fun _ => ?_) (fun q => absurd q c_48)
              refine lv_iload hx hb dL_law_733 (lv_at hl 11 rfl) ?_
              refine lv_bipush (v := (7 : Int32)) hx hb dL_law_735 (by decide) ?_
              refine lv_icmp_ge (tgt := 796) hx hb dL_law_737 (by decide) (fun c_49 => ?_) (fun c_49 => ?_)
              · have hrun := o_t hrun c_49
                refine lv_iload hx hb dL_law_796 (lv_at hl 11 rfl) ?_
                refine lv_bipush (v := (16 : Int32)) hx hb dL_law_798 (by decide) ?_
                refine lv_icmp_ge (tgt := 1186) hx hb dL_law_800 (by decide) (fun c_50 => ?_) (fun c_50 => ?_)
                · have hrun := o_t hrun c_50
                  obtain ⟨q_51, e_52, hrun⟩ := o_bh hrun
                  refine kL_law_1186 S hK hA hZ a6 r_15 Λ π Ω q_51 e_52 (fun H locs ls Y hl => ?_) _ _ _ Y (lv_sub hl [3, 4, 5, 6, 7, 8, 9, 2, 1] rfl)
                  cases hrun
                  exact kx20 _ _ _ Y (lv_sub hl [0, 1, 2, 3, 4, 5, 6, 7] rfl)
                · have hrun := o_f hrun c_50
                  obtain ⟨q_53, e_54, hrun⟩ := o_bh hrun
                  refine kL_law_803 S hK hA hZ a6 a7 r_9 r_15 Λ π Ω q_53 e_54 (fun H locs ls Y hl => ?_) _ _ _ Y (lv_sub hl [3, 4, 5, 6, 7, 8, 9, 10, 12, 2, 1] rfl)
                  cases hrun
                  exact kx20 _ _ _ Y (lv_sub hl [0, 1, 2, 3, 4, 5, 6, 7] rfl)
              · have hrun := o_f hrun c_49
                obtain ⟨q_55, e_56, hrun⟩ := o_bh hrun
                refine kL_law_740 S hK hA hZ a6 a7 Λ π Ω q_55 e_56 (fun H locs ls Y hl => ?_) _ _ _ Y (lv_sub hl [3, 4, 5, 6, 7, 8, 9, 10] rfl)
                cases hrun
                exact kx20 _ _ _ Y (lv_sub hl [0, 1, 2, 3, 4, 5, 6, 7] rfl)
            · have hrun := o_t hrun c_48
              refine lv_iload hx hb dL_law_530 (lv_at hl 11 rfl) ?_
              refine lv_bipush (v := (15 : Int32)) hx hb dL_law_532 (by decide) ?_
              refine lv_icmp_ge (tgt := 679) hx hb dL_law_534 (by decide) (fun c_57 => ?_) (fun c_57 => ?_)
              · have hrun := o_t hrun c_57
                refine lv_aload hx hb dL_law_679 (lv_at hl 8 rfl) ?_
                refine lv_bipush (v := (6 : Int32)) hx hb dL_law_681 (by decide) ?_
                refine ia S hK Y 88 0 (f := (Ω 4)) rfl rfl (show ¬ ((6 : Int32) < 0 ∨ 11 ≤ ((6 : Int32)).toNatClampNeg) by decide) dL_law_683 ?_
                refine lv_iconst (v := (1 : Int32)) hx hb dL_law_684 (by decide) ?_
                refine lv_icmp_ne (tgt := 733) hx hb dL_law_685 (by decide) (fun q => absurd c_48 q) (fun _ => ?_)
                obtain ⟨q_58, e_59, hrun⟩ := o_bh hrun
                refine kL_law_688 S hK hA hZ a6 Λ π Ω q_58 e_59 (fun H locs ls Y hl => ?_) _ _ _ Y (lv_sub hl [3, 4, 5, 6, 7, 8, 9] rfl)
                cases hrun
                exact kx20 _ _ _ Y (lv_sub hl [0, 1, 2, 3, 4, 5, 6, 7] rfl)
              · have hrun := o_f hrun c_57
                obtain ⟨q_60, e_61, hrun⟩ := o_bh hrun
                refine kL_law_537 S hK hA hZ a6 r_9 r_15 Λ π Ω q_60 e_61 (fun H locs ls Y hl => ?_) _ _ _ Y (lv_sub hl [3, 4, 5, 6, 7, 8, 9, 12, 2, 1] rfl)
                cases hrun
                exact kx20 _ _ _ Y (lv_sub hl [0, 1, 2, 3, 4, 5, 6, 7] rfl)
          · have hrun := o_t hrun c_47
            obtain ⟨q_62, e_63, hrun⟩ := o_bh hrun
            refine kL_law_182 S hK hA hZ a6 Λ π Ω q_62 e_63 (fun H locs ls Y hl => ?_) _ _ _ Y (lv_sub hl [3, 4, 5, 6, 7, 8, 9] rfl)
            cases hrun
            exact kx20 _ _ _ Y (lv_sub hl [0, 1, 2, 3, 4, 5, 6, 7] rfl)
    have hrun := e_13
    refine lv_if_ne (tgt := 146) hx hb dL_law_139 (by decide) (fun c_11 => ?_) (fun c_11 => ?_)
    · have hrun := o_f hrun c_11
      refine lv_aload hx hb dL_law_146 (lv_at hl 6 rfl) ?_
      refine lv_iconst (v := (4 : Int32)) hx hb dL_law_148 (by decide) ?_
      refine ia S hK Y 88 0 (f := (Ω 4)) rfl rfl (show ¬ ((4 : Int32) < 0 ∨ 11 ≤ ((4 : Int32)).toNatClampNeg) by decide) dL_law_149 ?_
      cases hrun
      exact kx14 _ _ _ Y (lv_sub hl [1, 2, 3, 4, 5, 6, 7, 8, 9, 0] rfl)
    · have hrun := o_t hrun c_11
      refine lv_iconst (v := (1 : Int32)) hx hb dL_law_142 (by decide) ?_
      refine lv_goto (tgt := 150) hx hb dL_law_143 (by decide) ?_
      cases hrun
      exact kx14 _ _ _ Y (lv_sub hl [1, 2, 3, 4, 5, 6, 7, 8, 9, 0] rfl)
  have hrun := e_7
  refine lv_if_ne (tgt := 124) hx hb dL_law_116 (by decide) (fun c_5 => ?_) (fun c_5 => ?_)
  · have hrun := o_f hrun c_5
    refine lv_iconst (v := (5 : Int32)) hx hb dL_law_124 (by decide) ?_
    cases hrun
    exact kx8 _ _ _ Y (lv_sub hl [1, 2, 3, 4, 5, 6, 7, 8, 0] rfl)
  · have hrun := o_t hrun c_5
    refine lv_bipush (v := (16 : Int32)) hx hb dL_law_119 (by decide) ?_
    refine lv_goto (tgt := 125) hx hb dL_law_121 (by decide) ?_
    cases hrun
    exact kx8 _ _ _ Y (lv_sub hl [1, 2, 3, 4, 5, 6, 7, 8, 0] rfl)
def lL_law_53 : Nat → Int32 → (s3_T) → (Nat → Nat) → (sg_T) → Option (sg_T)
  | 0, _, _, _, _ => none
  | n + 1, a6, Λ, π, Ω => (if (8 : Int32) ≤ a6 then (some Ω) else (o_x (((6 : Int32) * a6) + (5 : Int32)) 48 (lL_law_53 n (a6 + (1 : Int32)) Λ π (sg_a Ω 1 (upd (Ω 1) ((((6 : Int32) * a6) + (5 : Int32))).toNatClampNeg (-1 : Int32))))))
def bL_law_30 (Λ : s3_T) (π : Nat → Nat) (Ω : sg_T) : Option (sg_T) := ((lL_law_53 70 (0 : Int32) Λ π (sg_a (sg_a (sg_a (sg_a Ω 4 (upd (Ω 4) ((0 : Int32)).toNatClampNeg (1 : Int32))) 4 (upd (upd (Ω 4) ((0 : Int32)).toNatClampNeg (1 : Int32)) ((1 : Int32)).toNatClampNeg (2 : Int32))) 4 (upd (upd (upd (Ω 4) ((0 : Int32)).toNatClampNeg (1 : Int32)) ((1 : Int32)).toNatClampNeg (2 : Int32)) ((2 : Int32)).toNatClampNeg (2 : Int32))) 4 (upd (upd (upd (upd (Ω 4) ((0 : Int32)).toNatClampNeg (1 : Int32)) ((1 : Int32)).toNatClampNeg (2 : Int32)) ((2 : Int32)).toNatClampNeg (2 : Int32)) ((3 : Int32)).toNatClampNeg (2 : Int32)))).bind fun q_3 => (some q_3))
set_option maxRecDepth 100000 in
set_option maxHeartbeats 16000000 in
theorem kL_law_30 {p : Program} {l : Launch} {e : Env} {s : State} {m : MethodId} {below : List Frame} {meth : Method} {c : Code} {Q : State → Prop} {D : va_G} {A : Nat → Prop} {cI cS : ClassId} {b : Nat} {h : Nat → Nat → Nat} {g : Nat → Nat} (S : CallFix p m c code 18 s #[Value.ref b] (Cond.tt :: uw_) RL) (hK : va_K D vwCl (tL cI cS) s) (hA : ∀ q, s.heap.size ≤ q → A q) (hZ : zs_ A s) (Λ : s3_T) (π : Nat → Nat) (Ω : sg_T) (q_b : sg_T) (hrun : bL_law_30 Λ π Ω = some q_b) (kx : ∀ (H : Heap) (locs : List Loc) (ls : Array Slot), dy_ D A s (wB cI cS h g Λ π q_b) H locs → lv_has ls 18 [(0, .ref b), (1, .ref (h 8 0)), (2, .ref (g 1)), (3, .ref (g 2)), (4, .ref (g 3)), (5, .ref (g 4)), (6, .int (0 : Int32))] → W p l e room_1 s m #[Value.ref b] below meth c H locs 89 982 Q (F0 m 79 ls [])) : ∀ (H : Heap) (locs : List Loc) (ls : Array Slot), dy_ D A s (wB cI cS h g Λ π Ω) H locs → lv_has ls 18 [(0, .ref b), (1, .ref (h 8 0)), (2, .ref (g 1)), (3, .ref (g 2)), (4, .ref (g 3)), (5, .ref (g 4))] → W p l e room_1 s m #[Value.ref b] below meth c H locs 89 982 Q (F0 m 30 ls []) := by
  have hx := S.1
  have hb := S.2.1
  have lp53 : ∀ (n : Nat) (a6 : Int32) (Λ : s3_T) (π : Nat → Nat) (Ω : sg_T) (q_x : sg_T), lL_law_53 n a6 Λ π Ω = some q_x → (∀ (H : Heap) (locs : List Loc) (ls : Array Slot), dy_ D A s (wB cI cS h g Λ π q_x) H locs → lv_has ls 18 [(0, .ref b), (1, .ref (h 8 0)), (2, .ref (g 1)), (3, .ref (g 2)), (4, .ref (g 3)), (5, .ref (g 4))] → W p l e room_1 s m #[Value.ref b] below meth c H locs 89 982 Q (F0 m 76 ls [])) → ∀ (H : Heap) (locs : List Loc) (ls : Array Slot), dy_ D A s (wB cI cS h g Λ π Ω) H locs → lv_has ls 18 [(0, .ref b), (1, .ref (h 8 0)), (2, .ref (g 1)), (3, .ref (g 2)), (4, .ref (g 3)), (5, .ref (g 4)), (6, .int a6)] → W p l e room_1 s m #[Value.ref b] below meth c H locs 89 982 Q (F0 m 53 ls []) := by
    intro n
    induction n with
    | zero => intro a6 Λ π Ω q_x hrun; cases hrun
    | succ n ih =>
      intro a6 Λ π Ω q_x hrun kx H locs ls Y hl
      unfold lL_law_53 at hrun
      refine lv_iload hx hb dL_law_53 (lv_at hl 6 rfl) ?_
      refine lv_bipush (v := (8 : Int32)) hx hb dL_law_55 (by decide) ?_
      refine lv_icmp_ge (tgt := 76) hx hb dL_law_57 (by decide) (fun c_1 => ?_) (fun c_1 => ?_)
      · have hrun := o_t hrun c_1
        cases hrun
        exact kx _ _ _ Y (lv_sub hl [0, 1, 2, 3, 4, 5] rfl)
      · have hrun := o_f hrun c_1
        refine lv_aload_n hx hb dL_law_60 rfl (lv_at hl 2 rfl) ?_
        refine lv_bipush (v := (6 : Int32)) hx hb dL_law_61 (by decide) ?_
        refine lv_iload hx hb dL_law_63 (lv_at hl 6 rfl) ?_
        refine lv_imul hx hb dL_law_65 ?_
        refine lv_iconst (v := (5 : Int32)) hx hb dL_law_66 (by decide) ?_
        refine lv_iadd hx hb dL_law_67 ?_
        refine lv_iconst (v := (-1 : Int32)) hx hb dL_law_68 (by decide) ?_
        obtain ⟨b_2, hrun⟩ := o_xh hrun
        refine iw S hK Y 85 0 (f := (Ω 1)) rfl rfl b_2 (ws' := (wB cI cS h g Λ π (sg_a Ω 1 (upd (Ω 1) ((((6 : Int32) * a6) + (5 : Int32))).toNatClampNeg (-1 : Int32))))) (wB_a1 _ _ _ _ _ _) dL_law_69 (fun H locs Y => ?_)
        refine lv_iinc (v := (a6 + (1 : Int32))) (lv' := [(6, .int (a6 + (1 : Int32))), (0, .ref b), (1, .ref (h 8 0)), (2, .ref (g 1)), (3, .ref (g 2)), (4, .ref (g 3)), (5, .ref (g 4))]) hx hb dL_law_70 hl (k := 6) rfl (by rfl) (Nat.le_of_ble_eq_true rfl) rfl (fun ls hl => ?_)
        refine lv_goto (tgt := 53) hx hb dL_law_73 (by decide) ?_
        exact ih (a6 + (1 : Int32)) Λ π (sg_a Ω 1 (upd (Ω 1) ((((6 : Int32) * a6) + (5 : Int32))).toNatClampNeg (-1 : Int32))) q_x hrun kx _ _ _ Y (lv_sub hl [1, 2, 3, 4, 5, 6, 0] rfl)
  intro H locs ls Y hl
  unfold bL_law_30 at hrun
  refine lv_aload hx hb dL_law_30 (lv_at hl 5 rfl) ?_
  refine lv_iconst (v := (0 : Int32)) hx hb dL_law_32 (by decide) ?_
  refine lv_iconst (v := (1 : Int32)) hx hb dL_law_33 (by decide) ?_
  refine iw S hK Y 88 0 (f := (Ω 4)) rfl rfl (show ¬ ((0 : Int32) < 0 ∨ 11 ≤ ((0 : Int32)).toNatClampNeg) by decide) (ws' := (wB cI cS h g Λ π (sg_a Ω 4 (upd (Ω 4) ((0 : Int32)).toNatClampNeg (1 : Int32))))) (wB_a4 _ _ _ _ _ _) dL_law_34 (fun H locs Y => ?_)
  refine lv_aload hx hb dL_law_35 (lv_at hl 5 rfl) ?_
  refine lv_iconst (v := (1 : Int32)) hx hb dL_law_37 (by decide) ?_
  refine lv_iconst (v := (2 : Int32)) hx hb dL_law_38 (by decide) ?_
  refine iw S hK Y 88 0 (f := (upd (Ω 4) ((0 : Int32)).toNatClampNeg (1 : Int32))) rfl rfl (show ¬ ((1 : Int32) < 0 ∨ 11 ≤ ((1 : Int32)).toNatClampNeg) by decide) (ws' := (wB cI cS h g Λ π (sg_a (sg_a Ω 4 (upd (Ω 4) ((0 : Int32)).toNatClampNeg (1 : Int32))) 4 (upd (upd (Ω 4) ((0 : Int32)).toNatClampNeg (1 : Int32)) ((1 : Int32)).toNatClampNeg (2 : Int32))))) (wB_a4 _ _ _ _ _ _) dL_law_39 (fun H locs Y => ?_)
  refine lv_aload hx hb dL_law_40 (lv_at hl 5 rfl) ?_
  refine lv_iconst (v := (2 : Int32)) hx hb dL_law_42 (by decide) ?_
  refine lv_iconst (v := (2 : Int32)) hx hb dL_law_43 (by decide) ?_
  refine iw S hK Y 88 0 (f := (upd (upd (Ω 4) ((0 : Int32)).toNatClampNeg (1 : Int32)) ((1 : Int32)).toNatClampNeg (2 : Int32))) rfl rfl (show ¬ ((2 : Int32) < 0 ∨ 11 ≤ ((2 : Int32)).toNatClampNeg) by decide) (ws' := (wB cI cS h g Λ π (sg_a (sg_a (sg_a Ω 4 (upd (Ω 4) ((0 : Int32)).toNatClampNeg (1 : Int32))) 4 (upd (upd (Ω 4) ((0 : Int32)).toNatClampNeg (1 : Int32)) ((1 : Int32)).toNatClampNeg (2 : Int32))) 4 (upd (upd (upd (Ω 4) ((0 : Int32)).toNatClampNeg (1 : Int32)) ((1 : Int32)).toNatClampNeg (2 : Int32)) ((2 : Int32)).toNatClampNeg (2 : Int32))))) (wB_a4 _ _ _ _ _ _) dL_law_44 (fun H locs Y => ?_)
  refine lv_aload hx hb dL_law_45 (lv_at hl 5 rfl) ?_
  refine lv_iconst (v := (3 : Int32)) hx hb dL_law_47 (by decide) ?_
  refine lv_iconst (v := (2 : Int32)) hx hb dL_law_48 (by decide) ?_
  refine iw S hK Y 88 0 (f := (upd (upd (upd (Ω 4) ((0 : Int32)).toNatClampNeg (1 : Int32)) ((1 : Int32)).toNatClampNeg (2 : Int32)) ((2 : Int32)).toNatClampNeg (2 : Int32))) rfl rfl (show ¬ ((3 : Int32) < 0 ∨ 11 ≤ ((3 : Int32)).toNatClampNeg) by decide) (ws' := (wB cI cS h g Λ π (sg_a (sg_a (sg_a (sg_a Ω 4 (upd (Ω 4) ((0 : Int32)).toNatClampNeg (1 : Int32))) 4 (upd (upd (Ω 4) ((0 : Int32)).toNatClampNeg (1 : Int32)) ((1 : Int32)).toNatClampNeg (2 : Int32))) 4 (upd (upd (upd (Ω 4) ((0 : Int32)).toNatClampNeg (1 : Int32)) ((1 : Int32)).toNatClampNeg (2 : Int32)) ((2 : Int32)).toNatClampNeg (2 : Int32))) 4 (upd (upd (upd (upd (Ω 4) ((0 : Int32)).toNatClampNeg (1 : Int32)) ((1 : Int32)).toNatClampNeg (2 : Int32)) ((2 : Int32)).toNatClampNeg (2 : Int32)) ((3 : Int32)).toNatClampNeg (2 : Int32))))) (wB_a4 _ _ _ _ _ _) dL_law_49 (fun H locs Y => ?_)
  refine lv_iconst (v := (0 : Int32)) hx hb dL_law_50 (by decide) ?_
  refine lv_istore (lv' := [(6, .int (0 : Int32)), (0, .ref b), (1, .ref (h 8 0)), (2, .ref (g 1)), (3, .ref (g 2)), (4, .ref (g 3)), (5, .ref (g 4))]) hx hb dL_law_51 hl (Nat.le_of_ble_eq_true rfl) rfl (fun ls hl => ?_)
  obtain ⟨q_3, e_4, hrun⟩ := o_bh hrun
  refine lp53 70 (0 : Int32) Λ π (sg_a (sg_a (sg_a (sg_a Ω 4 (upd (Ω 4) ((0 : Int32)).toNatClampNeg (1 : Int32))) 4 (upd (upd (Ω 4) ((0 : Int32)).toNatClampNeg (1 : Int32)) ((1 : Int32)).toNatClampNeg (2 : Int32))) 4 (upd (upd (upd (Ω 4) ((0 : Int32)).toNatClampNeg (1 : Int32)) ((1 : Int32)).toNatClampNeg (2 : Int32)) ((2 : Int32)).toNatClampNeg (2 : Int32))) 4 (upd (upd (upd (upd (Ω 4) ((0 : Int32)).toNatClampNeg (1 : Int32)) ((1 : Int32)).toNatClampNeg (2 : Int32)) ((2 : Int32)).toNatClampNeg (2 : Int32)) ((3 : Int32)).toNatClampNeg (2 : Int32))) q_3 e_4 (fun H locs ls Y hl => ?_) _ _ _ Y (lv_sub hl [1, 2, 3, 4, 5, 6, 0] rfl)
  refine lv_iconst (v := (0 : Int32)) hx hb dL_law_76 (by decide) ?_
  refine lv_istore (lv' := [(6, .int (0 : Int32)), (0, .ref b), (1, .ref (h 8 0)), (2, .ref (g 1)), (3, .ref (g 2)), (4, .ref (g 3)), (5, .ref (g 4))]) hx hb dL_law_77 hl (Nat.le_of_ble_eq_true rfl) rfl (fun ls hl => ?_)
  cases hrun
  exact kx _ _ _ Y (lv_sub hl [1, 2, 3, 4, 5, 6, 0] rfl)
