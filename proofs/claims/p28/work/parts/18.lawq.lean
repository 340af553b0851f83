def wQ (cI : ClassId) (g : Nat → Nat) (Ω : sg_T) : va_W := [(g 1, .inl (cI, 48, .inl (Ω 1))), (g 2, .inl (cI, 16, .inl (Ω 2))), (g 3, .inl (cI, 32, .inl (Ω 3))), (g 4, .inl (cI, 11, .inl (Ω 4)))]
def tQ (cI : ClassId) : List (ClassId × FieldType) := [(cI, .int)]
abbrev wB (cI cS : ClassId) (h : Nat → Nat → Nat) (g : Nat → Nat) (Λ : s3_T) (π : Nat → Nat) (Ω : sg_T) : va_W := wL cI cS h Λ π ++ wQ cI g Ω
theorem wQ_a1 {cI : ClassId} (g : Nat → Nat) (Ω : sg_T) (f : Nat → Int32) : (wQ cI g Ω).set 0 (g 1, .inl (cI, 48, .inl f)) = wQ cI g (sg_a Ω 1 f) := rfl
set_option maxRecDepth 20000 in
theorem wB_a1 {cI cS : ClassId} (h : Nat → Nat → Nat) (g : Nat → Nat) (Λ : s3_T) (π : Nat → Nat) (Ω : sg_T) (f : Nat → Int32) : (wB cI cS h g Λ π Ω).set 85 (g 1, .inl (cI, 48, .inl f)) = wB cI cS h g Λ π (sg_a Ω 1 f) := rfl
theorem wQ_a2 {cI : ClassId} (g : Nat → Nat) (Ω : sg_T) (f : Nat → Int32) : (wQ cI g Ω).set 1 (g 2, .inl (cI, 16, .inl f)) = wQ cI g (sg_a Ω 2 f) := rfl
set_option maxRecDepth 20000 in
theorem wB_a2 {cI cS : ClassId} (h : Nat → Nat → Nat) (g : Nat → Nat) (Λ : s3_T) (π : Nat → Nat) (Ω : sg_T) (f : Nat → Int32) : (wB cI cS h g Λ π Ω).set 86 (g 2, .inl (cI, 16, .inl f)) = wB cI cS h g Λ π (sg_a Ω 2 f) := rfl
theorem wQ_a3 {cI : ClassId} (g : Nat → Nat) (Ω : sg_T) (f : Nat → Int32) : (wQ cI g Ω).set 2 (g 3, .inl (cI, 32, .inl f)) = wQ cI g (sg_a Ω 3 f) := rfl
set_option maxRecDepth 20000 in
theorem wB_a3 {cI cS : ClassId} (h : Nat → Nat → Nat) (g : Nat → Nat) (Λ : s3_T) (π : Nat → Nat) (Ω : sg_T) (f : Nat → Int32) : (wB cI cS h g Λ π Ω).set 87 (g 3, .inl (cI, 32, .inl f)) = wB cI cS h g Λ π (sg_a Ω 3 f) := rfl
theorem wQ_a4 {cI : ClassId} (g : Nat → Nat) (Ω : sg_T) (f : Nat → Int32) : (wQ cI g Ω).set 3 (g 4, .inl (cI, 11, .inl f)) = wQ cI g (sg_a Ω 4 f) := rfl
set_option maxRecDepth 20000 in
theorem wB_a4 {cI cS : ClassId} (h : Nat → Nat → Nat) (g : Nat → Nat) (Λ : s3_T) (π : Nat → Nat) (Ω : sg_T) (f : Nat → Int32) : (wB cI cS h g Λ π Ω).set 88 (g 4, .inl (cI, 11, .inl f)) = wB cI cS h g Λ π (sg_a Ω 4 f) := rfl
def iBL : List Nat := [0, 1, 2, 3, 4, 5, 6, 7, 8, 9, 10, 11, 12, 13, 14, 15, 16, 17, 18, 19, 20, 21, 22, 23, 24, 25, 26, 27, 28, 29, 30, 31, 32, 33, 34, 35, 36, 37, 38, 39, 40, 41, 42, 43, 44, 45, 46, 47, 48, 49, 50, 51, 52, 53, 54, 55, 56, 57, 58, 59, 60, 61, 62, 63, 64, 65, 66, 67, 68, 69, 70, 71, 72, 73, 74, 75, 76, 77, 78, 79, 80, 81, 82, 83, 84]
def iBQ : List Nat := [85, 86, 87, 88]
def pBL : List Nat := [4, 5, 6, 7, 8, 9, 10, 11, 12, 13, 14, 15, 16, 17, 18, 19, 20, 21, 22, 23, 24, 25, 26, 27, 28, 29, 30, 31, 32, 33, 34, 35, 36, 37, 38, 39, 40, 41, 42, 43, 44, 45, 46, 47, 48, 49, 50, 51, 52, 53, 54, 55, 56, 57, 58, 59, 60, 61, 62, 63, 64, 65, 66, 67, 68, 69, 70, 71, 72, 73, 74, 75, 76, 77, 78, 79, 80, 81, 82, 83, 84, 85, 86, 87, 88, 0, 1, 2, 3]
def pBQ : List Nat := [0, 1, 2, 3, 4, 5, 6, 7, 8, 9, 10, 11, 12, 13, 14, 15, 16, 17, 18, 19, 20, 21, 22, 23, 24, 25, 26, 27, 28, 29, 30, 31, 32, 33, 34, 35, 36, 37, 38, 39, 40, 41, 42, 43, 44, 45, 46, 47, 48, 49, 50, 51, 52, 53, 54, 55, 56, 57, 58, 59, 60, 61, 62, 63, 64, 65, 66, 67, 68, 69, 70, 71, 72, 73, 74, 75, 76, 77, 78, 79, 80, 81, 82, 83, 84, 85, 86, 87, 88]
set_option maxRecDepth 20000 in
theorem cBLC {cI cS : ClassId} (h : Nat → Nat → Nat) (g : Nat → Nat) (Λ : s3_T) (π : Nat → Nat) (Ω : sg_T) : iBL.map (fun i => (wB cI cS h g Λ π Ω)[i]?) = (wL cI cS h Λ π).map some := rfl
set_option maxRecDepth 20000 in
theorem cBQC {cI cS : ClassId} (h : Nat → Nat → Nat) (g : Nat → Nat) (Λ : s3_T) (π : Nat → Nat) (Ω : sg_T) : iBQ.map (fun i => (wB cI cS h g Λ π Ω)[i]?) = (wQ cI g Ω).map some := rfl
set_option maxRecDepth 20000 in
theorem cBLP {cI cS : ClassId} (h : Nat → Nat → Nat) (g : Nat → Nat) (Λ : s3_T) (π : Nat → Nat) (Ω : sg_T) (Λ' : s3_T) (π' : Nat → Nat) : pBL.map (fun i => (wQ cI g Ω ++ wL cI cS h Λ' π')[i]?) = (wB cI cS h g Λ' π' Ω).map some := rfl
set_option maxRecDepth 20000 in
theorem cBQP {cI cS : ClassId} (h : Nat → Nat → Nat) (g : Nat → Nat) (Λ : s3_T) (π : Nat → Nat) (Ω : sg_T) (Ω' : sg_T) : pBQ.map (fun i => (wL cI cS h Λ π ++ wQ cI g Ω')[i]?) = (wB cI cS h g Λ π Ω').map some := rfl
theorem nBL : va_nd iBL = true := by decide +kernel
theorem nBQ : va_nd iBQ = true := by decide +kernel
theorem nPL : va_nd pBL = true := by decide +kernel
theorem nPQ : va_nd pBQ = true := by decide +kernel
theorem dBL : ∀ i ∈ iBQ, i ∉ iBL := by decide +kernel
theorem dBQ : ∀ i ∈ iBL, i ∉ iBQ := by decide +kernel
set_option maxRecDepth 20000 in
theorem kL_10 : cs_ RL 10 yL_apart cL_apart 3 (some .int) 2 := ⟨uw_in 368 rfl rfl, uw_in 369 rfl rfl, uw_in 1 rfl rfl, uw_in 370 rfl rfl, ⟨by decide, by decide, by decide +kernel⟩⟩
set_option maxRecDepth 20000 in
theorem kL_102 : cv_ RL 102 yX7_cry cX7_cry 3 (some .int) 2 := ⟨uw_in 319 rfl rfl, uw_in 320 rfl rfl, uw_in 321 rfl rfl, uw_in 2 rfl rfl, uw_in 322 rfl rfl, ⟨by decide, by decide, by decide +kernel⟩⟩
set_option maxRecDepth 20000 in
theorem kL_105 : cv_ RL 105 yX7_dash cX7_dash 2 (some .int) 1 := ⟨uw_in 348 rfl rfl, uw_in 349 rfl rfl, uw_in 350 rfl rfl, uw_in 2 rfl rfl, uw_in 351 rfl rfl, ⟨by decide, by decide, by decide +kernel⟩⟩
set_option maxRecDepth 20000 in
theorem kL_108 : cs_ RL 108 yL_league cL_league 14 (some .boolean) 5 := ⟨uw_in 386 rfl rfl, uw_in 387 rfl rfl, uw_in 1 rfl rfl, uw_in 388 rfl rfl, ⟨by decide, by decide, by decide +kernel⟩⟩
set_option maxRecDepth 20000 in
theorem kL_18 : cs_ RL 18 yL_ahead cL_ahead 5 (some .boolean) 3 := ⟨uw_in 389 rfl rfl, uw_in 390 rfl rfl, uw_in 1 rfl rfl, uw_in 391 rfl rfl, ⟨by decide, by decide, by decide +kernel⟩⟩
set_option maxRecDepth 20000 in
theorem kL_22 : cv_ RL 22 yX7_player cX7_player 3 (some .int) 2 := ⟨uw_in 392 rfl rfl, uw_in 393 rfl rfl, uw_in 394 rfl rfl, uw_in 2 rfl rfl, uw_in 395 rfl rfl, ⟨by decide, by decide, by decide +kernel⟩⟩
set_option maxRecDepth 20000 in
theorem kL_25 : cv_ RL 25 yX7_ranked cX7_ranked 2 (some .int) 1 := ⟨uw_in 403 rfl rfl, uw_in 404 rfl rfl, uw_in 405 rfl rfl, uw_in 2 rfl rfl, uw_in 406 rfl rfl, ⟨by decide, by decide, by decide +kernel⟩⟩
set_option maxRecDepth 20000 in
theorem kL_29 : cv_ RL 29 yX7_spot cX7_spot 3 (some .int) 2 := ⟨uw_in 411 rfl rfl, uw_in 412 rfl rfl, uw_in 413 rfl rfl, uw_in 2 rfl rfl, uw_in 414 rfl rfl, ⟨by decide, by decide, by decide +kernel⟩⟩
set_option maxRecDepth 20000 in
theorem kL_32 : cs_ RL 32 yL_here cL_here 4 (some .int) 2 := ⟨uw_in 371 rfl rfl, uw_in 372 rfl rfl, uw_in 1 rfl rfl, uw_in 373 rfl rfl, ⟨by decide, by decide, by decide +kernel⟩⟩
set_option maxRecDepth 20000 in
theorem kL_36 : cs_ RL 36 yL_good cL_good 3 (some .boolean) 3 := ⟨uw_in 380 rfl rfl, uw_in 381 rfl rfl, uw_in 1 rfl rfl, uw_in 382 rfl rfl, ⟨by decide, by decide, by decide +kernel⟩⟩
set_option maxRecDepth 20000 in
theorem kL_40 : cs_ RL 40 yL_count cL_count 3 (some .int) 1 := ⟨uw_in 374 rfl rfl, uw_in 375 rfl rfl, uw_in 1 rfl rfl, uw_in 376 rfl rfl, ⟨by decide, by decide, by decide +kernel⟩⟩
set_option maxRecDepth 20000 in
theorem kL_43 : cv_ RL 43 yX7_bestSpot cX7_bestSpot 1 (some .int) 0 := ⟨uw_in 419 rfl rfl, uw_in 420 rfl rfl, uw_in 421 rfl rfl, uw_in 2 rfl rfl, uw_in 422 rfl rfl, ⟨by decide, by decide, by decide +kernel⟩⟩
set_option maxRecDepth 20000 in
theorem kL_47 : cv_ RL 47 yX7_inSight cX7_inSight 1 (some .int) 0 := ⟨uw_in 433 rfl rfl, uw_in 434 rfl rfl, uw_in 435 rfl rfl, uw_in 2 rfl rfl, uw_in 436 rfl rfl, ⟨by decide, by decide, by decide +kernel⟩⟩
set_option maxRecDepth 20000 in
theorem kL_50 : cv_ RL 50 yX7_couldDash cX7_couldDash 1 (some .int) 0 := ⟨uw_in 441 rfl rfl, uw_in 442 rfl rfl, uw_in 443 rfl rfl, uw_in 2 rfl rfl, uw_in 444 rfl rfl, ⟨by decide, by decide, by decide +kernel⟩⟩
set_option maxRecDepth 20000 in
theorem kL_53 : cv_ RL 53 yX7_fewestSteps cX7_fewestSteps 1 (some .int) 0 := ⟨uw_in 449 rfl rfl, uw_in 450 rfl rfl, uw_in 451 rfl rfl, uw_in 2 rfl rfl, uw_in 452 rfl rfl, ⟨by decide, by decide, by decide +kernel⟩⟩
set_option maxRecDepth 20000 in
theorem kL_56 : cs_ RL 56 yL_steps cL_steps 11 (some .int) 2 := ⟨uw_in 465 rfl rfl, uw_in 466 rfl rfl, uw_in 1 rfl rfl, uw_in 467 rfl rfl, ⟨by decide, by decide, by decide +kernel⟩⟩
set_option maxRecDepth 20000 in
theorem kL_60 : cv_ RL 60 yX7_nextSeeker cX7_nextSeeker 1 (some .int) 0 := ⟨uw_in 468 rfl rfl, uw_in 469 rfl rfl, uw_in 470 rfl rfl, uw_in 2 rfl rfl, uw_in 471 rfl rfl, ⟨by decide, by decide, by decide +kernel⟩⟩
set_option maxRecDepth 20000 in
theorem kL_63 : cv_ RL 63 yX7_total cX7_total 2 (some .int) 1 := ⟨uw_in 479 rfl rfl, uw_in 480 rfl rfl, uw_in 481 rfl rfl, uw_in 2 rfl rfl, uw_in 482 rfl rfl, ⟨by decide, by decide, by decide +kernel⟩⟩
set_option maxRecDepth 20000 in
theorem kL_66 : cs_ RL 66 yL_hidden cL_hidden 3 (some .int) 1 := ⟨uw_in 377 rfl rfl, uw_in 378 rfl rfl, uw_in 1 rfl rfl, uw_in 379 rfl rfl, ⟨by decide, by decide, by decide +kernel⟩⟩
set_option maxRecDepth 20000 in
theorem kL_74 : cs_ RL 74 yL_low cL_low 2 (some .int) 2 := ⟨uw_in 364 rfl rfl, uw_in 365 rfl rfl, uw_in 1 rfl rfl, uw_in 366 rfl rfl, ⟨by decide, by decide, by decide +kernel⟩⟩
set_option maxRecDepth 20000 in
theorem kL_77 : cv_ RL 77 yX7_join cX7_join 1 (some .int) 0 := ⟨uw_in 205 rfl rfl, uw_in 206 rfl rfl, uw_in 207 rfl rfl, uw_in 2 rfl rfl, uw_in 208 rfl rfl, ⟨by decide, by decide, by decide +kernel⟩⟩
set_option maxRecDepth 20000 in
theorem kL_80 : cv_ RL 80 yX7_set cX7_set 3 (some .int) 2 := ⟨uw_in 167 rfl rfl, uw_in 168 rfl rfl, uw_in 169 rfl rfl, uw_in 2 rfl rfl, uw_in 170 rfl rfl, ⟨by decide, by decide, by decide +kernel⟩⟩
set_option maxRecDepth 20000 in
theorem kL_83 : cv_ RL 83 yX7_setting cX7_setting 2 (some .int) 1 := ⟨uw_in 200 rfl rfl, uw_in 201 rfl rfl, uw_in 202 rfl rfl, uw_in 2 rfl rfl, uw_in 203 rfl rfl, ⟨by decide, by decide, by decide +kernel⟩⟩
set_option maxRecDepth 20000 in
theorem kL_86 : cv_ RL 86 yX7_walk cX7_walk 2 (some .int) 1 := ⟨uw_in 309 rfl rfl, uw_in 310 rfl rfl, uw_in 311 rfl rfl, uw_in 2 rfl rfl, uw_in 312 rfl rfl, ⟨by decide, by decide, by decide +kernel⟩⟩
set_option maxRecDepth 20000 in
theorem kL_89 : cv_ RL 89 yX7_seek cX7_seek 1 (some .int) 0 := ⟨uw_in 287 rfl rfl, uw_in 288 rfl rfl, uw_in 289 rfl rfl, uw_in 2 rfl rfl, uw_in 290 rfl rfl, ⟨by decide, by decide, by decide +kernel⟩⟩
set_option maxRecDepth 20000 in
theorem kL_92 : cv_ RL 92 yX7_start cX7_start 3 (some .int) 2 := ⟨uw_in 212 rfl rfl, uw_in 213 rfl rfl, uw_in 214 rfl rfl, uw_in 2 rfl rfl, uw_in 215 rfl rfl, ⟨by decide, by decide, by decide +kernel⟩⟩
set_option maxRecDepth 20000 in
theorem kL_95 : cv_ RL 95 yX7_hide cX7_hide 3 (some .int) 2 := ⟨uw_in 271 rfl rfl, uw_in 272 rfl rfl, uw_in 273 rfl rfl, uw_in 2 rfl rfl, uw_in 274 rfl rfl, ⟨by decide, by decide, by decide +kernel⟩⟩
set_option maxRecDepth 20000 in
theorem kL_98 : cs_ RL 98 yL_end cL_end 5 none 4 := ⟨uw_in 383 rfl rfl, uw_in 384 rfl rfl, uw_in 1 rfl rfl, uw_in 385 rfl rfl, ⟨by decide, by decide, by decide +kernel⟩⟩
def fL_low (a0 a1 : Int32) : Option (Int32) := (o_k (¬ a1 = 0) (some ((a0 &&& (2147483647 : Int32)) - (a0 &&& (2147483647 : Int32)) / a1 * a1)))
set_option maxRecDepth 100000 in
set_option maxHeartbeats 16000000 in
theorem mL_low (l : Launch) (D : va_G) (a0 a1 : Int32) (r : Int32) (hrun : fL_low a0 a1 = some r) : me_I l D [] yL_low cL_low 2 .int 0 0 [] [.int a0, .int a1] r [] := by
  refine me_ofI (plainFor_of_name (by decide)) (Nat.le_of_ble_eq_true rfl) ?_
  intro p e s m args below meth c A ls S hK Y hA hl hr hlk hZ
  have hx := S.1
  have hb := S.2.1
  have hl : lv_has ls 2 [(0, .int a0), (1, .int a1)] := hl
  unfold fL_low at hrun
  refine lv_iload_n hx hb dL_low_0 rfl (lv_at hl 0 rfl) ?_
  refine lv_ldc (v := (2147483647 : Int32)) hx hb S.2.2.2.1 (S.2.2.2.2 _ (List.mem_cons_of_mem _ (uw_in 367 rfl rfl))) dL_low_1 ?_
  refine lv_iand hx hb dL_low_3 ?_
  refine lv_iload_n hx hb dL_low_4 rfl (lv_at hl 1 rfl) ?_
  obtain ⟨c_1, hrun⟩ := o_kh hrun
  refine lv_irem hx hb dL_low_5 c_1 ?_
  cases hrun
  exact me_ri S hK Y hr hlk rfl dL_low_6
def lL_apart_2 : Nat → Int32 → Int32 → Int32 → Option (Int32)
  | 0, _, _, _ => none
  | n + 1, a0, a1, a2 => (if ((a0 + a2) - (a0 + a2) / (16 : Int32) * (16 : Int32)) = a1 then (some a2) else (lL_apart_2 n a0 a1 (a2 + (1 : Int32))))
def fL_apart (a0 a1 : Int32) : Option (Int32) := ((lL_apart_2 70 a0 a1 (0 : Int32)).bind fun q_2 => (if ((16 : Int32) - q_2) ≤ q_2 then (some ((16 : Int32) - q_2)) else (some q_2)))
set_option maxRecDepth 100000 in
set_option maxHeartbeats 16000000 in
theorem mL_apart (l : Launch) (D : va_G) (a0 a1 : Int32) (r : Int32) (hrun : fL_apart a0 a1 = some r) : me_I l D [] yL_apart cL_apart 3 .int 0 0 [] [.int a0, .int a1] r [] := by
  refine me_ofI (plainFor_of_name (by decide)) (Nat.le_of_ble_eq_true rfl) ?_
  intro p e s m args below meth c A ls S hK Y hA hl hr hlk hZ
  have hx := S.1
  have hb := S.2.1
  have hl : lv_has ls 3 [(0, .int a0), (1, .int a1)] := hl
  have lp2 : ∀ (n : Nat) (a0 : Int32) (a1 : Int32) (a2 : Int32) (q_x : Int32), lL_apart_2 n a0 a1 a2 = some q_x → (∀ (H : Heap) (locs : List Loc) (ls : Array Slot), dy_ D A s [] H locs → lv_has ls 3 [(2, .int q_x)] → W p l e (rm_ 0 0) s m args below meth c H locs 0 0 (MQ below (me_Qi D [] A r []) args s 0 0 A) (F0 m 18 ls [])) → ∀ (H : Heap) (locs : List Loc) (ls : Array Slot), dy_ D A s [] H locs → lv_has ls 3 [(0, .int a0), (1, .int a1), (2, .int a2)] → W p l e (rm_ 0 0) s m args below meth c H locs 0 0 (MQ below (me_Qi D [] A r []) args s 0 0 A) (F0 m 2 ls []) := by
    intro n
    induction n with
    | zero => intro a0 a1 a2 q_x hrun; cases hrun
    | succ n ih =>
      intro a0 a1 a2 q_x hrun kx H locs ls Y hl
      unfold lL_apart_2 at hrun
      refine lv_iload_n hx hb dL_apart_2 rfl (lv_at hl 0 rfl) ?_
      refine lv_iload_n hx hb dL_apart_3 rfl (lv_at hl 2 rfl) ?_
      refine lv_iadd hx hb dL_apart_4 ?_
      refine lv_bipush (v := (16 : Int32)) hx hb dL_apart_5 (by decide) ?_
      refine lv_irem hx hb dL_apart_7 (by decide) ?_
      refine lv_iload_n hx hb dL_apart_8 rfl (lv_at hl 1 rfl) ?_
      refine lv_icmp_eq (tgt := 18) hx hb dL_apart_9 (by decide) (fun c_1 => ?_) (fun c_1 => ?_)
      · have hrun := o_t hrun c_1
        cases hrun
        exact kx _ _ _ Y (lv_sub hl [2] rfl)
      · have hrun := o_f hrun c_1
        refine lv_iinc (v := (a2 + (1 : Int32))) (lv' := [(2, .int (a2 + (1 : Int32))), (0, .int a0), (1, .int a1)]) hx hb dL_apart_12 hl (k := 2) rfl (by rfl) (Nat.le_of_ble_eq_true rfl) rfl (fun ls hl => ?_)
        refine lv_goto (tgt := 2) hx hb dL_apart_15 (by decide) ?_
        exact ih a0 a1 (a2 + (1 : Int32)) q_x hrun kx _ _ _ Y (lv_sub hl [1, 2, 0] rfl)
  unfold fL_apart at hrun
  refine lv_iconst (v := (0 : Int32)) hx hb dL_apart_0 (by decide) ?_
  refine lv_istore_n (lv' := [(2, .int (0 : Int32)), (0, .int a0), (1, .int a1)]) hx hb dL_apart_1 rfl hl (Nat.le_of_ble_eq_true rfl) rfl (fun ls hl => ?_)
  obtain ⟨q_2, e_3, hrun⟩ := o_bh hrun
  refine lp2 70 a0 a1 (0 : Int32) q_2 e_3 (fun H locs ls Y hl => ?_) _ _ _ Y (lv_sub hl [1, 2, 0] rfl)
  refine lv_iload_n hx hb dL_apart_18 rfl (lv_at hl 0 rfl) ?_
  refine lv_bipush (v := (16 : Int32)) hx hb dL_apart_19 (by decide) ?_
  refine lv_iload_n hx hb dL_apart_21 rfl (lv_at hl 0 rfl) ?_
  refine lv_isub hx hb dL_apart_22 ?_
  refine lv_icmp_ge (tgt := 30) hx hb dL_apart_23 (by decide) (fun c_4 => ?_) (fun c_4 => ?_)
  · have hrun := o_t hrun c_4
    refine lv_bipush (v := (16 : Int32)) hx hb dL_apart_30 (by decide) ?_
    refine lv_iload_n hx hb dL_apart_32 rfl (lv_at hl 0 rfl) ?_
    refine lv_isub hx hb dL_apart_33 ?_
    cases hrun
    exact me_ri S hK Y hr hlk rfl dL_apart_34
  · have hrun := o_f hrun c_4
    refine lv_iload_n hx hb dL_apart_26 rfl (lv_at hl 0 rfl) ?_
    refine lv_goto (tgt := 34) hx hb dL_apart_27 (by decide) ?_
    cases hrun
    exact me_ri S hK Y hr hlk rfl dL_apart_34
def lL_count_4 : Nat → Int32 → Int32 → Option (Int32)
  | 0, _, _ => none
  | n + 1, a1, a2 => (if a2 ≤ 0 then (some a1) else (lL_count_4 n (a1 + (a2 - a2 / (2 : Int32) * (2 : Int32))) (a2 / (2 : Int32))))
def fL_count (a0 : Int32) : Option (Int32) := ((lL_count_4 70 (0 : Int32) a0).bind fun q_2 => (some q_2))
set_option maxRecDepth 100000 in
set_option maxHeartbeats 16000000 in
theorem mL_count (l : Launch) (D : va_G) (a0 : Int32) (r : Int32) (hrun : fL_count a0 = some r) : me_I l D [] yL_count cL_count 3 .int 0 0 [] [.int a0] r [] := by
  refine me_ofI (plainFor_of_name (by decide)) (Nat.le_of_ble_eq_true rfl) ?_
  intro p e s m args below meth c A ls S hK Y hA hl hr hlk hZ
  have hx := S.1
  have hb := S.2.1
  have hl : lv_has ls 3 [(0, .int a0)] := hl
  have lp4 : ∀ (n : Nat) (a1 : Int32) (a2 : Int32) (q_x : Int32), lL_count_4 n a1 a2 = some q_x → (∀ (H : Heap) (locs : List Loc) (ls : Array Slot), dy_ D A s [] H locs → lv_has ls 3 [(1, .int q_x)] → W p l e (rm_ 0 0) s m args below meth c H locs 0 0 (MQ below (me_Qi D [] A r []) args s 0 0 A) (F0 m 21 ls [])) → ∀ (H : Heap) (locs : List Loc) (ls : Array Slot), dy_ D A s [] H locs → lv_has ls 3 [(1, .int a1), (2, .int a2)] → W p l e (rm_ 0 0) s m args below meth c H locs 0 0 (MQ below (me_Qi D [] A r []) args s 0 0 A) (F0 m 4 ls []) := by
    intro n
    induction n with
    | zero => intro a1 a2 q_x hrun; cases hrun
    | succ n ih =>
      intro a1 a2 q_x hrun kx H locs ls Y hl
      unfold lL_count_4 at hrun
      refine lv_iload_n hx hb dL_count_4 rfl (lv_at hl 1 rfl) ?_
      refine lv_if_le (tgt := 21) hx hb dL_count_5 (by decide) (fun c_1 => ?_) (fun c_1 => ?_)
      · have hrun := o_t hrun c_1
        cases hrun
        exact kx _ _ _ Y (lv_sub hl [0] rfl)
      · have hrun := o_f hrun c_1
        refine lv_iload_n hx hb dL_count_8 rfl (lv_at hl 0 rfl) ?_
        refine lv_iload_n hx hb dL_count_9 rfl (lv_at hl 1 rfl) ?_
        refine lv_iconst (v := (2 : Int32)) hx hb dL_count_10 (by decide) ?_
        refine lv_irem hx hb dL_count_11 (by decide) ?_
        refine lv_iadd hx hb dL_count_12 ?_
        refine lv_istore_n (lv' := [(1, .int (a1 + (a2 - a2 / (2 : Int32) * (2 : Int32)))), (2, .int a2)]) hx hb dL_count_13 rfl hl (Nat.le_of_ble_eq_true rfl) rfl (fun ls hl => ?_)
        refine lv_iload_n hx hb dL_count_14 rfl (lv_at hl 1 rfl) ?_
        refine lv_iconst (v := (2 : Int32)) hx hb dL_count_15 (by decide) ?_
        refine lv_idiv hx hb dL_count_16 (by decide) ?_
        refine lv_istore_n (lv' := [(2, .int (a2 / (2 : Int32))), (1, .int (a1 + (a2 - a2 / (2 : Int32) * (2 : Int32))))]) hx hb dL_count_17 rfl hl (Nat.le_of_ble_eq_true rfl) rfl (fun ls hl => ?_)
        refine lv_goto (tgt := 4) hx hb dL_count_18 (by decide) ?_
        exact ih (a1 + (a2 - a2 / (2 : Int32) * (2 : Int32))) (a2 / (2 : Int32)) q_x hrun kx _ _ _ Y (lv_sub hl [1, 0] rfl)
  unfold fL_count at hrun
  refine lv_iconst (v := (0 : Int32)) hx hb dL_count_0 (by decide) ?_
  refine lv_istore_n (lv' := [(1, .int (0 : Int32)), (0, .int a0)]) hx hb dL_count_1 rfl hl (Nat.le_of_ble_eq_true rfl) rfl (fun ls hl => ?_)
  refine lv_iload_n hx hb dL_count_2 rfl (lv_at hl 1 rfl) ?_
  refine lv_istore_n (lv' := [(2, .int a0), (1, .int (0 : Int32)), (0, .int a0)]) hx hb dL_count_3 rfl hl (Nat.le_of_ble_eq_true rfl) rfl (fun ls hl => ?_)
  obtain ⟨q_2, e_3, hrun⟩ := o_bh hrun
  refine lp4 70 (0 : Int32) a0 q_2 e_3 (fun H locs ls Y hl => ?_) _ _ _ Y (lv_sub hl [1, 0] rfl)
  refine lv_iload_n hx hb dL_count_21 rfl (lv_at hl 0 rfl) ?_
  cases hrun
  exact me_ri S hK Y hr hlk rfl dL_count_22
def lL_here_4 : Nat → Int32 → Int32 → Int32 → (sg_T) → Option (Int32)
  | 0, _, _, _, _ => none
  | n + 1, a1, a2, a3, Ω => (if (8 : Int32) ≤ a3 then (some a2) else (o_x (((6 : Int32) * a3) + (5 : Int32)) 48 ((if ((Ω 1) ((((6 : Int32) * a3) + (5 : Int32))).toNatClampNeg) = a1 then (some ((1 : Int32) <<< (a3 &&& 31))) else (some (0 : Int32))).bind fun q_4 => (lL_here_4 n a1 (a2 ||| q_4) (a3 + (1 : Int32)) Ω))))
def fL_here (a1 : Int32) (Ω : sg_T) : Option (Int32) := ((lL_here_4 70 a1 (0 : Int32) (0 : Int32) Ω).bind fun q_7 => (some q_7))
set_option maxRecDepth 100000 in
set_option maxHeartbeats 16000000 in
theorem mL_here (l : Launch) (D : va_G) (cI : ClassId) (g : Nat → Nat) (Ω : sg_T) (a1 : Int32) (r : Int32) (hrun : fL_here a1 Ω = some r) : me_I l D (tQ cI) yL_here cL_here 4 .int 0 0 (wQ cI g Ω) [.ref (g 1), .int a1] r (wQ cI g Ω) := by
  refine me_ofI (plainFor_of_name (by decide)) (Nat.le_of_ble_eq_true rfl) ?_
  intro p e s m args below meth c A ls S hK Y hA hl hr hlk hZ
  have hx := S.1
  have hb := S.2.1
  have hl : lv_has ls 4 [(0, .ref (g 1)), (1, .int a1)] := hl
  have lp4 : ∀ (n : Nat) (a1 : Int32) (a2 : Int32) (a3 : Int32) (Ω : sg_T) (q_x : Int32), lL_here_4 n a1 a2 a3 Ω = some q_x → (∀ (H : Heap) (locs : List Loc) (ls : Array Slot), dy_ D A s (wQ cI g Ω) H locs → lv_has ls 4 [(0, .ref (g 1)), (2, .int q_x)] → W p l e (rm_ 0 0) s m args below meth c H locs 0 0 (MQ below (me_Qi D (tQ cI) A r (wQ cI g Ω)) args s 0 0 A) (F0 m 38 ls [])) → ∀ (H : Heap) (locs : List Loc) (ls : Array Slot), dy_ D A s (wQ cI g Ω) H locs → lv_has ls 4 [(0, .ref (g 1)), (1, .int a1), (2, .int a2), (3, .int a3)] → W p l e (rm_ 0 0) s m args below meth c H locs 0 0 (MQ below (me_Qi D (tQ cI) A r (wQ cI g Ω)) args s 0 0 A) (F0 m 4 ls []) := by
    intro n
    induction n with
    | zero => intro a1 a2 a3 Ω q_x hrun; cases hrun
    | succ n ih =>
      intro a1 a2 a3 Ω q_x hrun kx H locs ls Y hl
      unfold lL_here_4 at hrun
      refine lv_iload_n hx hb dL_here_4 rfl (lv_at hl 3 rfl) ?_
      refine lv_bipush (v := (8 : Int32)) hx hb dL_here_5 (by decide) ?_
      refine lv_icmp_ge (tgt := 38) hx hb dL_here_7 (by decide) (fun c_1 => ?_) (fun c_1 => ?_)
      · have hrun := o_t hrun c_1
        cases hrun
        exact kx _ _ _ Y (lv_sub hl [0, 2] rfl)
      · have hrun := o_f hrun c_1
        refine lv_iload_n hx hb dL_here_10 rfl (lv_at hl 2 rfl) ?_
        refine lv_aload_n hx hb dL_here_11 rfl (lv_at hl 0 rfl) ?_
        refine lv_bipush (v := (6 : Int32)) hx hb dL_here_12 (by decide) ?_
        refine lv_iload_n hx hb dL_here_14 rfl (lv_at hl 3 rfl) ?_
        refine lv_imul hx hb dL_here_15 ?_
        refine lv_iconst (v := (5 : Int32)) hx hb dL_here_16 (by decide) ?_
        refine lv_iadd hx hb dL_here_17 ?_
        obtain ⟨b_2, hrun⟩ := o_xh hrun
        refine ia S hK Y 0 0 (f := (Ω 1)) rfl rfl b_2 dL_here_18 ?_
        refine lv_iload_n hx hb dL_here_19 rfl (lv_at hl 1 rfl) ?_
        obtain ⟨q_4, e_5, hrun⟩ := o_bh hrun
        have kx6 : ∀ (H : Heap) (locs : List Loc) (ls : Array Slot), dy_ D A s (wQ cI g Ω) H locs → lv_has ls 4 [(0, .ref (g 1)), (1, .int a1), (3, .int a3)] → W p l e (rm_ 0 0) s m args below meth c H locs 0 0 (MQ below (me_Qi D (tQ cI) A r (wQ cI g Ω)) args s 0 0 A) (F0 m 30 ls [.int q_4, .int a2]) := by
          intro H locs ls Y hl
          refine lv_ior hx hb dL_here_30 ?_
          refine lv_istore_n (lv' := [(2, .int (a2 ||| q_4)), (0, .ref (g 1)), (1, .int a1), (3, .int a3)]) hx hb dL_here_31 rfl hl (Nat.le_of_ble_eq_true rfl) rfl (fun ls hl => ?_)
          refine lv_iinc (v := (a3 + (1 : Int32))) (lv' := [(3, .int (a3 + (1 : Int32))), (2, .int (a2 ||| q_4)), (0, .ref (g 1)), (1, .int a1)]) hx hb dL_here_32 hl (k := 3) rfl (by rfl) (Nat.le_of_ble_eq_true rfl) rfl (fun ls hl => ?_)
          refine lv_goto (tgt := 4) hx hb dL_here_35 (by decide) ?_
          exact ih a1 (a2 ||| q_4) (a3 + (1 : Int32)) Ω q_x hrun kx _ _ _ Y (lv_sub hl [2, 3, 1, 0] rfl)
        have hrun := e_5
        refine lv_icmp_ne (tgt := 29) hx hb dL_here_20 (by decide) (fun c_3 => ?_) (fun c_3 => ?_)
        · have hrun := o_f hrun c_3
          refine lv_iconst (v := (0 : Int32)) hx hb dL_here_29 (by decide) ?_
          cases hrun
          exact kx6 _ _ _ Y (lv_sub hl [0, 1, 3] rfl)
        · have hrun := o_t hrun c_3
          refine lv_iconst (v := (1 : Int32)) hx hb dL_here_23 (by decide) ?_
          refine lv_iload_n hx hb dL_here_24 rfl (lv_at hl 3 rfl) ?_
          refine lv_ishl hx hb dL_here_25 ?_
          refine lv_goto (tgt := 30) hx hb dL_here_26 (by decide) ?_
          cases hrun
          exact kx6 _ _ _ Y (lv_sub hl [0, 1, 3] rfl)
  unfold fL_here at hrun
  refine lv_iconst (v := (0 : Int32)) hx hb dL_here_0 (by decide) ?_
  refine lv_istore_n (lv' := [(2, .int (0 : Int32)), (0, .ref (g 1)), (1, .int a1)]) hx hb dL_here_1 rfl hl (Nat.le_of_ble_eq_true rfl) rfl (fun ls hl => ?_)
  refine lv_iconst (v := (0 : Int32)) hx hb dL_here_2 (by decide) ?_
  refine lv_istore_n (lv' := [(3, .int (0 : Int32)), (2, .int (0 : Int32)), (0, .ref (g 1)), (1, .int a1)]) hx hb dL_here_3 rfl hl (Nat.le_of_ble_eq_true rfl) rfl (fun ls hl => ?_)
  obtain ⟨q_7, e_8, hrun⟩ := o_bh hrun
  refine lp4 70 a1 (0 : Int32) (0 : Int32) Ω q_7 e_8 (fun H locs ls Y hl => ?_) _ _ _ Y (lv_sub hl [2, 3, 1, 0] rfl)
  refine lv_iload_n hx hb dL_here_38 rfl (lv_at hl 1 rfl) ?_
  cases hrun
  exact me_ri S hK Y hr hlk rfl dL_here_39
def lL_hidden_4 : Nat → Int32 → Int32 → (sg_T) → Option (Int32)
  | 0, _, _, _ => none
  | n + 1, a1, a2, Ω => (if (8 : Int32) ≤ a2 then (some a1) else (o_x (((6 : Int32) * a2) + (5 : Int32)) 48 ((if ((Ω 1) ((((6 : Int32) * a2) + (5 : Int32))).toNatClampNeg) ≤ 0 then (some (0 : Int32)) else (some (1 : Int32))).bind fun q_4 => (lL_hidden_4 n (a1 + q_4) (a2 + (1 : Int32)) Ω))))
def fL_hidden (Ω : sg_T) : Option (Int32) := ((lL_hidden_4 70 (0 : Int32) (0 : Int32) Ω).bind fun q_7 => (some q_7))
set_option maxRecDepth 100000 in
set_option maxHeartbeats 16000000 in
theorem mL_hidden (l : Launch) (D : va_G) (cI : ClassId) (g : Nat → Nat) (Ω : sg_T) (r : Int32) (hrun : fL_hidden Ω = some r) : me_I l D (tQ cI) yL_hidden cL_hidden 3 .int 0 0 (wQ cI g Ω) [.ref (g 1)] r (wQ cI g Ω) := by
  refine me_ofI (plainFor_of_name (by decide)) (Nat.le_of_ble_eq_true rfl) ?_
  intro p e s m args below meth c A ls S hK Y hA hl hr hlk hZ
  have hx := S.1
  have hb := S.2.1
  have hl : lv_has ls 3 [(0, .ref (g 1))] := hl
  have lp4 : ∀ (n : Nat) (a1 : Int32) (a2 : Int32) (Ω : sg_T) (q_x : Int32), lL_hidden_4 n a1 a2 Ω = some q_x → (∀ (H : Heap) (locs : List Loc) (ls : Array Slot), dy_ D A s (wQ cI g Ω) H locs → lv_has ls 3 [(0, .ref (g 1)), (1, .int q_x)] → W p l e (rm_ 0 0) s m args below meth c H locs 0 0 (MQ below (me_Qi D (tQ cI) A r (wQ cI g Ω)) args s 0 0 A) (F0 m 35 ls [])) → ∀ (H : Heap) (locs : List Loc) (ls : Array Slot), dy_ D A s (wQ cI g Ω) H locs → lv_has ls 3 [(0, .ref (g 1)), (1, .int a1), (2, .int a2)] → W p l e (rm_ 0 0) s m args below meth c H locs 0 0 (MQ below (me_Qi D (tQ cI) A r (wQ cI g Ω)) args s 0 0 A) (F0 m 4 ls []) := by
    intro n
    induction n with
    | zero => intro a1 a2 Ω q_x hrun; cases hrun
    | succ n ih =>
      intro a1 a2 Ω q_x hrun kx H locs ls Y hl
      unfold lL_hidden_4 at hrun
      refine lv_iload_n hx hb dL_hidden_4 rfl (lv_at hl 2 rfl) ?_
      refine lv_bipush (v := (8 : Int32)) hx hb dL_hidden_5 (by decide) ?_
      refine lv_icmp_ge (tgt := 35) hx hb dL_hidden_7 (by decide) (fun c_1 => ?_) (fun c_1 => ?_)
      · have hrun := o_t hrun c_1
        cases hrun
        exact kx _ _ _ Y (lv_sub hl [0, 1] rfl)
      · have hrun := o_f hrun c_1
        refine lv_iload_n hx hb dL_hidden_10 rfl (lv_at hl 1 rfl) ?_
        refine lv_aload_n hx hb dL_hidden_11 rfl (lv_at hl 0 rfl) ?_
        refine lv_bipush (v := (6 : Int32)) hx hb dL_hidden_12 (by decide) ?_
        refine lv_iload_n hx hb dL_hidden_14 rfl (lv_at hl 2 rfl) ?_
        refine lv_imul hx hb dL_hidden_15 ?_
        refine lv_iconst (v := (5 : Int32)) hx hb dL_hidden_16 (by decide) ?_
        refine lv_iadd hx hb dL_hidden_17 ?_
        obtain ⟨b_2, hrun⟩ := o_xh hrun
        refine ia S hK Y 0 0 (f := (Ω 1)) rfl rfl b_2 dL_hidden_18 ?_
        obtain ⟨q_4, e_5, hrun⟩ := o_bh hrun
        have kx6 : ∀ (H : Heap) (locs : List Loc) (ls : Array Slot), dy_ D A s (wQ cI g Ω) H locs → lv_has ls 3 [(0, .ref (g 1)), (2, .int a2)] → W p l e (rm_ 0 0) s m args below meth c H locs 0 0 (MQ below (me_Qi D (tQ cI) A r (wQ cI g Ω)) args s 0 0 A) (F0 m 27 ls [.int q_4, .int a1]) := by
          intro H locs ls Y hl
          refine lv_iadd hx hb dL_hidden_27 ?_
          refine lv_istore_n (lv' := [(1, .int (a1 + q_4)), (0, .ref (g 1)), (2, .int a2)]) hx hb dL_hidden_28 rfl hl (Nat.le_of_ble_eq_true rfl) rfl (fun ls hl => ?_)
          refine lv_iinc (v := (a2 + (1 : Int32))) (lv' := [(2, .int (a2 + (1 : Int32))), (1, .int (a1 + q_4)), (0, .ref (g 1))]) hx hb dL_hidden_29 hl (k := 2) rfl (by rfl) (Nat.le_of_ble_eq_true rfl) rfl (fun ls hl => ?_)
          refine lv_goto (tgt := 4) hx hb dL_hidden_32 (by decide) ?_
          exact ih (a1 + q_4) (a2 + (1 : Int32)) Ω q_x hrun kx _ _ _ Y (lv_sub hl [2, 1, 0] rfl)
        have hrun := e_5
        refine lv_if_le (tgt := 26) hx hb dL_hidden_19 (by decide) (fun c_3 => ?_) (fun c_3 => ?_)
        · have hrun := o_t hrun c_3
          refine lv_iconst (v := (0 : Int32)) hx hb dL_hidden_26 (by decide) ?_
          cases hrun
          exact kx6 _ _ _ Y (lv_sub hl [0, 2] rfl)
        · have hrun := o_f hrun c_3
          refine lv_iconst (v := (1 : Int32)) hx hb dL_hidden_22 (by decide) ?_
          refine lv_goto (tgt := 27) hx hb dL_hidden_23 (by decide) ?_
          cases hrun
          exact kx6 _ _ _ Y (lv_sub hl [0, 2] rfl)
  unfold fL_hidden at hrun
  refine lv_iconst (v := (0 : Int32)) hx hb dL_hidden_0 (by decide) ?_
  refine lv_istore_n (lv' := [(1, .int (0 : Int32)), (0, .ref (g 1))]) hx hb dL_hidden_1 rfl hl (Nat.le_of_ble_eq_true rfl) rfl (fun ls hl => ?_)
  refine lv_iconst (v := (0 : Int32)) hx hb dL_hidden_2 (by decide) ?_
  refine lv_istore_n (lv' := [(2, .int (0 : Int32)), (1, .int (0 : Int32)), (0, .ref (g 1))]) hx hb dL_hidden_3 rfl hl (Nat.le_of_ble_eq_true rfl) rfl (fun ls hl => ?_)
  obtain ⟨q_7, e_8, hrun⟩ := o_bh hrun
  refine lp4 70 (0 : Int32) (0 : Int32) Ω q_7 e_8 (fun H locs ls Y hl => ?_) _ _ _ Y (lv_sub hl [2, 1, 0] rfl)
  refine lv_iload_n hx hb dL_hidden_35 rfl (lv_at hl 1 rfl) ?_
  cases hrun
  exact me_ri S hK Y hr hlk rfl dL_hidden_36
def fL_good (a2 : Int32) (Ω : sg_T) : Option (Int32) := (if a2 = 0 then (some (0 : Int32)) else ((fL_apart (0 : Int32) a2).bind fun r_2 => (if ((Ω 4) ((8 : Int32)).toNatClampNeg) < r_2 then (some (0 : Int32)) else (o_x ((2 : Int32) * a2) 32 (if ((Ω 3) (((2 : Int32) * a2)).toNatClampNeg) = 0 then (some (1 : Int32)) else (some (0 : Int32)))))))
set_option maxRecDepth 100000 in
set_option maxHeartbeats 16000000 in
theorem mL_good (l : Launch) (D : va_G) (cI : ClassId) (g : Nat → Nat) (Ω : sg_T) (a2 : Int32) (r : Int32) (hrun : fL_good a2 Ω = some r) : me_I l D (tQ cI) yL_good cL_good 3 .boolean 1 22 (wQ cI g Ω) [.ref (g 3), .ref (g 4), .int a2] r (wQ cI g Ω) := by
  refine me_ofI (plainFor_of_name (by decide)) (Nat.le_of_ble_eq_true rfl) ?_
  intro p e s m args below meth c A ls S hK Y hA hl hr hlk hZ
  have hx := S.1
  have hb := S.2.1
  have hl : lv_has ls 3 [(0, .ref (g 3)), (1, .ref (g 4)), (2, .int a2)] := hl
  unfold fL_good at hrun
  refine lv_iload_n hx hb dL_good_0 rfl (lv_at hl 2 rfl) ?_
  refine lv_if_eq (tgt := 28) hx hb dL_good_1 (by decide) (fun c_1 => ?_) (fun c_1 => ?_)
  · have hrun := o_t hrun c_1
    refine lv_iconst (v := (0 : Int32)) hx hb dL_good_28 (by decide) ?_
    cases hrun
    exact me_ri S hK Y hr hlk rfl dL_good_29
  · have hrun := o_f hrun c_1
    refine lv_iconst (v := (0 : Int32)) hx hb dL_good_4 (by decide) ?_
    refine lv_iload_n hx hb dL_good_5 rfl (lv_at hl 2 rfl) ?_
    obtain ⟨r_2, e_3, hrun⟩ := o_bh hrun
    refine cp_s (As := [.int (0 : Int32), .int a2]) (rest := []) S hK hA hZ Y hl.1 (mL_apart l D (0 : Int32) a2 r_2 e_3) kL_10 ⟨Nat.le_of_ble_eq_true rfl, Nat.le_of_ble_eq_true rfl⟩ rfl rfl (Nat.le_of_ble_eq_true rfl) ⟨Nat.le_of_ble_eq_true rfl, Nat.le_of_ble_eq_true rfl⟩ dL_good_6 (fun H locs Y => ?_)
    refine lv_aload_n hx hb dL_good_9 rfl (lv_at hl 1 rfl) ?_
    refine lv_bipush (v := (8 : Int32)) hx hb dL_good_10 (by decide) ?_
    refine ia S hK Y 3 0 (f := (Ω 4)) rfl rfl (show ¬ ((8 : Int32) < 0 ∨ 11 ≤ ((8 : Int32)).toNatClampNeg) by decide) dL_good_12 ?_
    refine lv_icmp_gt (tgt := 28) hx hb dL_good_13 (by decide) (fun c_4 => ?_) (fun c_4 => ?_)
    · have hrun := o_t hrun c_4
      refine lv_iconst (v := (0 : Int32)) hx hb dL_good_28 (by decide) ?_
      cases hrun
      exact me_ri S hK Y hr hlk rfl dL_good_29
    · have hrun := o_f hrun c_4
      refine lv_aload_n hx hb dL_good_16 rfl (lv_at hl 0 rfl) ?_
      refine lv_iconst (v := (2 : Int32)) hx hb dL_good_17 (by decide) ?_
      refine lv_iload_n hx hb dL_good_18 rfl (lv_at hl 2 rfl) ?_
      refine lv_imul hx hb dL_good_19 ?_
      obtain ⟨b_5, hrun⟩ := o_xh hrun
      refine ia S hK Y 2 0 (f := (Ω 3)) rfl rfl b_5 dL_good_20 ?_
      refine lv_if_ne (tgt := 28) hx hb dL_good_21 (by decide) (fun c_6 => ?_) (fun c_6 => ?_)
      · have hrun := o_f hrun c_6
        refine lv_iconst (v := (0 : Int32)) hx hb dL_good_28 (by decide) ?_
        cases hrun
        exact me_ri S hK Y hr hlk rfl dL_good_29
      · have hrun := o_t hrun c_6
        refine lv_iconst (v := (1 : Int32)) hx hb dL_good_24 (by decide) ?_
        refine lv_goto (tgt := 29) hx hb dL_good_25 (by decide) ?_
        cases hrun
        exact me_ri S hK Y hr hlk rfl dL_good_29
def lL_end_20 : Nat → Int32 → (sg_T) → Option (sg_T)
  | 0, _, _ => none
  | n + 1, a4, Ω => (if (8 : Int32) ≤ a4 then (some Ω) else (o_x (((6 : Int32) * a4) + (5 : Int32)) 48 (lL_end_20 n (a4 + (1 : Int32)) (sg_a Ω 1 (upd (Ω 1) ((((6 : Int32) * a4) + (5 : Int32))).toNatClampNeg (-1 : Int32))))))
def lL_end_46 : Nat → Int32 → (sg_T) → Option (sg_T)
  | 0, _, _ => none
  | n + 1, a4, Ω => (if (16 : Int32) ≤ a4 then (some Ω) else (o_x (((2 : Int32) * a4) + (1 : Int32)) 32 (o_x ((2 : Int32) * a4) 32 ((if ((upd (Ω 3) ((((2 : Int32) * a4) + (1 : Int32))).toNatClampNeg (((Ω 3) ((((2 : Int32) * a4) + (1 : Int32))).toNatClampNeg) + ((Ω 3) (((2 : Int32) * a4)).toNatClampNeg))) (((2 : Int32) * a4)).toNatClampNeg) = (1 : Int32) then (if ((Ω 4) ((2 : Int32)).toNatClampNeg) ≤ 0 then (some (sg_a Ω 3 (upd (Ω 3) ((((2 : Int32) * a4) + (1 : Int32))).toNatClampNeg (((Ω 3) ((((2 : Int32) * a4) + (1 : Int32))).toNatClampNeg) + ((Ω 3) (((2 : Int32) * a4)).toNatClampNeg))))) else (if ((upd (Ω 3) ((((2 : Int32) * a4) + (1 : Int32))).toNatClampNeg (((Ω 3) ((((2 : Int32) * a4) + (1 : Int32))).toNatClampNeg) + ((Ω 3) (((2 : Int32) * a4)).toNatClampNeg))) ((((2 : Int32) * a4) + (1 : Int32))).toNatClampNeg) < ((Ω 4) ((2 : Int32)).toNatClampNeg) then (some (sg_a Ω 3 (upd (Ω 3) ((((2 : Int32) * a4) + (1 : Int32))).toNatClampNeg (((Ω 3) ((((2 : Int32) * a4) + (1 : Int32))).toNatClampNeg) + ((Ω 3) (((2 : Int32) * a4)).toNatClampNeg))))) else (o_x a4 16 (some (sg_a (sg_a (sg_a (sg_a Ω 3 (upd (Ω 3) ((((2 : Int32) * a4) + (1 : Int32))).toNatClampNeg (((Ω 3) ((((2 : Int32) * a4) + (1 : Int32))).toNatClampNeg) + ((Ω 3) (((2 : Int32) * a4)).toNatClampNeg)))) 3 (upd (upd (Ω 3) ((((2 : Int32) * a4) + (1 : Int32))).toNatClampNeg (((Ω 3) ((((2 : Int32) * a4) + (1 : Int32))).toNatClampNeg) + ((Ω 3) (((2 : Int32) * a4)).toNatClampNeg))) (((2 : Int32) * a4)).toNatClampNeg (0 : Int32))) 3 (upd (upd (upd (Ω 3) ((((2 : Int32) * a4) + (1 : Int32))).toNatClampNeg (((Ω 3) ((((2 : Int32) * a4) + (1 : Int32))).toNatClampNeg) + ((Ω 3) (((2 : Int32) * a4)).toNatClampNeg))) (((2 : Int32) * a4)).toNatClampNeg (0 : Int32)) ((((2 : Int32) * a4) + (1 : Int32))).toNatClampNeg (0 : Int32))) 2 (upd (Ω 2) (a4).toNatClampNeg (0 : Int32))))))) else (some (sg_a Ω 3 (upd (Ω 3) ((((2 : Int32) * a4) + (1 : Int32))).toNatClampNeg (((Ω 3) ((((2 : Int32) * a4) + (1 : Int32))).toNatClampNeg) + ((Ω 3) (((2 : Int32) * a4)).toNatClampNeg)))))).bind fun q_9 => (lL_end_46 n (a4 + (1 : Int32)) q_9)))))
def fL_end (Ω : sg_T) : Option (sg_T) := ((lL_end_20 70 (0 : Int32) (sg_a (sg_a (sg_a Ω 4 (upd (Ω 4) ((5 : Int32)).toNatClampNeg (((Ω 4) ((5 : Int32)).toNatClampNeg) + (1 : Int32)))) 4 (upd (upd (Ω 4) ((5 : Int32)).toNatClampNeg (((Ω 4) ((5 : Int32)).toNatClampNeg) + (1 : Int32))) ((6 : Int32)).toNatClampNeg (0 : Int32))) 4 (upd (upd (upd (Ω 4) ((5 : Int32)).toNatClampNeg (((Ω 4) ((5 : Int32)).toNatClampNeg) + (1 : Int32))) ((6 : Int32)).toNatClampNeg (0 : Int32)) ((10 : Int32)).toNatClampNeg (0 : Int32)))).bind fun q_3 => ((lL_end_46 70 (0 : Int32) q_3).bind fun q_15 => (some q_15)))
set_option maxRecDepth 100000 in
set_option maxHeartbeats 16000000 in
theorem mL_end (l : Launch) (D : va_G) (cI : ClassId) (g : Nat → Nat) (Ω : sg_T) (Ω' : sg_T) (hrun : fL_end Ω = some Ω') : me_V l D (tQ cI) yL_end cL_end 5 0 0 (wQ cI g Ω) [.ref (g 1), .ref (g 2), .ref (g 3), .ref (g 4)] (wQ cI g Ω') := by
  refine me_ofV (plainFor_of_name (by decide)) (Nat.le_of_ble_eq_true rfl) ?_
  intro p e s m args below meth c A ls S hK Y hA hl hr hlk hZ
  have hx := S.1
  have hb := S.2.1
  have hl : lv_has ls 5 [(0, .ref (g 1)), (1, .ref (g 2)), (2, .ref (g 3)), (3, .ref (g 4))] := hl
  have lp20 : ∀ (n : Nat) (a4 : Int32) (Ω : sg_T) (q_x : sg_T), lL_end_20 n a4 Ω = some q_x → (∀ (H : Heap) (locs : List Loc) (ls : Array Slot), dy_ D A s (wQ cI g q_x) H locs → lv_has ls 5 [(0, .ref (g 1)), (1, .ref (g 2)), (2, .ref (g 3)), (3, .ref (g 4))] → W p l e (rm_ 0 0) s m args below meth c H locs 0 0 (MQ below (me_Qv D (tQ cI) A (wQ cI g Ω')) args s 0 0 A) (F0 m 43 ls [])) → ∀ (H : Heap) (locs : List Loc) (ls : Array Slot), dy_ D A s (wQ cI g Ω) H locs → lv_has ls 5 [(0, .ref (g 1)), (1, .ref (g 2)), (2, .ref (g 3)), (3, .ref (g 4)), (4, .int a4)] → W p l e (rm_ 0 0) s m args below meth c H locs 0 0 (MQ below (me_Qv D (tQ cI) A (wQ cI g Ω')) args s 0 0 A) (F0 m 20 ls []) := by
    intro n
    induction n with
    | zero => intro a4 Ω q_x hrun; cases hrun
    | succ n ih =>
      intro a4 Ω q_x hrun kx H locs ls Y hl
      unfold lL_end_20 at hrun
      refine lv_iload hx hb dL_end_20 (lv_at hl 4 rfl) ?_
      refine lv_bipush (v := (8 : Int32)) hx hb dL_end_22 (by decide) ?_
      refine lv_icmp_ge (tgt := 43) hx hb dL_end_24 (by decide) (fun c_1 => ?_) (fun c_1 => ?_)
      · have hrun := o_t hrun c_1
        cases hrun
        exact kx _ _ _ Y (lv_sub hl [0, 1, 2, 3] rfl)
      · have hrun := o_f hrun c_1
        refine lv_aload_n hx hb dL_end_27 rfl (lv_at hl 0 rfl) ?_
        refine lv_bipush (v := (6 : Int32)) hx hb dL_end_28 (by decide) ?_
        refine lv_iload hx hb dL_end_30 (lv_at hl 4 rfl) ?_
        refine lv_imul hx hb dL_end_32 ?_
        refine lv_iconst (v := (5 : Int32)) hx hb dL_end_33 (by decide) ?_
        refine lv_iadd hx hb dL_end_34 ?_
        refine lv_iconst (v := (-1 : Int32)) hx hb dL_end_35 (by decide) ?_
        obtain ⟨b_2, hrun⟩ := o_xh hrun
        refine iw S hK Y 0 0 (f := (Ω 1)) rfl rfl b_2 (ws' := (wQ cI g (sg_a Ω 1 (upd (Ω 1) ((((6 : Int32) * a4) + (5 : Int32))).toNatClampNeg (-1 : Int32))))) (wQ_a1 _ _ _) dL_end_36 (fun H locs Y => ?_)
        refine lv_iinc (v := (a4 + (1 : Int32))) (lv' := [(4, .int (a4 + (1 : Int32))), (0, .ref (g 1)), (1, .ref (g 2)), (2, .ref (g 3)), (3, .ref (g 4))]) hx hb dL_end_37 hl (k := 4) rfl (by rfl) (Nat.le_of_ble_eq_true rfl) rfl (fun ls hl => ?_)
        refine lv_goto (tgt := 20) hx hb dL_end_40 (by decide) ?_
        exact ih (a4 + (1 : Int32)) (sg_a Ω 1 (upd (Ω 1) ((((6 : Int32) * a4) + (5 : Int32))).toNatClampNeg (-1 : Int32))) q_x hrun kx _ _ _ Y (lv_sub hl [1, 2, 3, 4, 0] rfl)
  have lp46 : ∀ (n : Nat) (a4 : Int32) (Ω : sg_T) (q_x : sg_T), lL_end_46 n a4 Ω = some q_x → (∀ (H : Heap) (locs : List Loc) (ls : Array Slot), dy_ D A s (wQ cI g q_x) H locs → lv_has ls 5 [(0, .ref (g 1)), (1, .ref (g 2)), (2, .ref (g 3)), (3, .ref (g 4))] → W p l e (rm_ 0 0) s m args below meth c H locs 0 0 (MQ below (me_Qv D (tQ cI) A (wQ cI g Ω')) args s 0 0 A) (F0 m 127 ls [])) → ∀ (H : Heap) (locs : List Loc) (ls : Array Slot), dy_ D A s (wQ cI g Ω) H locs → lv_has ls 5 [(0, .ref (g 1)), (1, .ref (g 2)), (2, .ref (g 3)), (3, .ref (g 4)), (4, .int a4)] → W p l e (rm_ 0 0) s m args below meth c H locs 0 0 (MQ below (me_Qv D (tQ cI) A (wQ cI g Ω')) args s 0 0 A) (F0 m 46 ls []) := by
    intro n
    induction n with
    | zero => intro a4 Ω q_x hrun; cases hrun
    | succ n ih =>
      intro a4 Ω q_x hrun kx H locs ls Y hl
      unfold lL_end_46 at hrun
      refine lv_iload hx hb dL_end_46 (lv_at hl 4 rfl) ?_
      refine lv_bipush (v := (16 : Int32)) hx hb dL_end_48 (by decide) ?_
      refine lv_icmp_ge (tgt := 127) hx hb dL_end_50 (by decide) (fun c_5 => ?_) (fun c_5 => ?_)
      · have hrun := o_t hrun c_5
        cases hrun
        exact kx _ _ _ Y (lv_sub hl [0, 1, 2, 3] rfl)
      · have hrun := o_f hrun c_5
        refine lv_aload_n hx hb dL_end_53 rfl (lv_at hl 2 rfl) ?_
        refine lv_iconst (v := (2 : Int32)) hx hb dL_end_54 (by decide) ?_
        refine lv_iload hx hb dL_end_55 (lv_at hl 4 rfl) ?_
        refine lv_imul hx hb dL_end_57 ?_
        refine lv_iconst (v := (1 : Int32)) hx hb dL_end_58 (by decide) ?_
        refine lv_iadd hx hb dL_end_59 ?_
        refine lv_dup2_11 hx hb dL_end_60 rfl rfl ?_
        obtain ⟨b_6, hrun⟩ := o_xh hrun
        refine ia S hK Y 2 0 (f := (Ω 3)) rfl rfl b_6 dL_end_61 ?_
        refine lv_aload_n hx hb dL_end_62 rfl (lv_at hl 2 rfl) ?_
        refine lv_iconst (v := (2 : Int32)) hx hb dL_end_63 (by decide) ?_
        refine lv_iload hx hb dL_end_64 (lv_at hl 4 rfl) ?_
        refine lv_imul hx hb dL_end_66 ?_
        obtain ⟨b_7, hrun⟩ := o_xh hrun
        refine ia S hK Y 2 0 (f := (Ω 3)) rfl rfl b_7 dL_end_67 ?_
        refine lv_iadd hx hb dL_end_68 ?_
        refine iw S hK Y 2 0 (f := (Ω 3)) rfl rfl b_6 (ws' := (wQ cI g (sg_a Ω 3 (upd (Ω 3) ((((2 : Int32) * a4) + (1 : Int32))).toNatClampNeg (((Ω 3) ((((2 : Int32) * a4) + (1 : Int32))).toNatClampNeg) + ((Ω 3) (((2 : Int32) * a4)).toNatClampNeg)))))) (wQ_a3 _ _ _) dL_end_69 (fun H locs Y => ?_)
        refine lv_aload_n hx hb dL_end_70 rfl (lv_at hl 2 rfl) ?_
        refine lv_iconst (v := (2 : Int32)) hx hb dL_end_71 (by decide) ?_
        refine lv_iload hx hb dL_end_72 (lv_at hl 4 rfl) ?_
        refine lv_imul hx hb dL_end_74 ?_
        refine ia S hK Y 2 0 (f := (upd (Ω 3) ((((2 : Int32) * a4) + (1 : Int32))).toNatClampNeg (((Ω 3) ((((2 : Int32) * a4) + (1 : Int32))).toNatClampNeg) + ((Ω 3) (((2 : Int32) * a4)).toNatClampNeg)))) rfl rfl b_7 dL_end_75 ?_
        refine lv_iconst (v := (1 : Int32)) hx hb dL_end_76 (by decide) ?_
        obtain ⟨q_9, e_10, hrun⟩ := o_bh hrun
        have kx11 : ∀ (H : Heap) (locs : List Loc) (ls : Array Slot), dy_ D A s (wQ cI g q_9) H locs → lv_has ls 5 [(0, .ref (g 1)), (1, .ref (g 2)), (2, .ref (g 3)), (3, .ref (g 4)), (4, .int a4)] → W p l e (rm_ 0 0) s m args below meth c H locs 0 0 (MQ below (me_Qv D (tQ cI) A (wQ cI g Ω')) args s 0 0 A) (F0 m 121 ls []) := by
          intro H locs ls Y hl
          refine lv_iinc (v := (a4 + (1 : Int32))) (lv' := [(4, .int (a4 + (1 : Int32))), (0, .ref (g 1)), (1, .ref (g 2)), (2, .ref (g 3)), (3, .ref (g 4))]) hx hb dL_end_121 hl (k := 4) rfl (by rfl) (Nat.le_of_ble_eq_true rfl) rfl (fun ls hl => ?_)
          refine lv_goto (tgt := 46) hx hb dL_end_124 (by decide) ?_
          exact ih (a4 + (1 : Int32)) q_9 q_x hrun kx _ _ _ Y (lv_sub hl [1, 2, 3, 4, 0] rfl)
        have hrun := e_10
        refine lv_icmp_ne (tgt := 121) hx hb dL_end_77 (by decide) (fun c_8 => ?_) (fun c_8 => ?_)
        · have hrun := o_f hrun c_8
          cases hrun
          exact kx11 _ _ _ Y (lv_sub hl [0, 1, 2, 3, 4] rfl)
        · have hrun := o_t hrun c_8
          refine lv_aload_n hx hb dL_end_80 rfl (lv_at hl 3 rfl) ?_
          refine lv_iconst (v := (2 : Int32)) hx hb dL_end_81 (by decide) ?_
          refine ia S hK Y 3 0 (f := (Ω 4)) rfl rfl (show ¬ ((2 : Int32) < 0 ∨ 11 ≤ ((2 : Int32)).toNatClampNeg) by decide) dL_end_82 ?_
          refine lv_if_le (tgt := 121) hx hb dL_end_83 (by decide) (fun c_12 => ?_) (fun c_12 => ?_)
          · have hrun := o_t hrun c_12
            cases hrun
            exact kx11 _ _ _ Y (lv_sub hl [0, 1, 2, 3, 4] rfl)
          · have hrun := o_f hrun c_12
            refine lv_aload_n hx hb dL_end_86 rfl (lv_at hl 2 rfl) ?_
            refine lv_iconst (v := (2 : Int32)) hx hb dL_end_87 (by decide) ?_
            refine lv_iload hx hb dL_end_88 (lv_at hl 4 rfl) ?_
            refine lv_imul hx hb dL_end_90 ?_
            refine lv_iconst (v := (1 : Int32)) hx hb dL_end_91 (by decide) ?_
            refine lv_iadd hx hb dL_end_92 ?_
            refine ia S hK Y 2 0 (f := (upd (Ω 3) ((((2 : Int32) * a4) + (1 : Int32))).toNatClampNeg (((Ω 3) ((((2 : Int32) * a4) + (1 : Int32))).toNatClampNeg) + ((Ω 3) (((2 : Int32) * a4)).toNatClampNeg)))) rfl rfl b_6 dL_end_93 ?_
            refine lv_aload_n hx hb dL_end_94 rfl (lv_at hl 3 rfl) ?_
            refine lv_iconst (v := (2 : Int32)) hx hb dL_end_95 (by decide) ?_
            refine ia S hK Y 3 0 (f := (Ω 4)) rfl rfl (show ¬ ((2 : Int32) < 0 ∨ 11 ≤ ((2 : Int32)).toNatClampNeg) by decide) dL_end_96 ?_
            refine lv_icmp_lt (tgt := 121) hx hb dL_end_97 (by decide) (fun c_13 => ?_) (fun c_13 => ?_)
            · have hrun := o_t hrun c_13
              cases hrun
              exact kx11 _ _ _ Y (lv_sub hl [0, 1, 2, 3, 4] rfl)
            · have hrun := o_f hrun c_13
              refine lv_aload_n hx hb dL_end_100 rfl (lv_at hl 2 rfl) ?_
              refine lv_iconst (v := (2 : Int32)) hx hb dL_end_101 (by decide) ?_
              refine lv_iload hx hb dL_end_102 (lv_at hl 4 rfl) ?_
              refine lv_imul hx hb dL_end_104 ?_
              refine lv_iconst (v := (0 : Int32)) hx hb dL_end_105 (by decide) ?_
              refine iw S hK Y 2 0 (f := (upd (Ω 3) ((((2 : Int32) * a4) + (1 : Int32))).toNatClampNeg (((Ω 3) ((((2 : Int32) * a4) + (1 : Int32))).toNatClampNeg) + ((Ω 3) (((2 : Int32) * a4)).toNatClampNeg)))) rfl rfl b_7 (ws' := (wQ cI g (sg_a (sg_a Ω 3 (upd (Ω 3) ((((2 : Int32) * a4) + (1 : Int32))).toNatClampNeg (((Ω 3) ((((2 : Int32) * a4) + (1 : Int32))).toNatClampNeg) + ((Ω 3) (((2 : Int32) * a4)).toNatClampNeg)))) 3 (upd (upd (Ω 3) ((((2 : Int32) * a4) + (1 : Int32))).toNatClampNeg (((Ω 3) ((((2 : Int32) * a4) + (1 : Int32))).toNatClampNeg) + ((Ω 3) (((2 : Int32) * a4)).toNatClampNeg))) (((2 : Int32) * a4)).toNatClampNeg (0 : Int32))))) (wQ_a3 _ _ _) dL_end_106 (fun H locs Y => ?_)
              refine lv_aload_n hx hb dL_end_107 rfl (lv_at hl 2 rfl) ?_
              refine lv_iconst (v := (2 : Int32)) hx hb dL_end_108 (by decide) ?_
              refine lv_iload hx hb dL_end_109 (lv_at hl 4 rfl) ?_
              refine lv_imul hx hb dL_end_111 ?_
              refine lv_iconst (v := (1 : Int32)) hx hb dL_end_112 (by decide) ?_
              refine lv_iadd hx hb dL_end_113 ?_
              refine lv_iconst (v := (0 : Int32)) hx hb dL_end_114 (by decide) ?_
              refine iw S hK Y 2 0 (f := (upd (upd (Ω 3) ((((2 : Int32) * a4) + (1 : Int32))).toNatClampNeg (((Ω 3) ((((2 : Int32) * a4) + (1 : Int32))).toNatClampNeg) + ((Ω 3) (((2 : Int32) * a4)).toNatClampNeg))) (((2 : Int32) * a4)).toNatClampNeg (0 : Int32))) rfl rfl b_6 (ws' := (wQ cI g (sg_a (sg_a (sg_a Ω 3 (upd (Ω 3) ((((2 : Int32) * a4) + (1 : Int32))).toNatClampNeg (((Ω 3) ((((2 : Int32) * a4) + (1 : Int32))).toNatClampNeg) + ((Ω 3) (((2 : Int32) * a4)).toNatClampNeg)))) 3 (upd (upd (Ω 3) ((((2 : Int32) * a4) + (1 : Int32))).toNatClampNeg (((Ω 3) ((((2 : Int32) * a4) + (1 : Int32))).toNatClampNeg) + ((Ω 3) (((2 : Int32) * a4)).toNatClampNeg))) (((2 : Int32) * a4)).toNatClampNeg (0 : Int32))) 3 (upd (upd (upd (Ω 3) ((((2 : Int32) * a4) + (1 : Int32))).toNatClampNeg (((Ω 3) ((((2 : Int32) * a4) + (1 : Int32))).toNatClampNeg) + ((Ω 3) (((2 : Int32) * a4)).toNatClampNeg))) (((2 : Int32) * a4)).toNatClampNeg (0 : Int32)) ((((2 : Int32) * a4) + (1 : Int32))).toNatClampNeg (0 : Int32))))) (wQ_a3 _ _ _) dL_end_115 (fun H locs Y => ?_)
              refine lv_aload_n hx hb dL_end_116 rfl (lv_at hl 1 rfl) ?_
              refine lv_iload hx hb dL_end_117 (lv_at hl 4 rfl) ?_
              refine lv_iconst (v := (0 : Int32)) hx hb dL_end_119 (by decide) ?_
              obtain ⟨b_14, hrun⟩ := o_xh hrun
              refine iw S hK Y 1 0 (f := (Ω 2)) rfl rfl b_14 (ws' := (wQ cI g (sg_a (sg_a (sg_a (sg_a Ω 3 (upd (Ω 3) ((((2 : Int32) * a4) + (1 : Int32))).toNatClampNeg (((Ω 3) ((((2 : Int32) * a4) + (1 : Int32))).toNatClampNeg) + ((Ω 3) (((2 : Int32) * a4)).toNatClampNeg)))) 3 (upd (upd (Ω 3) ((((2 : Int32) * a4) + (1 : Int32))).toNatClampNeg (((Ω 3) ((((2 : Int32) * a4) + (1 : Int32))).toNatClampNeg) + ((Ω 3) (((2 : Int32) * a4)).toNatClampNeg))) (((2 : Int32) * a4)).toNatClampNeg (0 : Int32))) 3 (upd (upd (upd (Ω 3) ((((2 : Int32) * a4) + (1 : Int32))).toNatClampNeg (((Ω 3) ((((2 : Int32) * a4) + (1 : Int32))).toNatClampNeg) + ((Ω 3) (((2 : Int32) * a4)).toNatClampNeg))) (((2 : Int32) * a4)).toNatClampNeg (0 : Int32)) ((((2 : Int32) * a4) + (1 : Int32))).toNatClampNeg (0 : Int32))) 2 (upd (Ω 2) (a4).toNatClampNeg (0 : Int32))))) (wQ_a2 _ _ _) dL_end_120 (fun H locs Y => ?_)
              cases hrun
              exact kx11 _ _ _ Y (lv_sub hl [0, 1, 2, 3, 4] rfl)
  unfold fL_end at hrun
  refine lv_aload_n hx hb dL_end_0 rfl (lv_at hl 3 rfl) ?_
  refine lv_iconst (v := (5 : Int32)) hx hb dL_end_1 (by decide) ?_
  refine lv_dup2_11 hx hb dL_end_2 rfl rfl ?_
  refine ia S hK Y 3 0 (f := (Ω 4)) rfl rfl (show ¬ ((5 : Int32) < 0 ∨ 11 ≤ ((5 : Int32)).toNatClampNeg) by decide) dL_end_3 ?_
  refine lv_iconst (v := (1 : Int32)) hx hb dL_end_4 (by decide) ?_
  refine lv_iadd hx hb dL_end_5 ?_
  refine iw S hK Y 3 0 (f := (Ω 4)) rfl rfl (show ¬ ((5 : Int32) < 0 ∨ 11 ≤ ((5 : Int32)).toNatClampNeg) by decide) (ws' := (wQ cI g (sg_a Ω 4 (upd (Ω 4) ((5 : Int32)).toNatClampNeg (((Ω 4) ((5 : Int32)).toNatClampNeg) + (1 : Int32)))))) (wQ_a4 _ _ _) dL_end_6 (fun H locs Y => ?_)
  refine lv_aload_n hx hb dL_end_7 rfl (lv_at hl 3 rfl) ?_
  refine lv_bipush (v := (6 : Int32)) hx hb dL_end_8 (by decide) ?_
  refine lv_iconst (v := (0 : Int32)) hx hb dL_end_10 (by decide) ?_
  refine iw S hK Y 3 0 (f := (upd (Ω 4) ((5 : Int32)).toNatClampNeg (((Ω 4) ((5 : Int32)).toNatClampNeg) + (1 : Int32)))) rfl rfl (show ¬ ((6 : Int32) < 0 ∨ 11 ≤ ((6 : Int32)).toNatClampNeg) by decide) (ws' := (wQ cI g (sg_a (sg_a Ω 4 (upd (Ω 4) ((5 : Int32)).toNatClampNeg (((Ω 4) ((5 : Int32)).toNatClampNeg) + (1 : Int32)))) 4 (upd (upd (Ω 4) ((5 : Int32)).toNatClampNeg (((Ω 4) ((5 : Int32)).toNatClampNeg) + (1 : Int32))) ((6 : Int32)).toNatClampNeg (0 : Int32))))) (wQ_a4 _ _ _) dL_end_11 (fun H locs Y => ?_)
  refine lv_aload_n hx hb dL_end_12 rfl (lv_at hl 3 rfl) ?_
  refine lv_bipush (v := (10 : Int32)) hx hb dL_end_13 (by decide) ?_
  refine lv_iconst (v := (0 : Int32)) hx hb dL_end_15 (by decide) ?_
  refine iw S hK Y 3 0 (f := (upd (upd (Ω 4) ((5 : Int32)).toNatClampNeg (((Ω 4) ((5 : Int32)).toNatClampNeg) + (1 : Int32))) ((6 : Int32)).toNatClampNeg (0 : Int32))) rfl rfl (show ¬ ((10 : Int32) < 0 ∨ 11 ≤ ((10 : Int32)).toNatClampNeg) by decide) (ws' := (wQ cI g (sg_a (sg_a (sg_a Ω 4 (upd (Ω 4) ((5 : Int32)).toNatClampNeg (((Ω 4) ((5 : Int32)).toNatClampNeg) + (1 : Int32)))) 4 (upd (upd (Ω 4) ((5 : Int32)).toNatClampNeg (((Ω 4) ((5 : Int32)).toNatClampNeg) + (1 : Int32))) ((6 : Int32)).toNatClampNeg (0 : Int32))) 4 (upd (upd (upd (Ω 4) ((5 : Int32)).toNatClampNeg (((Ω 4) ((5 : Int32)).toNatClampNeg) + (1 : Int32))) ((6 : Int32)).toNatClampNeg (0 : Int32)) ((10 : Int32)).toNatClampNeg (0 : Int32))))) (wQ_a4 _ _ _) dL_end_16 (fun H locs Y => ?_)
  refine lv_iconst (v := (0 : Int32)) hx hb dL_end_17 (by decide) ?_
  refine lv_istore (lv' := [(4, .int (0 : Int32)), (0, .ref (g 1)), (1, .ref (g 2)), (2, .ref (g 3)), (3, .ref (g 4))]) hx hb dL_end_18 hl (Nat.le_of_ble_eq_true rfl) rfl (fun ls hl => ?_)
  obtain ⟨q_3, e_4, hrun⟩ := o_bh hrun
  refine lp20 70 (0 : Int32) (sg_a (sg_a (sg_a Ω 4 (upd (Ω 4) ((5 : Int32)).toNatClampNeg (((Ω 4) ((5 : Int32)).toNatClampNeg) + (1 : Int32)))) 4 (upd (upd (Ω 4) ((5 : Int32)).toNatClampNeg (((Ω 4) ((5 : Int32)).toNatClampNeg) + (1 : Int32))) ((6 : Int32)).toNatClampNeg (0 : Int32))) 4 (upd (upd (upd (Ω 4) ((5 : Int32)).toNatClampNeg (((Ω 4) ((5 : Int32)).toNatClampNeg) + (1 : Int32))) ((6 : Int32)).toNatClampNeg (0 : Int32)) ((10 : Int32)).toNatClampNeg (0 : Int32))) q_3 e_4 (fun H locs ls Y hl => ?_) _ _ _ Y (lv_sub hl [1, 2, 3, 4, 0] rfl)
  refine lv_iconst (v := (0 : Int32)) hx hb dL_end_43 (by decide) ?_
  refine lv_istore (lv' := [(4, .int (0 : Int32)), (0, .ref (g 1)), (1, .ref (g 2)), (2, .ref (g 3)), (3, .ref (g 4))]) hx hb dL_end_44 hl (Nat.le_of_ble_eq_true rfl) rfl (fun ls hl => ?_)
  obtain ⟨q_15, e_16, hrun⟩ := o_bh hrun
  refine lp46 70 (0 : Int32) q_3 q_15 e_16 (fun H locs ls Y hl => ?_) _ _ _ Y (lv_sub hl [1, 2, 3, 4, 0] rfl)
  cases hrun
  exact me_rv S hK Y hr hlk dL_end_127
def fL_ahead (a1 a2 : Int32) (Ω : sg_T) : Option (Int32) := (o_x ((6 : Int32) * a1) 48 (o_x ((6 : Int32) * a2) 48 (o_x (((6 : Int32) * a2) + (3 : Int32)) 48 (o_x (((6 : Int32) * a1) + (3 : Int32)) 48 (if 0 < (((Ω 1) (((6 : Int32) * a1)).toNatClampNeg) - ((Ω 1) (((6 : Int32) * a2)).toNatClampNeg)) then (some (1 : Int32)) else (if (((Ω 1) (((6 : Int32) * a1)).toNatClampNeg) - ((Ω 1) (((6 : Int32) * a2)).toNatClampNeg)) = 0 then (if 0 < (((Ω 1) ((((6 : Int32) * a2) + (3 : Int32))).toNatClampNeg) - ((Ω 1) ((((6 : Int32) * a1) + (3 : Int32))).toNatClampNeg)) then (some (1 : Int32)) else (if (((Ω 1) ((((6 : Int32) * a2) + (3 : Int32))).toNatClampNeg) - ((Ω 1) ((((6 : Int32) * a1) + (3 : Int32))).toNatClampNeg)) = 0 then (if a2 ≤ a1 then (some (0 : Int32)) else (some (1 : Int32))) else (some (0 : Int32)))) else (some (0 : Int32))))))))
set_option maxRecDepth 100000 in
set_option maxHeartbeats 16000000 in
theorem mL_ahead (l : Launch) (D : va_G) (cI : ClassId) (g : Nat → Nat) (Ω : sg_T) (a1 a2 : Int32) (r : Int32) (hrun : fL_ahead a1 a2 Ω = some r) : me_I l D (tQ cI) yL_ahead cL_ahead 5 .boolean 0 0 (wQ cI g Ω) [.ref (g 1), .int a1, .int a2] r (wQ cI g Ω) := by
  refine me_ofI (plainFor_of_name (by decide)) (Nat.le_of_ble_eq_true rfl) ?_
  intro p e s m args below meth c A ls S hK Y hA hl hr hlk hZ
  have hx := S.1
  have hb := S.2.1
  have hl : lv_has ls 5 [(0, .ref (g 1)), (1, .int a1), (2, .int a2)] := hl
  unfold fL_ahead at hrun
  refine lv_aload_n hx hb dL_ahead_0 rfl (lv_at hl 0 rfl) ?_
  refine lv_bipush (v := (6 : Int32)) hx hb dL_ahead_1 (by decide) ?_
  refine lv_iload_n hx hb dL_ahead_3 rfl (lv_at hl 1 rfl) ?_
  refine lv_imul hx hb dL_ahead_4 ?_
  obtain ⟨b_1, hrun⟩ := o_xh hrun
  refine ia S hK Y 0 0 (f := (Ω 1)) rfl rfl b_1 dL_ahead_5 ?_
  refine lv_aload_n hx hb dL_ahead_6 rfl (lv_at hl 0 rfl) ?_
  refine lv_bipush (v := (6 : Int32)) hx hb dL_ahead_7 (by decide) ?_
  refine lv_iload_n hx hb dL_ahead_9 rfl (lv_at hl 2 rfl) ?_
  refine lv_imul hx hb dL_ahead_10 ?_
  obtain ⟨b_2, hrun⟩ := o_xh hrun
  refine ia S hK Y 0 0 (f := (Ω 1)) rfl rfl b_2 dL_ahead_11 ?_
  refine lv_isub hx hb dL_ahead_12 ?_
  refine lv_istore_n (lv' := [(3, .int (((Ω 1) (((6 : Int32) * a1)).toNatClampNeg) - ((Ω 1) (((6 : Int32) * a2)).toNatClampNeg))), (0, .ref (g 1)), (1, .int a1), (2, .int a2)]) hx hb dL_ahead_13 rfl hl (Nat.le_of_ble_eq_true rfl) rfl (fun ls hl => ?_)
  refine lv_aload_n hx hb dL_ahead_14 rfl (lv_at hl 1 rfl) ?_
  refine lv_bipush (v := (6 : Int32)) hx hb dL_ahead_15 (by decide) ?_
  refine lv_iload_n hx hb dL_ahead_17 rfl (lv_at hl 3 rfl) ?_
  refine lv_imul hx hb dL_ahead_18 ?_
  refine lv_iconst (v := (3 : Int32)) hx hb dL_ahead_19 (by decide) ?_
  refine lv_iadd hx hb dL_ahead_20 ?_
  obtain ⟨b_3, hrun⟩ := o_xh hrun
  refine ia S hK Y 0 0 (f := (Ω 1)) rfl rfl b_3 dL_ahead_21 ?_
  refine lv_aload_n hx hb dL_ahead_22 rfl (lv_at hl 1 rfl) ?_
  refine lv_bipush (v := (6 : Int32)) hx hb dL_ahead_23 (by decide) ?_
  refine lv_iload_n hx hb dL_ahead_25 rfl (lv_at hl 2 rfl) ?_
  refine lv_imul hx hb dL_ahead_26 ?_
  refine lv_iconst (v := (3 : Int32)) hx hb dL_ahead_27 (by decide) ?_
  refine lv_iadd hx hb dL_ahead_28 ?_
  obtain ⟨b_4, hrun⟩ := o_xh hrun
  refine ia S hK Y 0 0 (f := (Ω 1)) rfl rfl b_4 dL_ahead_29 ?_
  refine lv_isub hx hb dL_ahead_30 ?_
  refine lv_istore (lv' := [(4, .int (((Ω 1) ((((6 : Int32) * a2) + (3 : Int32))).toNatClampNeg) - ((Ω 1) ((((6 : Int32) * a1) + (3 : Int32))).toNatClampNeg))), (3, .int (((Ω 1) (((6 : Int32) * a1)).toNatClampNeg) - ((Ω 1) (((6 : Int32) * a2)).toNatClampNeg))), (0, .ref (g 1)), (1, .int a1), (2, .int a2)]) hx hb dL_ahead_31 hl (Nat.le_of_ble_eq_true rfl) rfl (fun ls hl => ?_)
  refine lv_iload_n hx hb dL_ahead_33 rfl (lv_at hl 1 rfl) ?_
  refine lv_if_gt (tgt := 56) hx hb dL_ahead_34 (by decide) (fun c_5 => ?_) (fun c_5 => ?_)
  · have hrun := o_t hrun c_5
    refine lv_iconst (v := (1 : Int32)) hx hb dL_ahead_56 (by decide) ?_
    refine lv_goto (tgt := 61) hx hb dL_ahead_57 (by decide) ?_
    cases hrun
    exact me_ri S hK Y hr hlk rfl dL_ahead_61
  · have hrun := o_f hrun c_5
    refine lv_iload_n hx hb dL_ahead_37 rfl (lv_at hl 1 rfl) ?_
    refine lv_if_ne (tgt := 60) hx hb dL_ahead_38 (by decide) (fun c_6 => ?_) (fun c_6 => ?_)
    · have hrun := o_f hrun c_6
      refine lv_iconst (v := (0 : Int32)) hx hb dL_ahead_60 (by decide) ?_
      cases hrun
      exact me_ri S hK Y hr hlk rfl dL_ahead_61
    · have hrun := o_t hrun c_6
      refine lv_iload hx hb dL_ahead_41 (lv_at hl 0 rfl) ?_
      refine lv_if_gt (tgt := 56) hx hb dL_ahead_43 (by decide) (fun c_7 => ?_) (fun c_7 => ?_)
      · have hrun := o_t hrun c_7
        refine lv_iconst (v := (1 : Int32)) hx hb dL_ahead_56 (by decide) ?_
        refine lv_goto (tgt := 61) hx hb dL_ahead_57 (by decide) ?_
        cases hrun
        exact me_ri S hK Y hr hlk rfl dL_ahead_61
      · have hrun := o_f hrun c_7
        refine lv_iload hx hb dL_ahead_46 (lv_at hl 0 rfl) ?_
        refine lv_if_ne (tgt := 60) hx hb dL_ahead_48 (by decide) (fun c_8 => ?_) (fun c_8 => ?_)
        · have hrun := o_f hrun c_8
          refine lv_iconst (v := (0 : Int32)) hx hb dL_ahead_60 (by decide) ?_
          cases hrun
          exact me_ri S hK Y hr hlk rfl dL_ahead_61
        · have hrun := o_t hrun c_8
          refine lv_iload_n hx hb dL_ahead_51 rfl (lv_at hl 3 rfl) ?_
          refine lv_iload_n hx hb dL_ahead_52 rfl (lv_at hl 4 rfl) ?_
          refine lv_icmp_ge (tgt := 60) hx hb dL_ahead_53 (by decide) (fun c_9 => ?_) (fun c_9 => ?_)
          · have hrun := o_t hrun c_9
            refine lv_iconst (v := (0 : Int32)) hx hb dL_ahead_60 (by decide) ?_
            cases hrun
            exact me_ri S hK Y hr hlk rfl dL_ahead_61
          · have hrun := o_f hrun c_9
            refine lv_iconst (v := (1 : Int32)) hx hb dL_ahead_56 (by decide) ?_
            refine lv_goto (tgt := 61) hx hb dL_ahead_57 (by decide) ?_
            cases hrun
            exact me_ri S hK Y hr hlk rfl dL_ahead_61
def lL_steps_65 : Nat → Int32 → Int32 → Int32 → Int32 → Int32 → Int32 → Int32 → Int32 → (sg_T) → Option (Int32)
  | 0, _, _, _, _, _, _, _, _, _ => none
  | n + 1, a2, a3, a4, a5, a6, a7, a8, a9, Ω => (if (a4 + a5) < a9 then (some a8) else ((if a4 < a9 then (some (a3 * (a4 - (a9 - a4)))) else (some (a3 * a9))).bind fun q_12 => ((if a8 = 0 then (o_x (((6 : Int32) * a7) + (5 : Int32)) 48 ((fL_apart (((((Ω 4) ((9 : Int32)).toNatClampNeg) + q_12) + (64 : Int32)) - ((((Ω 4) ((9 : Int32)).toNatClampNeg) + q_12) + (64 : Int32)) / (16 : Int32) * (16 : Int32)) ((Ω 1) ((((6 : Int32) * a7) + (5 : Int32))).toNatClampNeg)).bind fun r_20 => (if ((Ω 4) ((0 : Int32)).toNatClampNeg) < r_20 then (some (0 : Int32)) else (some (1 : Int32))))) else (some (1 : Int32))).bind fun q_16 => (lL_steps_65 n a2 a3 a4 a5 a6 a7 q_16 (a9 + (1 : Int32)) Ω))))
def lL_steps_36 : Nat → Int32 → Int32 → Int32 → Int32 → Int32 → Int32 → (sg_T) → Option (Int32)
  | 0, _, _, _, _, _, _, _ => none
  | n + 1, a2, a3, a4, a5, a6, a7, Ω => (if (8 : Int32) ≤ a7 then (some a6) else (o_x (((6 : Int32) * a7) + (5 : Int32)) 48 ((if 0 ≤ ((Ω 1) ((((6 : Int32) * a7) + (5 : Int32))).toNatClampNeg) then (some (0 : Int32)) else (some (1 : Int32))).bind fun q_7 => ((lL_steps_65 70 a2 a3 a4 a5 a6 a7 q_7 (0 : Int32) Ω).bind fun q_23 => ((if a6 = 0 then (some (0 : Int32)) else (if q_23 = 0 then (some (0 : Int32)) else (some (1 : Int32)))).bind fun q_26 => (lL_steps_36 n a2 a3 a4 a5 q_26 (a7 + (1 : Int32)) Ω))))))
def lL_steps_23 : Nat → Int32 → Int32 → Int32 → Int32 → (sg_T) → Option (Int32)
  | 0, _, _, _, _, _ => none
  | n + 1, a2, a3, a4, a5, Ω => (if (34 : Int32) ≤ a5 then (some a2) else ((lL_steps_36 70 a2 a3 a4 a5 (1 : Int32) (0 : Int32) Ω).bind fun q_30 => ((if q_30 = 0 then (some a2) else (if a2 ≤ (a4 + a5) then (some a2) else (some (a4 + a5)))).bind fun q_33 => ((if q_30 = 0 then (some a5) else (some (34 : Int32))).bind fun q_37 => (lL_steps_23 n q_33 a3 a4 (q_37 + (1 : Int32)) Ω)))))
def lL_steps_13 : Nat → Int32 → Int32 → Int32 → (sg_T) → Option (Int32)
  | 0, _, _, _, _ => none
  | n + 1, a2, a3, a4, Ω => (if (17 : Int32) ≤ a4 then (some a2) else ((lL_steps_23 70 a2 a3 a4 (0 : Int32) Ω).bind fun q_41 => (lL_steps_13 n q_41 a3 (a4 + (1 : Int32)) Ω)))
def lL_steps_5 : Nat → Int32 → Int32 → (sg_T) → Option (Int32)
  | 0, _, _, _ => none
  | n + 1, a2, a3, Ω => (if (2 : Int32) ≤ a3 then (some a2) else ((lL_steps_13 70 a2 a3 (0 : Int32) Ω).bind fun q_43 => (lL_steps_5 n q_43 (a3 + (2 : Int32)) Ω)))
def fL_steps (Ω : sg_T) : Option (Int32) := ((lL_steps_5 70 (99 : Int32) (-1 : Int32) Ω).bind fun q_45 => (some q_45))
set_option maxRecDepth 100000 in
set_option maxHeartbeats 16000000 in
theorem mL_steps (l : Launch) (D : va_G) (cI : ClassId) (g : Nat → Nat) (Ω : sg_T) (r : Int32) (hrun : fL_steps Ω = some r) : me_I l D (tQ cI) yL_steps cL_steps 11 .int 1 22 (wQ cI g Ω) [.ref (g 1), .ref (g 4)] r (wQ cI g Ω) := by
  refine me_ofI (plainFor_of_name (by decide)) (Nat.le_of_ble_eq_true rfl) ?_
  intro p e s m args below meth c A ls S hK Y hA hl hr hlk hZ
  have hx := S.1
  have hb := S.2.1
  have hl : lv_has ls 11 [(0, .ref (g 1)), (1, .ref (g 4))] := hl
  have lp65 : ∀ (n : Nat) (a2 : Int32) (a3 : Int32) (a4 : Int32) (a5 : Int32) (a6 : Int32) (a7 : Int32) (a8 : Int32) (a9 : Int32) (Ω : sg_T) (q_x : Int32), lL_steps_65 n a2 a3 a4 a5 a6 a7 a8 a9 Ω = some q_x → (∀ (H : Heap) (locs : List Loc) (ls : Array Slot), dy_ D A s (wQ cI g Ω) H locs → lv_has ls 11 [(0, .ref (g 1)), (1, .ref (g 4)), (2, .int a2), (3, .int a3), (4, .int a4), (5, .int a5), (6, .int a6), (7, .int a7), (8, .int q_x)] → W p l e (rm_ 1 22) s m args below meth c H locs 0 0 (MQ below (me_Qi D (tQ cI) A r (wQ cI g Ω)) args s 0 0 A) (F0 m 150 ls [])) → ∀ (H : Heap) (locs : List Loc) (ls : Array Slot), dy_ D A s (wQ cI g Ω) H locs → lv_has ls 11 [(0, .ref (g 1)), (1, .ref (g 4)), (2, .int a2), (3, .int a3), (4, .int a4), (5, .int a5), (6, .int a6), (7, .int a7), (8, .int a8), (9, .int a9)] → W p l e (rm_ 1 22) s m args below meth c H locs 0 0 (MQ below (me_Qi D (tQ cI) A r (wQ cI g Ω)) args s 0 0 A) (F0 m 65 ls []) := by
    intro n
    induction n with
    | zero => intro a2 a3 a4 a5 a6 a7 a8 a9 Ω q_x hrun; cases hrun
    | succ n ih =>
      intro a2 a3 a4 a5 a6 a7 a8 a9 Ω q_x hrun kx H locs ls Y hl
      unfold lL_steps_65 at hrun
      refine lv_iload hx hb dL_steps_65 (lv_at hl 9 rfl) ?_
      refine lv_iload hx hb dL_steps_67 (lv_at hl 4 rfl) ?_
      refine lv_iload hx hb dL_steps_69 (lv_at hl 5 rfl) ?_
      refine lv_iadd hx hb dL_steps_71 ?_
      refine lv_icmp_gt (tgt := 150) hx hb dL_steps_72 (by decide) (fun c_10 => ?_) (fun c_10 => ?_)
      · have hrun := o_t hrun c_10
        cases hrun
        exact kx _ _ _ Y (lv_sub hl [0, 1, 2, 3, 4, 5, 6, 7, 8] rfl)
      · have hrun := o_f hrun c_10
        refine lv_iload hx hb dL_steps_75 (lv_at hl 9 rfl) ?_
        refine lv_iload hx hb dL_steps_77 (lv_at hl 4 rfl) ?_
        obtain ⟨q_12, e_13, hrun⟩ := o_bh hrun
        have kx14 : ∀ (H : Heap) (locs : List Loc) (ls : Array Slot), dy_ D A s (wQ cI g Ω) H locs → lv_has ls 11 [(0, .ref (g 1)), (1, .ref (g 4)), (2, .int a2), (3, .int a3), (4, .int a4), (5, .int a5), (6, .int a6), (7, .int a7), (8, .int a8), (9, .int a9)] → W p l e (rm_ 1 22) s m args below meth c H locs 0 0 (MQ below (me_Qi D (tQ cI) A r (wQ cI g Ω)) args s 0 0 A) (F0 m 99 ls [.int q_12]) := by
          intro H locs ls Y hl
          refine lv_istore (lv' := [(10, .int q_12), (0, .ref (g 1)), (1, .ref (g 4)), (2, .int a2), (3, .int a3), (4, .int a4), (5, .int a5), (6, .int a6), (7, .int a7), (8, .int a8), (9, .int a9)]) hx hb dL_steps_99 hl (Nat.le_of_ble_eq_true rfl) rfl (fun ls hl => ?_)
          refine lv_iload hx hb dL_steps_101 (lv_at hl 9 rfl) ?_
          obtain ⟨q_16, e_17, hrun⟩ := o_bh hrun
          have kx18 : ∀ (H : Heap) (locs : List Loc) (ls : Array Slot), dy_ D A s (wQ cI g Ω) H locs → lv_has ls 11 [(0, .ref (g 1)), (1, .ref (g 4)), (2, .int a2), (3, .int a3), (4, .int a4), (5, .int a5), (6, .int a6), (7, .int a7), (9, .int a9)] → W p l e (rm_ 1 22) s m args below meth c H locs 0 0 (MQ below (me_Qi D (tQ cI) A r (wQ cI g Ω)) args s 0 0 A) (F0 m 142 ls [.int q_16]) := by
            intro H locs ls Y hl
            refine lv_istore (lv' := [(8, .int q_16), (0, .ref (g 1)), (1, .ref (g 4)), (2, .int a2), (3, .int a3), (4, .int a4), (5, .int a5), (6, .int a6), (7, .int a7), (9, .int a9)]) hx hb dL_steps_142 hl (Nat.le_of_ble_eq_true rfl) rfl (fun ls hl => ?_)
            refine lv_iinc (v := (a9 + (1 : Int32))) (lv' := [(9, .int (a9 + (1 : Int32))), (8, .int q_16), (0, .ref (g 1)), (1, .ref (g 4)), (2, .int a2), (3, .int a3), (4, .int a4), (5, .int a5), (6, .int a6), (7, .int a7)]) hx hb dL_steps_144 hl (k := 9) rfl (by rfl) (Nat.le_of_ble_eq_true rfl) rfl (fun ls hl => ?_)
            refine lv_goto (tgt := 65) hx hb dL_steps_147 (by decide) ?_
            exact ih a2 a3 a4 a5 a6 a7 q_16 (a9 + (1 : Int32)) Ω q_x hrun kx _ _ _ Y (lv_sub hl [2, 3, 4, 5, 6, 7, 8, 9, 1, 0] rfl)
          have hrun := e_17
          refine lv_if_ne (tgt := 137) hx hb dL_steps_103 (by decide) (fun c_15 => ?_) (fun c_15 => ?_)
          · have hrun := o_f hrun c_15
            refine lv_iconst (v := (1 : Int32)) hx hb dL_steps_137 (by decide) ?_
            refine lv_goto (tgt := 142) hx hb dL_steps_138 (by decide) ?_
            cases hrun
            exact kx18 _ _ _ Y (lv_sub hl [1, 2, 3, 4, 5, 6, 7, 8, 10] rfl)
          · have hrun := o_t hrun c_15
            refine lv_aload_n hx hb dL_steps_106 rfl (lv_at hl 2 rfl) ?_
            refine lv_bipush (v := (9 : Int32)) hx hb dL_steps_107 (by decide) ?_
            refine ia S hK Y 3 0 (f := (Ω 4)) rfl rfl (show ¬ ((9 : Int32) < 0 ∨ 11 ≤ ((9 : Int32)).toNatClampNeg) by decide) dL_steps_109 ?_
            refine lv_iload hx hb dL_steps_110 (lv_at hl 0 rfl) ?_
            refine lv_iadd hx hb dL_steps_112 ?_
            refine lv_bipush (v := (64 : Int32)) hx hb dL_steps_113 (by decide) ?_
            refine lv_iadd hx hb dL_steps_115 ?_
            refine lv_bipush (v := (16 : Int32)) hx hb dL_steps_116 (by decide) ?_
            refine lv_irem hx hb dL_steps_118 (by decide) ?_
            refine lv_aload_n hx hb dL_steps_119 rfl (lv_at hl 1 rfl) ?_
            refine lv_bipush (v := (6 : Int32)) hx hb dL_steps_120 (by decide) ?_
            refine lv_iload hx hb dL_steps_122 (lv_at hl 8 rfl) ?_
            refine lv_imul hx hb dL_steps_124 ?_
            refine lv_iconst (v := (5 : Int32)) hx hb dL_steps_125 (by decide) ?_
            refine lv_iadd hx hb dL_steps_126 ?_
            obtain ⟨b_19, hrun⟩ := o_xh hrun
            refine ia S hK Y 0 0 (f := (Ω 1)) rfl rfl b_19 dL_steps_127 ?_
            obtain ⟨r_20, e_21, hrun⟩ := o_bh hrun
            refine cp_s (As := [.int (((((Ω 4) ((9 : Int32)).toNatClampNeg) + q_12) + (64 : Int32)) - ((((Ω 4) ((9 : Int32)).toNatClampNeg) + q_12) + (64 : Int32)) / (16 : Int32) * (16 : Int32)), .int ((Ω 1) ((((6 : Int32) * a7) + (5 : Int32))).toNatClampNeg)]) (rest := []) S hK hA hZ Y hl.1 (mL_apart l D (((((Ω 4) ((9 : Int32)).toNatClampNeg) + q_12) + (64 : Int32)) - ((((Ω 4) ((9 : Int32)).toNatClampNeg) + q_12) + (64 : Int32)) / (16 : Int32) * (16 : Int32)) ((Ω 1) ((((6 : Int32) * a7) + (5 : Int32))).toNatClampNeg) r_20 e_21) kL_10 ⟨Nat.le_of_ble_eq_true rfl, Nat.le_of_ble_eq_true rfl⟩ rfl rfl (Nat.le_of_ble_eq_true rfl) ⟨Nat.le_of_ble_eq_true rfl, Nat.le_of_ble_eq_true rfl⟩ dL_steps_128 (fun H locs Y => ?_)
            refine lv_aload_n hx hb dL_steps_131 rfl (lv_at hl 2 rfl) ?_
            refine lv_iconst (v := (0 : Int32)) hx hb dL_steps_132 (by decide) ?_
            refine ia S hK Y 3 0 (f := (Ω 4)) rfl rfl (show ¬ ((0 : Int32) < 0 ∨ 11 ≤ ((0 : Int32)).toNatClampNeg) by decide) dL_steps_133 ?_
            refine lv_icmp_gt (tgt := 141) hx hb dL_steps_134 (by decide) (fun c_22 => ?_) (fun c_22 => ?_)
            · have hrun := o_t hrun c_22
              refine lv_iconst (v := (0 : Int32)) hx hb dL_steps_141 (by decide) ?_
              cases hrun
              exact kx18 _ _ _ Y (lv_sub hl [1, 2, 3, 4, 5, 6, 7, 8, 10] rfl)
            · have hrun := o_f hrun c_22
              refine lv_iconst (v := (1 : Int32)) hx hb dL_steps_137 (by decide) ?_
              refine lv_goto (tgt := 142) hx hb dL_steps_138 (by decide) ?_
              cases hrun
              exact kx18 _ _ _ Y (lv_sub hl [1, 2, 3, 4, 5, 6, 7, 8, 10] rfl)
        have hrun := e_13
        refine lv_icmp_gt (tgt := 89) hx hb dL_steps_79 (by decide) (fun c_11 => ?_) (fun c_11 => ?_)
        · have hrun := o_t hrun c_11
          refine lv_iload_n hx hb dL_steps_89 rfl (lv_at hl 3 rfl) ?_
          refine lv_iload hx hb dL_steps_90 (lv_at hl 4 rfl) ?_
          refine lv_iload hx hb dL_steps_92 (lv_at hl 9 rfl) ?_
          refine lv_iload hx hb dL_steps_94 (lv_at hl 4 rfl) ?_
          refine lv_isub hx hb dL_steps_96 ?_
          refine lv_isub hx hb dL_steps_97 ?_
          refine lv_imul hx hb dL_steps_98 ?_
          cases hrun
          exact kx14 _ _ _ Y (lv_sub hl [0, 1, 2, 3, 4, 5, 6, 7, 8, 9] rfl)
        · have hrun := o_f hrun c_11
          refine lv_iload_n hx hb dL_steps_82 rfl (lv_at hl 3 rfl) ?_
          refine lv_iload hx hb dL_steps_83 (lv_at hl 9 rfl) ?_
          refine lv_imul hx hb dL_steps_85 ?_
          refine lv_goto (tgt := 99) hx hb dL_steps_86 (by decide) ?_
          cases hrun
          exact kx14 _ _ _ Y (lv_sub hl [0, 1, 2, 3, 4, 5, 6, 7, 8, 9] rfl)
  have lp36 : ∀ (n : Nat) (a2 : Int32) (a3 : Int32) (a4 : Int32) (a5 : Int32) (a6 : Int32) (a7 : Int32) (Ω : sg_T) (q_x : Int32), lL_steps_36 n a2 a3 a4 a5 a6 a7 Ω = some q_x → (∀ (H : Heap) (locs : List Loc) (ls : Array Slot), dy_ D A s (wQ cI g Ω) H locs → lv_has ls 11 [(0, .ref (g 1)), (1, .ref (g 4)), (2, .int a2), (3, .int a3), (4, .int a4), (5, .int a5), (6, .int q_x)] → W p l e (rm_ 1 22) s m args below meth c H locs 0 0 (MQ below (me_Qi D (tQ cI) A r (wQ cI g Ω)) args s 0 0 A) (F0 m 173 ls [])) → ∀ (H : Heap) (locs : List Loc) (ls : Array Slot), dy_ D A s (wQ cI g Ω) H locs → lv_has ls 11 [(0, .ref (g 1)), (1, .ref (g 4)), (2, .int a2), (3, .int a3), (4, .int a4), (5, .int a5), (6, .int a6), (7, .int a7)] → W p l e (rm_ 1 22) s m args below meth c H locs 0 0 (MQ below (me_Qi D (tQ cI) A r (wQ cI g Ω)) args s 0 0 A) (F0 m 36 ls []) := by
    intro n
    induction n with
    | zero => intro a2 a3 a4 a5 a6 a7 Ω q_x hrun; cases hrun
    | succ n ih =>
      intro a2 a3 a4 a5 a6 a7 Ω q_x hrun kx H locs ls Y hl
      unfold lL_steps_36 at hrun
      refine lv_iload hx hb dL_steps_36 (lv_at hl 7 rfl) ?_
      refine lv_bipush (v := (8 : Int32)) hx hb dL_steps_38 (by decide) ?_
      refine lv_icmp_ge (tgt := 173) hx hb dL_steps_40 (by decide) (fun c_4 => ?_) (fun c_4 => ?_)
      · have hrun := o_t hrun c_4
        cases hrun
        exact kx _ _ _ Y (lv_sub hl [0, 1, 2, 3, 4, 5, 6] rfl)
      · have hrun := o_f hrun c_4
        refine lv_aload_n hx hb dL_steps_43 rfl (lv_at hl 0 rfl) ?_
        refine lv_bipush (v := (6 : Int32)) hx hb dL_steps_44 (by decide) ?_
        refine lv_iload hx hb dL_steps_46 (lv_at hl 7 rfl) ?_
        refine lv_imul hx hb dL_steps_48 ?_
        refine lv_iconst (v := (5 : Int32)) hx hb dL_steps_49 (by decide) ?_
        refine lv_iadd hx hb dL_steps_50 ?_
        obtain ⟨b_5, hrun⟩ := o_xh hrun
        refine ia S hK Y 0 0 (f := (Ω 1)) rfl rfl b_5 dL_steps_51 ?_
        obtain ⟨q_7, e_8, hrun⟩ := o_bh hrun
        have kx9 : ∀ (H : Heap) (locs : List Loc) (ls : Array Slot), dy_ D A s (wQ cI g Ω) H locs → lv_has ls 11 [(0, .ref (g 1)), (1, .ref (g 4)), (2, .int a2), (3, .int a3), (4, .int a4), (5, .int a5), (6, .int a6), (7, .int a7)] → W p l e (rm_ 1 22) s m args below meth c H locs 0 0 (MQ below (me_Qi D (tQ cI) A r (wQ cI g Ω)) args s 0 0 A) (F0 m 60 ls [.int q_7]) := by
          intro H locs ls Y hl
          refine lv_istore (lv' := [(8, .int q_7), (0, .ref (g 1)), (1, .ref (g 4)), (2, .int a2), (3, .int a3), (4, .int a4), (5, .int a5), (6, .int a6), (7, .int a7)]) hx hb dL_steps_60 hl (Nat.le_of_ble_eq_true rfl) rfl (fun ls hl => ?_)
          refine lv_iconst (v := (0 : Int32)) hx hb dL_steps_62 (by decide) ?_
          refine lv_istore (lv' := [(9, .int (0 : Int32)), (8, .int q_7), (0, .ref (g 1)), (1, .ref (g 4)), (2, .int a2), (3, .int a3), (4, .int a4), (5, .int a5), (6, .int a6), (7, .int a7)]) hx hb dL_steps_63 hl (Nat.le_of_ble_eq_true rfl) rfl (fun ls hl => ?_)
          obtain ⟨q_23, e_24, hrun⟩ := o_bh hrun
          refine lp65 70 a2 a3 a4 a5 a6 a7 q_7 (0 : Int32) Ω q_23 e_24 (fun H locs ls Y hl => ?_) _ _ _ Y (lv_sub hl [2, 3, 4, 5, 6, 7, 8, 9, 1, 0] rfl)
          refine lv_iload hx hb dL_steps_150 (lv_at hl 6 rfl) ?_
          obtain ⟨q_26, e_27, hrun⟩ := o_bh hrun
          have kx28 : ∀ (H : Heap) (locs : List Loc) (ls : Array Slot), dy_ D A s (wQ cI g Ω) H locs → lv_has ls 11 [(0, .ref (g 1)), (1, .ref (g 4)), (2, .int a2), (3, .int a3), (4, .int a4), (5, .int a5), (7, .int a7)] → W p l e (rm_ 1 22) s m args below meth c H locs 0 0 (MQ below (me_Qi D (tQ cI) A r (wQ cI g Ω)) args s 0 0 A) (F0 m 165 ls [.int q_26]) := by
            intro H locs ls Y hl
            refine lv_istore (lv' := [(6, .int q_26), (0, .ref (g 1)), (1, .ref (g 4)), (2, .int a2), (3, .int a3), (4, .int a4), (5, .int a5), (7, .int a7)]) hx hb dL_steps_165 hl (Nat.le_of_ble_eq_true rfl) rfl (fun ls hl => ?_)
            refine lv_iinc (v := (a7 + (1 : Int32))) (lv' := [(7, .int (a7 + (1 : Int32))), (6, .int q_26), (0, .ref (g 1)), (1, .ref (g 4)), (2, .int a2), (3, .int a3), (4, .int a4), (5, .int a5)]) hx hb dL_steps_167 hl (k := 7) rfl (by rfl) (Nat.le_of_ble_eq_true rfl) rfl (fun ls hl => ?_)
            refine lv_goto (tgt := 36) hx hb dL_steps_170 (by decide) ?_
            exact ih a2 a3 a4 a5 q_26 (a7 + (1 : Int32)) Ω q_x hrun kx _ _ _ Y (lv_sub hl [2, 3, 4, 5, 6, 7, 1, 0] rfl)
          have hrun := e_27
          refine lv_if_eq (tgt := 164) hx hb dL_steps_152 (by decide) (fun c_25 => ?_) (fun c_25 => ?_)
          · have hrun := o_t hrun c_25
            refine lv_iconst (v := (0 : Int32)) hx hb dL_steps_164 (by decide) ?_
            cases hrun
            exact kx28 _ _ _ Y (lv_sub hl [0, 1, 2, 3, 4, 5, 7] rfl)
          · have hrun := o_f hrun c_25
            refine lv_iload hx hb dL_steps_155 (lv_at hl 8 rfl) ?_
            refine lv_if_eq (tgt := 164) hx hb dL_steps_157 (by decide) (fun c_29 => ?_) (fun c_29 => ?_)
            · have hrun := o_t hrun c_29
              refine lv_iconst (v := (0 : Int32)) hx hb dL_steps_164 (by decide) ?_
              cases hrun
              exact kx28 _ _ _ Y (lv_sub hl [0, 1, 2, 3, 4, 5, 7] rfl)
            · have hrun := o_f hrun c_29
              refine lv_iconst (v := (1 : Int32)) hx hb dL_steps_160 (by decide) ?_
              refine lv_goto (tgt := 165) hx hb dL_steps_161 (by decide) ?_
              cases hrun
              exact kx28 _ _ _ Y (lv_sub hl [0, 1, 2, 3, 4, 5, 7] rfl)
        have hrun := e_8
        refine lv_if_ge (tgt := 59) hx hb dL_steps_52 (by decide) (fun c_6 => ?_) (fun c_6 => ?_)
        · have hrun := o_t hrun c_6
          refine lv_iconst (v := (0 : Int32)) hx hb dL_steps_59 (by decide) ?_
          cases hrun
          exact kx9 _ _ _ Y (lv_sub hl [0, 1, 2, 3, 4, 5, 6, 7] rfl)
        · have hrun := o_f hrun c_6
          refine lv_iconst (v := (1 : Int32)) hx hb dL_steps_55 (by decide) ?_
          refine lv_goto (tgt := 60) hx hb dL_steps_56 (by decide) ?_
          cases hrun
          exact kx9 _ _ _ Y (lv_sub hl [0, 1, 2, 3, 4, 5, 6, 7] rfl)
  have lp23 : ∀ (n : Nat) (a2 : Int32) (a3 : Int32) (a4 : Int32) (a5 : Int32) (Ω : sg_T) (q_x : Int32), lL_steps_23 n a2 a3 a4 a5 Ω = some q_x → (∀ (H : Heap) (locs : List Loc) (ls : Array Slot), dy_ D A s (wQ cI g Ω) H locs → lv_has ls 11 [(0, .ref (g 1)), (1, .ref (g 4)), (2, .int q_x), (3, .int a3), (4, .int a4)] → W p l e (rm_ 1 22) s m args below meth c H locs 0 0 (MQ below (me_Qi D (tQ cI) A r (wQ cI g Ω)) args s 0 0 A) (F0 m 217 ls [])) → ∀ (H : Heap) (locs : List Loc) (ls : Array Slot), dy_ D A s (wQ cI g Ω) H locs → lv_has ls 11 [(0, .ref (g 1)), (1, .ref (g 4)), (2, .int a2), (3, .int a3), (4, .int a4), (5, .int a5)] → W p l e (rm_ 1 22) s m args below meth c H locs 0 0 (MQ below (me_Qi D (tQ cI) A r (wQ cI g Ω)) args s 0 0 A) (F0 m 23 ls []) := by
    intro n
    induction n with
    | zero => intro a2 a3 a4 a5 Ω q_x hrun; cases hrun
    | succ n ih =>
      intro a2 a3 a4 a5 Ω q_x hrun kx H locs ls Y hl
      unfold lL_steps_23 at hrun
      refine lv_iload hx hb dL_steps_23 (lv_at hl 5 rfl) ?_
      refine lv_bipush (v := (34 : Int32)) hx hb dL_steps_25 (by decide) ?_
      refine lv_icmp_ge (tgt := 217) hx hb dL_steps_27 (by decide) (fun c_3 => ?_) (fun c_3 => ?_)
      · have hrun := o_t hrun c_3
        cases hrun
        exact kx _ _ _ Y (lv_sub hl [0, 1, 2, 3, 4] rfl)
      · have hrun := o_f hrun c_3
        refine lv_iconst (v := (1 : Int32)) hx hb dL_steps_30 (by decide) ?_
        refine lv_istore (lv' := [(6, .int (1 : Int32)), (0, .ref (g 1)), (1, .ref (g 4)), (2, .int a2), (3, .int a3), (4, .int a4), (5, .int a5)]) hx hb dL_steps_31 hl (Nat.le_of_ble_eq_true rfl) rfl (fun ls hl => ?_)
        refine lv_iconst (v := (0 : Int32)) hx hb dL_steps_33 (by decide) ?_
        refine lv_istore (lv' := [(7, .int (0 : Int32)), (6, .int (1 : Int32)), (0, .ref (g 1)), (1, .ref (g 4)), (2, .int a2), (3, .int a3), (4, .int a4), (5, .int a5)]) hx hb dL_steps_34 hl (Nat.le_of_ble_eq_true rfl) rfl (fun ls hl => ?_)
        obtain ⟨q_30, e_31, hrun⟩ := o_bh hrun
        refine lp36 70 a2 a3 a4 a5 (1 : Int32) (0 : Int32) Ω q_30 e_31 (fun H locs ls Y hl => ?_) _ _ _ Y (lv_sub hl [2, 3, 4, 5, 6, 7, 1, 0] rfl)
        refine lv_iload hx hb dL_steps_173 (lv_at hl 6 rfl) ?_
        obtain ⟨q_33, e_34, hrun⟩ := o_bh hrun
        have kx35 : ∀ (H : Heap) (locs : List Loc) (ls : Array Slot), dy_ D A s (wQ cI g Ω) H locs → lv_has ls 11 [(0, .ref (g 1)), (1, .ref (g 4)), (3, .int a3), (4, .int a4), (5, .int a5), (6, .int q_30)] → W p l e (rm_ 1 22) s m args below meth c H locs 0 0 (MQ below (me_Qi D (tQ cI) A r (wQ cI g Ω)) args s 0 0 A) (F0 m 196 ls [.int q_33]) := by
          intro H locs ls Y hl
          refine lv_istore_n (lv' := [(2, .int q_33), (0, .ref (g 1)), (1, .ref (g 4)), (3, .int a3), (4, .int a4), (5, .int a5), (6, .int q_30)]) hx hb dL_steps_196 rfl hl (Nat.le_of_ble_eq_true rfl) rfl (fun ls hl => ?_)
          refine lv_iload hx hb dL_steps_197 (lv_at hl 6 rfl) ?_
          obtain ⟨q_37, e_38, hrun⟩ := o_bh hrun
          have kx39 : ∀ (H : Heap) (locs : List Loc) (ls : Array Slot), dy_ D A s (wQ cI g Ω) H locs → lv_has ls 11 [(0, .ref (g 1)), (1, .ref (g 4)), (2, .int q_33), (3, .int a3), (4, .int a4)] → W p l e (rm_ 1 22) s m args below meth c H locs 0 0 (MQ below (me_Qi D (tQ cI) A r (wQ cI g Ω)) args s 0 0 A) (F0 m 209 ls [.int q_37]) := by
            intro H locs ls Y hl
            refine lv_istore (lv' := [(5, .int q_37), (0, .ref (g 1)), (1, .ref (g 4)), (2, .int q_33), (3, .int a3), (4, .int a4)]) hx hb dL_steps_209 hl (Nat.le_of_ble_eq_true rfl) rfl (fun ls hl => ?_)
            refine lv_iinc (v := (q_37 + (1 : Int32))) (lv' := [(5, .int (q_37 + (1 : Int32))), (0, .ref (g 1)), (1, .ref (g 4)), (2, .int q_33), (3, .int a3), (4, .int a4)]) hx hb dL_steps_211 hl (k := 0) rfl (by rfl) (Nat.le_of_ble_eq_true rfl) rfl (fun ls hl => ?_)
            refine lv_goto (tgt := 23) hx hb dL_steps_214 (by decide) ?_
            exact ih q_33 a3 a4 (q_37 + (1 : Int32)) Ω q_x hrun kx _ _ _ Y (lv_sub hl [1, 2, 3, 4, 5, 0] rfl)
          have hrun := e_38
          refine lv_if_eq (tgt := 207) hx hb dL_steps_199 (by decide) (fun c_36 => ?_) (fun c_36 => ?_)
          · have hrun := o_t hrun c_36
            refine lv_iload hx hb dL_steps_207 (lv_at hl 5 rfl) ?_
            cases hrun
            exact kx39 _ _ _ Y (lv_sub hl [1, 2, 0, 3, 4] rfl)
          · have hrun := o_f hrun c_36
            refine lv_bipush (v := (34 : Int32)) hx hb dL_steps_202 (by decide) ?_
            refine lv_goto (tgt := 209) hx hb dL_steps_204 (by decide) ?_
            cases hrun
            exact kx39 _ _ _ Y (lv_sub hl [1, 2, 0, 3, 4] rfl)
        have hrun := e_34
        refine lv_if_eq (tgt := 195) hx hb dL_steps_175 (by decide) (fun c_32 => ?_) (fun c_32 => ?_)
        · have hrun := o_t hrun c_32
          refine lv_iload_n hx hb dL_steps_195 rfl (lv_at hl 2 rfl) ?_
          cases hrun
          exact kx35 _ _ _ Y (lv_sub hl [0, 1, 3, 4, 5, 6] rfl)
        · have hrun := o_f hrun c_32
          refine lv_iload hx hb dL_steps_178 (lv_at hl 4 rfl) ?_
          refine lv_iload hx hb dL_steps_180 (lv_at hl 5 rfl) ?_
          refine lv_iadd hx hb dL_steps_182 ?_
          refine lv_iload_n hx hb dL_steps_183 rfl (lv_at hl 2 rfl) ?_
          refine lv_icmp_ge (tgt := 195) hx hb dL_steps_184 (by decide) (fun c_40 => ?_) (fun c_40 => ?_)
          · have hrun := o_t hrun c_40
            refine lv_iload_n hx hb dL_steps_195 rfl (lv_at hl 2 rfl) ?_
            cases hrun
            exact kx35 _ _ _ Y (lv_sub hl [0, 1, 3, 4, 5, 6] rfl)
          · have hrun := o_f hrun c_40
            refine lv_iload hx hb dL_steps_187 (lv_at hl 4 rfl) ?_
            refine lv_iload hx hb dL_steps_189 (lv_at hl 5 rfl) ?_
            refine lv_iadd hx hb dL_steps_191 ?_
            refine lv_goto (tgt := 196) hx hb dL_steps_192 (by decide) ?_
            cases hrun
            exact kx35 _ _ _ Y (lv_sub hl [0, 1, 3, 4, 5, 6] rfl)
  have lp13 : ∀ (n : Nat) (a2 : Int32) (a3 : Int32) (a4 : Int32) (Ω : sg_T) (q_x : Int32), lL_steps_13 n a2 a3 a4 Ω = some q_x → (∀ (H : Heap) (locs : List Loc) (ls : Array Slot), dy_ D A s (wQ cI g Ω) H locs → lv_has ls 11 [(0, .ref (g 1)), (1, .ref (g 4)), (2, .int q_x), (3, .int a3)] → W p l e (rm_ 1 22) s m args below meth c H locs 0 0 (MQ below (me_Qi D (tQ cI) A r (wQ cI g Ω)) args s 0 0 A) (F0 m 223 ls [])) → ∀ (H : Heap) (locs : List Loc) (ls : Array Slot), dy_ D A s (wQ cI g Ω) H locs → lv_has ls 11 [(0, .ref (g 1)), (1, .ref (g 4)), (2, .int a2), (3, .int a3), (4, .int a4)] → W p l e (rm_ 1 22) s m args below meth c H locs 0 0 (MQ below (me_Qi D (tQ cI) A r (wQ cI g Ω)) args s 0 0 A) (F0 m 13 ls []) := by
    intro n
    induction n with
    | zero => intro a2 a3 a4 Ω q_x hrun; cases hrun
    | succ n ih =>
      intro a2 a3 a4 Ω q_x hrun kx H locs ls Y hl
      unfold lL_steps_13 at hrun
      refine lv_iload hx hb dL_steps_13 (lv_at hl 4 rfl) ?_
      refine lv_bipush (v := (17 : Int32)) hx hb dL_steps_15 (by decide) ?_
      refine lv_icmp_ge (tgt := 223) hx hb dL_steps_17 (by decide) (fun c_2 => ?_) (fun c_2 => ?_)
      · have hrun := o_t hrun c_2
        cases hrun
        exact kx _ _ _ Y (lv_sub hl [0, 1, 2, 3] rfl)
      · have hrun := o_f hrun c_2
        refine lv_iconst (v := (0 : Int32)) hx hb dL_steps_20 (by decide) ?_
        refine lv_istore (lv' := [(5, .int (0 : Int32)), (0, .ref (g 1)), (1, .ref (g 4)), (2, .int a2), (3, .int a3), (4, .int a4)]) hx hb dL_steps_21 hl (Nat.le_of_ble_eq_true rfl) rfl (fun ls hl => ?_)
        obtain ⟨q_41, e_42, hrun⟩ := o_bh hrun
        refine lp23 70 a2 a3 a4 (0 : Int32) Ω q_41 e_42 (fun H locs ls Y hl => ?_) _ _ _ Y (lv_sub hl [1, 2, 3, 4, 5, 0] rfl)
        refine lv_iinc (v := (a4 + (1 : Int32))) (lv' := [(4, .int (a4 + (1 : Int32))), (0, .ref (g 1)), (1, .ref (g 4)), (2, .int q_41), (3, .int a3)]) hx hb dL_steps_217 hl (k := 4) rfl (by rfl) (Nat.le_of_ble_eq_true rfl) rfl (fun ls hl => ?_)
        refine lv_goto (tgt := 13) hx hb dL_steps_220 (by decide) ?_
        exact ih q_41 a3 (a4 + (1 : Int32)) Ω q_x hrun kx _ _ _ Y (lv_sub hl [1, 2, 3, 4, 0] rfl)
  have lp5 : ∀ (n : Nat) (a2 : Int32) (a3 : Int32) (Ω : sg_T) (q_x : Int32), lL_steps_5 n a2 a3 Ω = some q_x → (∀ (H : Heap) (locs : List Loc) (ls : Array Slot), dy_ D A s (wQ cI g Ω) H locs → lv_has ls 11 [(0, .ref (g 1)), (1, .ref (g 4)), (2, .int q_x)] → W p l e (rm_ 1 22) s m args below meth c H locs 0 0 (MQ below (me_Qi D (tQ cI) A r (wQ cI g Ω)) args s 0 0 A) (F0 m 229 ls [])) → ∀ (H : Heap) (locs : List Loc) (ls : Array Slot), dy_ D A s (wQ cI g Ω) H locs → lv_has ls 11 [(0, .ref (g 1)), (1, .ref (g 4)), (2, .int a2), (3, .int a3)] → W p l e (rm_ 1 22) s m args below meth c H locs 0 0 (MQ below (me_Qi D (tQ cI) A r (wQ cI g Ω)) args s 0 0 A) (F0 m 5 ls []) := by
    intro n
    induction n with
    | zero => intro a2 a3 Ω q_x hrun; cases hrun
    | succ n ih =>
      intro a2 a3 Ω q_x hrun kx H locs ls Y hl
      unfold lL_steps_5 at hrun
      refine lv_iload_n hx hb dL_steps_5 rfl (lv_at hl 3 rfl) ?_
      refine lv_iconst (v := (2 : Int32)) hx hb dL_steps_6 (by decide) ?_
      refine lv_icmp_ge (tgt := 229) hx hb dL_steps_7 (by decide) (fun c_1 => ?_) (fun c_1 => ?_)
      · have hrun := o_t hrun c_1
        cases hrun
        exact kx _ _ _ Y (lv_sub hl [0, 1, 2] rfl)
      · have hrun := o_f hrun c_1
        refine lv_iconst (v := (0 : Int32)) hx hb dL_steps_10 (by decide) ?_
        refine lv_istore (lv' := [(4, .int (0 : Int32)), (0, .ref (g 1)), (1, .ref (g 4)), (2, .int a2), (3, .int a3)]) hx hb dL_steps_11 hl (Nat.le_of_ble_eq_true rfl) rfl (fun ls hl => ?_)
        obtain ⟨q_43, e_44, hrun⟩ := o_bh hrun
        refine lp13 70 a2 a3 (0 : Int32) Ω q_43 e_44 (fun H locs ls Y hl => ?_) _ _ _ Y (lv_sub hl [1, 2, 3, 4, 0] rfl)
        refine lv_iinc (v := (a3 + (2 : Int32))) (lv' := [(3, .int (a3 + (2 : Int32))), (0, .ref (g 1)), (1, .ref (g 4)), (2, .int q_43)]) hx hb dL_steps_223 hl (k := 3) rfl (by rfl) (Nat.le_of_ble_eq_true rfl) rfl (fun ls hl => ?_)
        refine lv_goto (tgt := 5) hx hb dL_steps_226 (by decide) ?_
        exact ih q_43 (a3 + (2 : Int32)) Ω q_x hrun kx _ _ _ Y (lv_sub hl [1, 2, 3, 0] rfl)
  unfold fL_steps at hrun
  refine lv_bipush (v := (99 : Int32)) hx hb dL_steps_0 (by decide) ?_
  refine lv_istore_n (lv' := [(2, .int (99 : Int32)), (0, .ref (g 1)), (1, .ref (g 4))]) hx hb dL_steps_2 rfl hl (Nat.le_of_ble_eq_true rfl) rfl (fun ls hl => ?_)
  refine lv_iconst (v := (-1 : Int32)) hx hb dL_steps_3 (by decide) ?_
  refine lv_istore_n (lv' := [(3, .int (-1 : Int32)), (2, .int (99 : Int32)), (0, .ref (g 1)), (1, .ref (g 4))]) hx hb dL_steps_4 rfl hl (Nat.le_of_ble_eq_true rfl) rfl (fun ls hl => ?_)
  obtain ⟨q_45, e_46, hrun⟩ := o_bh hrun
  refine lp5 70 (99 : Int32) (-1 : Int32) Ω q_45 e_46 (fun H locs ls Y hl => ?_) _ _ _ Y (lv_sub hl [2, 3, 1, 0] rfl)
  refine lv_iload_n hx hb dL_steps_229 rfl (lv_at hl 2 rfl) ?_
  cases hrun
  exact me_ri S hK Y hr hlk rfl dL_steps_230
