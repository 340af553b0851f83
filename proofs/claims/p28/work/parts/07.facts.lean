theorem uw_ps {ws : List Cond} (ps : List Nat) (hp : ws.map some = ps.map (fun i => lw_tbl[i]?)) (hg : ws.all goodWord = true) : ∀ w ∈ ws, w ∈ uw_ := by
  intro w hw
  have h1 : some w ∈ ws.map some := List.mem_map.mpr ⟨w, hw, rfl⟩
  rw [hp] at h1
  obtain ⟨i, -, hi⟩ := List.mem_map.mp h1
  exact uw_in i hi (List.all_eq_true.mp hg w hw)
def o_x {α : Type} (i : Int32) (n : Nat) (x : Option α) : Option α := if (i < 0 ∨ n ≤ i.toNatClampNeg) then none else x
theorem o_xh {α : Type} {i : Int32} {n : Nat} {x : Option α} {r : α} (h : o_x i n x = some r) : vp_in i n ∧ x = some r := by
  unfold o_x at h
  by_cases hp : (i < 0 ∨ n ≤ i.toNatClampNeg)
  · rw [if_pos hp] at h; cases h
  · rw [if_neg hp] at h; exact ⟨hp, h⟩
theorem nb_ {v : Int32} (h : v = 0 ∨ v = 1) : narrow .boolean (.int v) = .int v := by
  rcases h with rfl | rfl <;> rfl
theorem me_ofI {l : Launch} {D : va_G} {tys : List (ClassId × FieldType)} {y : MethodName} {b : ByteArray} {n : Nat} {rt : FieldType} {f lo : Nat} {w w' : va_W} {av : List Value} {r : Int32} (hpl : plainFor y = true) (hfit : (lg_sl av).length ≤ n)
    (body : ∀ (p : Program) (e : Env) (s : State) (m : MethodId) (args : Array Value) (below : List Frame) (meth : Method) (c : Code) (A : Nat → Prop) (ls : Array Slot), CallFix p m c b n s args (wu_ y b n (some rt)) y.cls → va_K D vwCl tys s → dy_ D A s w s.heap [] → (∀ q, s.heap.size ≤ q → A q) → lv_has ls n (lv_args 0 av) → meth.sig.returnType = some rt → meth.locks = false → zs_ A s →
      W p l e (rm_ f lo) s m args below meth c s.heap [] 0 0 (MQ below (me_Qi D tys A r w') args s 0 0 A) (F0 m 0 ls [])) : me_I l D tys y b n rt f lo w av r w' := me_of (Qc := fun A => me_Qi D tys A r w') hpl hfit body
theorem me_ofV {l : Launch} {D : va_G} {tys : List (ClassId × FieldType)} {y : MethodName} {b : ByteArray} {n : Nat} {f lo : Nat} {w w' : va_W} {av : List Value} (hpl : plainFor y = true) (hfit : (lg_sl av).length ≤ n)
    (body : ∀ (p : Program) (e : Env) (s : State) (m : MethodId) (args : Array Value) (below : List Frame) (meth : Method) (c : Code) (A : Nat → Prop) (ls : Array Slot), CallFix p m c b n s args (wu_ y b n none) y.cls → va_K D vwCl tys s → dy_ D A s w s.heap [] → (∀ q, s.heap.size ≤ q → A q) → lv_has ls n (lv_args 0 av) → meth.sig.returnType = none → meth.locks = false → zs_ A s →
      W p l e (rm_ f lo) s m args below meth c s.heap [] 0 0 (MQ below (me_Qv D tys A w') args s 0 0 A) (F0 m 0 ls [])) : me_V l D tys y b n f lo w av w' := me_of (Qc := fun A => me_Qv D tys A w') hpl hfit body
def vS (h : Nat → Nat) (F : Nat → Int32) : List Value := [.ref (h 1), .ref (h 2), .ref (h 3), .ref (h 4), .ref (h 5), .ref (h 6), .ref (h 7), .ref (h 8), .ref (h 9), .int (F 0), .int (F 1), .int (F 2), .int (F 3), .int (F 4), .int (F 5), .int (F 6)]
def wS (cI : ClassId) (h : Nat → Nat) (σ : sg_T) : va_W := [(h 0, .inr (2, vS h (σ 0))), (h 1, .inl (cI, 4, .inl (σ 1))), (h 2, .inl (cI, 8, .inl (σ 2))), (h 3, .inl (cI, 8, .inl (σ 3))), (h 4, .inl (cI, 8, .inl (σ 4))), (h 5, .inl (cI, 8, .inl (σ 5))), (h 6, .inl (cI, 8, .inl (σ 6))), (h 7, .inl (cI, 8, .inl (σ 7))), (h 8, .inl (cI, 16, .inl (σ 8))), (h 9, .inl (cI, 16, .inl (σ 9)))]
def tS (cI : ClassId) : List (ClassId × FieldType) := [(cI, .int)]
theorem wS_f0 {cI : ClassId} (h : Nat → Nat) (σ : sg_T) (F : Nat → Int32) (x : Int32) : (wS cI h σ).set 0 (h 0, .inr (2, (vS h F).set 9 (.int x))) = wS cI h (sg_a σ 0 (sg_u F 0 x)) := rfl
theorem wS_f1 {cI : ClassId} (h : Nat → Nat) (σ : sg_T) (F : Nat → Int32) (x : Int32) : (wS cI h σ).set 0 (h 0, .inr (2, (vS h F).set 10 (.int x))) = wS cI h (sg_a σ 0 (sg_u F 1 x)) := rfl
theorem wS_f2 {cI : ClassId} (h : Nat → Nat) (σ : sg_T) (F : Nat → Int32) (x : Int32) : (wS cI h σ).set 0 (h 0, .inr (2, (vS h F).set 11 (.int x))) = wS cI h (sg_a σ 0 (sg_u F 2 x)) := rfl
theorem wS_f3 {cI : ClassId} (h : Nat → Nat) (σ : sg_T) (F : Nat → Int32) (x : Int32) : (wS cI h σ).set 0 (h 0, .inr (2, (vS h F).set 12 (.int x))) = wS cI h (sg_a σ 0 (sg_u F 3 x)) := rfl
theorem wS_f4 {cI : ClassId} (h : Nat → Nat) (σ : sg_T) (F : Nat → Int32) (x : Int32) : (wS cI h σ).set 0 (h 0, .inr (2, (vS h F).set 13 (.int x))) = wS cI h (sg_a σ 0 (sg_u F 4 x)) := rfl
theorem wS_f5 {cI : ClassId} (h : Nat → Nat) (σ : sg_T) (F : Nat → Int32) (x : Int32) : (wS cI h σ).set 0 (h 0, .inr (2, (vS h F).set 14 (.int x))) = wS cI h (sg_a σ 0 (sg_u F 5 x)) := rfl
theorem wS_f6 {cI : ClassId} (h : Nat → Nat) (σ : sg_T) (F : Nat → Int32) (x : Int32) : (wS cI h σ).set 0 (h 0, .inr (2, (vS h F).set 15 (.int x))) = wS cI h (sg_a σ 0 (sg_u F 6 x)) := rfl
theorem wS_a1 {cI : ClassId} (h : Nat → Nat) (σ : sg_T) (f : Nat → Int32) : (wS cI h σ).set 1 (h 1, .inl (cI, 4, .inl f)) = wS cI h (sg_a σ 1 f) := rfl
theorem wS_a2 {cI : ClassId} (h : Nat → Nat) (σ : sg_T) (f : Nat → Int32) : (wS cI h σ).set 2 (h 2, .inl (cI, 8, .inl f)) = wS cI h (sg_a σ 2 f) := rfl
theorem wS_a3 {cI : ClassId} (h : Nat → Nat) (σ : sg_T) (f : Nat → Int32) : (wS cI h σ).set 3 (h 3, .inl (cI, 8, .inl f)) = wS cI h (sg_a σ 3 f) := rfl
theorem wS_a4 {cI : ClassId} (h : Nat → Nat) (σ : sg_T) (f : Nat → Int32) : (wS cI h σ).set 4 (h 4, .inl (cI, 8, .inl f)) = wS cI h (sg_a σ 4 f) := rfl
theorem wS_a5 {cI : ClassId} (h : Nat → Nat) (σ : sg_T) (f : Nat → Int32) : (wS cI h σ).set 5 (h 5, .inl (cI, 8, .inl f)) = wS cI h (sg_a σ 5 f) := rfl
theorem wS_a6 {cI : ClassId} (h : Nat → Nat) (σ : sg_T) (f : Nat → Int32) : (wS cI h σ).set 6 (h 6, .inl (cI, 8, .inl f)) = wS cI h (sg_a σ 6 f) := rfl
theorem wS_a7 {cI : ClassId} (h : Nat → Nat) (σ : sg_T) (f : Nat → Int32) : (wS cI h σ).set 7 (h 7, .inl (cI, 8, .inl f)) = wS cI h (sg_a σ 7 f) := rfl
theorem wS_a8 {cI : ClassId} (h : Nat → Nat) (σ : sg_T) (f : Nat → Int32) : (wS cI h σ).set 8 (h 8, .inl (cI, 16, .inl f)) = wS cI h (sg_a σ 8 f) := rfl
theorem wS_a9 {cI : ClassId} (h : Nat → Nat) (σ : sg_T) (f : Nat → Int32) : (wS cI h σ).set 9 (h 9, .inl (cI, 16, .inl f)) = wS cI h (sg_a σ 9 f) := rfl
def vT (h : Nat → Nat) (F : Nat → Int32) : List Value := [.ref (h 1), .int (F 0)]
def wT (cI : ClassId) (h : Nat → Nat) (σ : sg_T) : va_W := [(h 0, .inr (0, vT h (σ 0))), (h 1, .inl (cI, 60, .inl (σ 1)))]
def tT (cI : ClassId) : List (ClassId × FieldType) := [(cI, .int)]
theorem wT_f0 {cI : ClassId} (h : Nat → Nat) (σ : sg_T) (F : Nat → Int32) (x : Int32) : (wT cI h σ).set 0 (h 0, .inr (0, (vT h F).set 1 (.int x))) = wT cI h (sg_a σ 0 (sg_u F 0 x)) := rfl
theorem wT_a1 {cI : ClassId} (h : Nat → Nat) (σ : sg_T) (f : Nat → Int32) : (wT cI h σ).set 1 (h 1, .inl (cI, 60, .inl f)) = wT cI h (sg_a σ 1 f) := rfl
set_option maxRecDepth 20000 in
theorem iuX5 : ∀ w ∈ u_ws RX5 TX5 16, w ∈ uw_ := uw_ps [88, 90, 92, 94, 96, 98, 100, 102, 104, 106, 108, 110, 112, 114, 116, 118] rfl rfl
theorem fpX5 : fp_ TX5 16 tyX5 := ⟨tyX5_ok, nmX5⟩
set_option maxRecDepth 20000 in
theorem iuX1 : ∀ w ∈ u_ws RX1 TX1 2, w ∈ uw_ := uw_ps [146, 148] rfl rfl
theorem fpX1 : fp_ TX1 2 tyX1 := ⟨tyX1_ok, nmX1⟩
set_option maxRecDepth 20000 in
theorem fX0_21 : fl_ RX0 21 RX5 TX5 16 2 9 := ⟨iuX5, rfl, Nat.le_of_ble_eq_true rfl, uw_in 66 rfl rfl, rfl⟩
set_option maxRecDepth 20000 in
theorem fX0_43 : fl_ RX0 43 RX5 TX5 16 2 7 := ⟨iuX5, rfl, Nat.le_of_ble_eq_true rfl, uw_in 58 rfl rfl, rfl⟩
set_option maxRecDepth 20000 in
theorem fX0_63 : fl_ RX0 63 RX5 TX5 16 2 6 := ⟨iuX5, rfl, Nat.le_of_ble_eq_true rfl, uw_in 55 rfl rfl, rfl⟩
set_option maxRecDepth 20000 in
theorem fX0_66 : fl_ RX0 66 RX5 TX5 16 2 14 := ⟨iuX5, rfl, Nat.le_of_ble_eq_true rfl, uw_in 83 rfl rfl, rfl⟩
set_option maxRecDepth 20000 in
theorem fX0_72 : fl_ RX0 72 RX5 TX5 16 2 0 := ⟨iuX5, rfl, Nat.le_of_ble_eq_true rfl, uw_in 34 rfl rfl, rfl⟩
set_option maxRecDepth 20000 in
theorem fX0_9 : fl_ RX0 9 RX5 TX5 16 2 11 := ⟨iuX5, rfl, Nat.le_of_ble_eq_true rfl, uw_in 72 rfl rfl, rfl⟩
set_option maxRecDepth 20000 in
theorem fX2_109 : fl_ RX2 109 RX5 TX5 16 2 1 := ⟨iuX5, rfl, Nat.le_of_ble_eq_true rfl, uw_in 37 rfl rfl, rfl⟩
set_option maxRecDepth 20000 in
theorem fX2_112 : fl_ RX2 112 RX5 TX5 16 2 3 := ⟨iuX5, rfl, Nat.le_of_ble_eq_true rfl, uw_in 44 rfl rfl, rfl⟩
set_option maxRecDepth 20000 in
theorem fX2_115 : fl_ RX2 115 RX5 TX5 16 2 7 := ⟨iuX5, rfl, Nat.le_of_ble_eq_true rfl, uw_in 59 rfl rfl, rfl⟩
set_option maxRecDepth 20000 in
theorem fX2_121 : fl_ RX2 121 RX5 TX5 16 2 8 := ⟨iuX5, rfl, Nat.le_of_ble_eq_true rfl, uw_in 62 rfl rfl, rfl⟩
set_option maxRecDepth 20000 in
theorem fX2_124 : fl_ RX2 124 RX5 TX5 16 2 15 := ⟨iuX5, rfl, Nat.le_of_ble_eq_true rfl, uw_in 86 rfl rfl, rfl⟩
set_option maxRecDepth 20000 in
theorem fX2_127 : fl_ RX2 127 RX5 TX5 16 2 4 := ⟨iuX5, rfl, Nat.le_of_ble_eq_true rfl, uw_in 49 rfl rfl, rfl⟩
set_option maxRecDepth 20000 in
theorem fX2_136 : fl_ RX2 136 RX5 TX5 16 2 5 := ⟨iuX5, rfl, Nat.le_of_ble_eq_true rfl, uw_in 52 rfl rfl, rfl⟩
set_option maxRecDepth 20000 in
theorem fX2_139 : fl_ RX2 139 RX5 TX5 16 2 10 := ⟨iuX5, rfl, Nat.le_of_ble_eq_true rfl, uw_in 70 rfl rfl, rfl⟩
set_option maxRecDepth 20000 in
theorem fX2_22 : fl_ RX2 22 RX5 TX5 16 2 0 := ⟨iuX5, rfl, Nat.le_of_ble_eq_true rfl, uw_in 32 rfl rfl, rfl⟩
set_option maxRecDepth 20000 in
theorem fX2_25 : fl_ RX2 25 RX5 TX5 16 2 11 := ⟨iuX5, rfl, Nat.le_of_ble_eq_true rfl, uw_in 73 rfl rfl, rfl⟩
set_option maxRecDepth 20000 in
theorem fX2_29 : fl_ RX2 29 RX5 TX5 16 2 9 := ⟨iuX5, rfl, Nat.le_of_ble_eq_true rfl, uw_in 65 rfl rfl, rfl⟩
set_option maxRecDepth 20000 in
theorem fX2_35 : fl_ RX2 35 RX5 TX5 16 2 12 := ⟨iuX5, rfl, Nat.le_of_ble_eq_true rfl, uw_in 76 rfl rfl, rfl⟩
set_option maxRecDepth 20000 in
theorem fX2_38 : fl_ RX2 38 RX5 TX5 16 2 13 := ⟨iuX5, rfl, Nat.le_of_ble_eq_true rfl, uw_in 79 rfl rfl, rfl⟩
set_option maxRecDepth 20000 in
theorem fX2_41 : fl_ RX2 41 RX5 TX5 16 2 2 := ⟨iuX5, rfl, Nat.le_of_ble_eq_true rfl, uw_in 40 rfl rfl, rfl⟩
set_option maxRecDepth 20000 in
theorem fX2_67 : fl_ RX2 67 RX5 TX5 16 2 6 := ⟨iuX5, rfl, Nat.le_of_ble_eq_true rfl, uw_in 54 rfl rfl, rfl⟩
set_option maxRecDepth 20000 in
theorem fX2_74 : fl_ RX2 74 RX5 TX5 16 2 14 := ⟨iuX5, rfl, Nat.le_of_ble_eq_true rfl, uw_in 82 rfl rfl, rfl⟩
set_option maxRecDepth 20000 in
theorem fX4_15 : fl_ RX4 15 RX5 TX5 16 2 4 := ⟨iuX5, rfl, Nat.le_of_ble_eq_true rfl, uw_in 47 rfl rfl, rfl⟩
set_option maxRecDepth 20000 in
theorem fX4_18 : fl_ RX4 18 RX5 TX5 16 2 9 := ⟨iuX5, rfl, Nat.le_of_ble_eq_true rfl, uw_in 64 rfl rfl, rfl⟩
set_option maxRecDepth 20000 in
theorem fX4_39 : fl_ RX4 39 RX5 TX5 16 2 2 := ⟨iuX5, rfl, Nat.le_of_ble_eq_true rfl, uw_in 41 rfl rfl, rfl⟩
set_option maxRecDepth 20000 in
theorem fX4_9 : fl_ RX4 9 RX5 TX5 16 2 1 := ⟨iuX5, rfl, Nat.le_of_ble_eq_true rfl, uw_in 36 rfl rfl, rfl⟩
set_option maxRecDepth 20000 in
theorem fX5_15 : fl_ RX5 15 RX5 TX5 16 2 1 := ⟨iuX5, rfl, Nat.le_of_ble_eq_true rfl, uw_in 35 rfl rfl, rfl⟩
set_option maxRecDepth 20000 in
theorem fX5_30 : fl_ RX5 30 RX5 TX5 16 2 6 := ⟨iuX5, rfl, Nat.le_of_ble_eq_true rfl, uw_in 53 rfl rfl, rfl⟩
set_option maxRecDepth 20000 in
theorem fX5_38 : fl_ RX5 38 RX5 TX5 16 2 8 := ⟨iuX5, rfl, Nat.le_of_ble_eq_true rfl, uw_in 61 rfl rfl, rfl⟩
set_option maxRecDepth 20000 in
theorem fX5_41 : fl_ RX5 41 RX5 TX5 16 2 9 := ⟨iuX5, rfl, Nat.le_of_ble_eq_true rfl, uw_in 63 rfl rfl, rfl⟩
set_option maxRecDepth 20000 in
theorem fX5_54 : fl_ RX5 54 RX5 TX5 16 2 13 := ⟨iuX5, rfl, Nat.le_of_ble_eq_true rfl, uw_in 78 rfl rfl, rfl⟩
set_option maxRecDepth 20000 in
theorem fX5_57 : fl_ RX5 57 RX5 TX5 16 2 14 := ⟨iuX5, rfl, Nat.le_of_ble_eq_true rfl, uw_in 81 rfl rfl, rfl⟩
set_option maxRecDepth 20000 in
theorem fX5_9 : fl_ RX5 9 RX5 TX5 16 2 0 := ⟨iuX5, rfl, Nat.le_of_ble_eq_true rfl, uw_in 31 rfl rfl, rfl⟩
set_option maxRecDepth 20000 in
theorem kX0_17 : cv_ RX0 17 yX5_seekerSees cX5_seekerSees 2 (some .boolean) 1 := ⟨uw_in 440 rfl rfl, uw_in 327 rfl rfl, uw_in 328 rfl rfl, uw_in 3 rfl rfl, uw_in 329 rfl rfl, ⟨by decide, by decide, by decide +kernel⟩⟩
set_option maxRecDepth 20000 in
theorem kX0_24 : cv_ RX0 24 yX5_wouldEscape cX5_wouldEscape 2 (some .boolean) 1 := ⟨uw_in 448 rfl rfl, uw_in 356 rfl rfl, uw_in 357 rfl rfl, uw_in 3 rfl rfl, uw_in 358 rfl rfl, ⟨by decide, by decide, by decide +kernel⟩⟩
set_option maxRecDepth 20000 in
theorem kX0_27 : cv_ RX0 27 yX5_hasRoomToHide cX5_hasRoomToHide 2 (some .boolean) 1 := ⟨uw_in 426 rfl rfl, uw_in 227 rfl rfl, uw_in 228 rfl rfl, uw_in 3 rfl rfl, uw_in 229 rfl rfl, ⟨by decide, by decide, by decide +kernel⟩⟩
set_option maxRecDepth 20000 in
theorem kX0_30 : cs_ RX0 30 yX6_isSpot cX6_isSpot 1 (some .boolean) 1 := ⟨uw_in 427 rfl rfl, uw_in 251 rfl rfl, uw_in 9 rfl rfl, uw_in 252 rfl rfl, ⟨by decide, by decide, by decide +kernel⟩⟩
set_option maxRecDepth 20000 in
theorem kX0_33 : cs_ RX0 33 yX0_isBetterToHide cX0_isBetterToHide 3 (some .boolean) 3 := ⟨uw_in 428 rfl rfl, uw_in 429 rfl rfl, uw_in 13 rfl rfl, uw_in 430 rfl rfl, ⟨by decide, by decide, by decide +kernel⟩⟩
set_option maxRecDepth 20000 in
theorem kX0_39 : cs_ RX0 39 yX6_fromBase cX6_fromBase 1 (some .int) 1 := ⟨uw_in 431 rfl rfl, uw_in 235 rfl rfl, uw_in 9 rfl rfl, uw_in 236 rfl rfl, ⟨by decide, by decide, by decide +kernel⟩⟩
set_option maxRecDepth 20000 in
theorem kX0_47 : cv_ RX0 47 yX5_hiderCount cX5_hiderCount 2 (some .int) 1 := ⟨uw_in 432 rfl rfl, uw_in 258 rfl rfl, uw_in 259 rfl rfl, uw_in 3 rfl rfl, uw_in 260 rfl rfl, ⟨by decide, by decide, by decide +kernel⟩⟩
set_option maxRecDepth 20000 in
theorem kX0_50 : cs_ RX0 50 yX0_stepsDownForTheRest cX0_stepsDownForTheRest 6 (some .int) 2 := ⟨uw_in 456 rfl rfl, uw_in 457 rfl rfl, uw_in 13 rfl rfl, uw_in 458 rfl rfl, ⟨by decide, by decide, by decide +kernel⟩⟩
set_option maxRecDepth 20000 in
theorem kX0_54 : cs_ RX0 54 yJ9_min_7cf53 cJ9_min_7cf53 2 (some .int) 2 := ⟨uw_in 464 rfl rfl, uw_in 244 rfl rfl, uw_in 10 rfl rfl, uw_in 245 rfl rfl, ⟨by decide, by decide, by decide +kernel⟩⟩
set_option maxRecDepth 20000 in
theorem kX0_60 : cv_ RX0 60 yX5_isHidden cX5_isHidden 2 (some .boolean) 1 := ⟨uw_in 459 rfl rfl, uw_in 280 rfl rfl, uw_in 281 rfl rfl, uw_in 3 rfl rfl, uw_in 282 rfl rfl, ⟨by decide, by decide, by decide +kernel⟩⟩
set_option maxRecDepth 20000 in
theorem kX0_69 : cs_ RX0 69 yX6_stepsUp cX6_stepsUp 2 (some .int) 2 := ⟨uw_in 460 rfl rfl, uw_in 238 rfl rfl, uw_in 9 rfl rfl, uw_in 239 rfl rfl, ⟨by decide, by decide, by decide +kernel⟩⟩
set_option maxRecDepth 20000 in
theorem kX0_75 : cs_ RX0 75 yJ9_max_7cf53 cJ9_max_7cf53 2 (some .int) 2 := ⟨uw_in 461 rfl rfl, uw_in 462 rfl rfl, uw_in 10 rfl rfl, uw_in 463 rfl rfl, ⟨by decide, by decide, by decide +kernel⟩⟩
set_option maxRecDepth 20000 in
theorem kX2_103 : cv_ RX2 103 yX5_wouldEscape cX5_wouldEscape 2 (some .boolean) 1 := ⟨uw_in 355 rfl rfl, uw_in 356 rfl rfl, uw_in 357 rfl rfl, uw_in 3 rfl rfl, uw_in 358 rfl rfl, ⟨by decide, by decide, by decide +kernel⟩⟩
set_option maxRecDepth 20000 in
theorem kX2_106 : cs_ RX2 106 yX2_escape cX2_escape 3 none 3 := ⟨uw_in 339 rfl rfl, uw_in 340 rfl rfl, uw_in 8 rfl rfl, uw_in 341 rfl rfl, ⟨by decide, by decide, by decide +kernel⟩⟩
set_option maxRecDepth 20000 in
theorem kX2_118 : cv_ RX2 118 yX5_isRetired cX5_isRetired 2 (some .boolean) 1 := ⟨uw_in 305 rfl rfl, uw_in 247 rfl rfl, uw_in 248 rfl rfl, uw_in 3 rfl rfl, uw_in 249 rfl rfl, ⟨by decide, by decide, by decide +kernel⟩⟩
set_option maxRecDepth 20000 in
theorem kX2_130 : cs_ RX2 130 yX2_letAllEscape cX2_letAllEscape 2 none 1 := ⟨uw_in 336 rfl rfl, uw_in 337 rfl rfl, uw_in 8 rfl rfl, uw_in 338 rfl rfl, ⟨by decide, by decide, by decide +kernel⟩⟩
set_option maxRecDepth 20000 in
theorem kX2_133 : cs_ RX2 133 yX2_endRound cX2_endRound 2 none 1 := ⟨uw_in 302 rfl rfl, uw_in 303 rfl rfl, uw_in 8 rfl rfl, uw_in 304 rfl rfl, ⟨by decide, by decide, by decide +kernel⟩⟩
set_option maxRecDepth 20000 in
theorem kX2_142 : cs_ RX2 142 yX2_restSpot cX2_restSpot 3 none 2 := ⟨uw_in 306 rfl rfl, uw_in 307 rfl rfl, uw_in 8 rfl rfl, uw_in 308 rfl rfl, ⟨by decide, by decide, by decide +kernel⟩⟩
set_option maxRecDepth 20000 in
theorem kX2_32 : cv_ RX2 32 yX5_isPlayer cX5_isPlayer 2 (some .boolean) 1 := ⟨uw_in 219 rfl rfl, uw_in 220 rfl rfl, uw_in 221 rfl rfl, uw_in 3 rfl rfl, uw_in 222 rfl rfl, ⟨by decide, by decide, by decide +kernel⟩⟩
set_option maxRecDepth 20000 in
theorem kX2_44 : cs_ RX2 44 yX2_countHidingSpots cX2_countHidingSpots 3 (some .int) 1 := ⟨uw_in 223 rfl rfl, uw_in 224 rfl rfl, uw_in 8 rfl rfl, uw_in 225 rfl rfl, ⟨by decide, by decide, by decide +kernel⟩⟩
set_option maxRecDepth 20000 in
theorem kX2_52 : cv_ RX2 52 yX5_hasRoomToHide cX5_hasRoomToHide 2 (some .boolean) 1 := ⟨uw_in 226 rfl rfl, uw_in 227 rfl rfl, uw_in 228 rfl rfl, uw_in 3 rfl rfl, uw_in 229 rfl rfl, ⟨by decide, by decide, by decide +kernel⟩⟩
set_option maxRecDepth 20000 in
theorem kX2_55 : cs_ RX2 55 yX6_isSpot cX6_isSpot 1 (some .boolean) 1 := ⟨uw_in 278 rfl rfl, uw_in 251 rfl rfl, uw_in 9 rfl rfl, uw_in 252 rfl rfl, ⟨by decide, by decide, by decide +kernel⟩⟩
set_option maxRecDepth 20000 in
theorem kX2_58 : cv_ RX2 58 yX5_isHidden cX5_isHidden 2 (some .boolean) 1 := ⟨uw_in 279 rfl rfl, uw_in 280 rfl rfl, uw_in 281 rfl rfl, uw_in 3 rfl rfl, uw_in 282 rfl rfl, ⟨by decide, by decide, by decide +kernel⟩⟩
set_option maxRecDepth 20000 in
theorem kX2_61 : cv_ RX2 61 yX5_isHidingPlace cX5_isHidingPlace 2 (some .boolean) 1 := ⟨uw_in 284 rfl rfl, uw_in 231 rfl rfl, uw_in 232 rfl rfl, uw_in 3 rfl rfl, uw_in 233 rfl rfl, ⟨by decide, by decide, by decide +kernel⟩⟩
set_option maxRecDepth 20000 in
theorem kX2_64 : cv_ RX2 64 yX5_isFull cX5_isFull 2 (some .boolean) 1 := ⟨uw_in 285 rfl rfl, uw_in 254 rfl rfl, uw_in 255 rfl rfl, uw_in 3 rfl rfl, uw_in 256 rfl rfl, ⟨by decide, by decide, by decide +kernel⟩⟩
set_option maxRecDepth 20000 in
theorem kX2_70 : cs_ RX2 70 yX6_fromBase cX6_fromBase 1 (some .int) 1 := ⟨uw_in 286 rfl rfl, uw_in 235 rfl rfl, uw_in 9 rfl rfl, uw_in 236 rfl rfl, ⟨by decide, by decide, by decide +kernel⟩⟩
set_option maxRecDepth 20000 in
theorem kX2_77 : cv_ RX2 77 yX5_hiddenCount cX5_hiddenCount 3 (some .int) 0 := ⟨uw_in 294 rfl rfl, uw_in 295 rfl rfl, uw_in 296 rfl rfl, uw_in 3 rfl rfl, uw_in 297 rfl rfl, ⟨by decide, by decide, by decide +kernel⟩⟩
set_option maxRecDepth 20000 in
theorem kX2_81 : cs_ RX2 81 yX2_endRoundIfNobodyIsHidden cX2_endRoundIfNobodyIsHidden 1 none 1 := ⟨uw_in 299 rfl rfl, uw_in 300 rfl rfl, uw_in 8 rfl rfl, uw_in 301 rfl rfl, ⟨by decide, by decide, by decide +kernel⟩⟩
set_option maxRecDepth 20000 in
theorem kX2_85 : cs_ RX2 85 yX6_beside cX6_beside 2 (some .int) 2 := ⟨uw_in 316 rfl rfl, uw_in 317 rfl rfl, uw_in 9 rfl rfl, uw_in 318 rfl rfl, ⟨by decide, by decide, by decide +kernel⟩⟩
set_option maxRecDepth 20000 in
theorem kX2_89 : cv_ RX2 89 yX5_seekerSees cX5_seekerSees 2 (some .boolean) 1 := ⟨uw_in 326 rfl rfl, uw_in 327 rfl rfl, uw_in 328 rfl rfl, uw_in 3 rfl rfl, uw_in 329 rfl rfl, ⟨by decide, by decide, by decide +kernel⟩⟩
set_option maxRecDepth 20000 in
theorem kX2_9 : cs_ RX2 9 yX5_isSetting cX5_isSetting 1 (some .boolean) 1 := ⟨uw_in 185 rfl rfl, uw_in 186 rfl rfl, uw_in 3 rfl rfl, uw_in 187 rfl rfl, ⟨by decide, by decide, by decide +kernel⟩⟩
set_option maxRecDepth 20000 in
theorem kX2_92 : cs_ RX2 92 yX2_countFalseCry cX2_countFalseCry 1 none 1 := ⟨uw_in 333 rfl rfl, uw_in 334 rfl rfl, uw_in 8 rfl rfl, uw_in 335 rfl rfl, ⟨by decide, by decide, by decide +kernel⟩⟩
set_option maxRecDepth 20000 in
theorem kX2_95 : cs_ RX2 95 yX2_countFindOfSpot cX2_countFindOfSpot 3 none 2 := ⟨uw_in 342 rfl rfl, uw_in 343 rfl rfl, uw_in 8 rfl rfl, uw_in 344 rfl rfl, ⟨by decide, by decide, by decide +kernel⟩⟩
set_option maxRecDepth 20000 in
theorem kX2_99 : cs_ RX2 99 yX2_findPlayer cX2_findPlayer 3 none 3 := ⟨uw_in 345 rfl rfl, uw_in 346 rfl rfl, uw_in 8 rfl rfl, uw_in 347 rfl rfl, ⟨by decide, by decide, by decide +kernel⟩⟩
set_option maxRecDepth 20000 in
theorem kX4_22 : cs_ RX4 22 yX4_isAhead cX4_isAhead 3 (some .boolean) 3 := ⟨uw_in 400 rfl rfl, uw_in 401 rfl rfl, uw_in 12 rfl rfl, uw_in 402 rfl rfl, ⟨by decide, by decide, by decide +kernel⟩⟩
set_option maxRecDepth 20000 in
theorem kX4_28 : cs_ RX4 28 yX4_placeOf cX4_placeOf 4 (some .int) 2 := ⟨uw_in 410 rfl rfl, uw_in 398 rfl rfl, uw_in 12 rfl rfl, uw_in 399 rfl rfl, ⟨by decide, by decide, by decide +kernel⟩⟩
set_option maxRecDepth 20000 in
theorem kX4_32 : cv_ RX4 32 yX5_isPlayer cX5_isPlayer 2 (some .boolean) 1 := ⟨uw_in 475 rfl rfl, uw_in 220 rfl rfl, uw_in 221 rfl rfl, uw_in 3 rfl rfl, uw_in 222 rfl rfl, ⟨by decide, by decide, by decide +kernel⟩⟩
set_option maxRecDepth 20000 in
theorem kX4_36 : cs_ RX4 36 yX4_seeksSooner cX4_seeksSooner 3 (some .boolean) 3 := ⟨uw_in 476 rfl rfl, uw_in 477 rfl rfl, uw_in 12 rfl rfl, uw_in 478 rfl rfl, ⟨by decide, by decide, by decide +kernel⟩⟩
set_option maxRecDepth 20000 in
theorem kX5_100 : cv_ RX5 100 yX5_hiderCount cX5_hiderCount 2 (some .int) 1 := ⟨uw_in 257 rfl rfl, uw_in 258 rfl rfl, uw_in 259 rfl rfl, uw_in 3 rfl rfl, uw_in 260 rfl rfl, ⟨by decide, by decide, by decide +kernel⟩⟩
set_option maxRecDepth 20000 in
theorem kX5_103 : cv_ RX5 103 yX5_isHidingPlace cX5_isHidingPlace 2 (some .boolean) 1 := ⟨uw_in 230 rfl rfl, uw_in 231 rfl rfl, uw_in 232 rfl rfl, uw_in 3 rfl rfl, uw_in 233 rfl rfl, ⟨by decide, by decide, by decide +kernel⟩⟩
set_option maxRecDepth 20000 in
theorem kX5_106 : cv_ RX5 106 yX5_isFull cX5_isFull 2 (some .boolean) 1 := ⟨uw_in 253 rfl rfl, uw_in 254 rfl rfl, uw_in 255 rfl rfl, uw_in 3 rfl rfl, uw_in 256 rfl rfl, ⟨by decide, by decide, by decide +kernel⟩⟩
set_option maxRecDepth 20000 in
theorem kX5_109 : cs_ RX5 109 yX6_distance cX6_distance 2 (some .int) 2 := ⟨uw_in 330 rfl rfl, uw_in 331 rfl rfl, uw_in 9 rfl rfl, uw_in 332 rfl rfl, ⟨by decide, by decide, by decide +kernel⟩⟩
set_option maxRecDepth 20000 in
theorem kX5_75 : cv_ RX5 75 yX5_isPlayer cX5_isPlayer 2 (some .boolean) 1 := ⟨uw_in 283 rfl rfl, uw_in 220 rfl rfl, uw_in 221 rfl rfl, uw_in 3 rfl rfl, uw_in 222 rfl rfl, ⟨by decide, by decide, by decide +kernel⟩⟩
set_option maxRecDepth 20000 in
theorem kX5_79 : cv_ RX5 79 yX5_isHidden cX5_isHidden 2 (some .boolean) 1 := ⟨uw_in 298 rfl rfl, uw_in 280 rfl rfl, uw_in 281 rfl rfl, uw_in 3 rfl rfl, uw_in 282 rfl rfl, ⟨by decide, by decide, by decide +kernel⟩⟩
set_option maxRecDepth 20000 in
theorem kX5_82 : cv_ RX5 82 yX5_hidersAt cX5_hidersAt 4 (some .int) 1 := ⟨uw_in 261 rfl rfl, uw_in 262 rfl rfl, uw_in 263 rfl rfl, uw_in 3 rfl rfl, uw_in 264 rfl rfl, ⟨by decide, by decide, by decide +kernel⟩⟩
set_option maxRecDepth 20000 in
theorem kX5_86 : cs_ RX5 86 yJ6_bitCount_0f7a4 cJ6_bitCount_0f7a4 1 (some .int) 1 := ⟨uw_in 265 rfl rfl, uw_in 266 rfl rfl, uw_in 11 rfl rfl, uw_in 267 rfl rfl, ⟨by decide, by decide, by decide +kernel⟩⟩
set_option maxRecDepth 20000 in
theorem kX5_91 : cs_ RX5 91 yX6_isSpot cX6_isSpot 1 (some .boolean) 1 := ⟨uw_in 250 rfl rfl, uw_in 251 rfl rfl, uw_in 9 rfl rfl, uw_in 252 rfl rfl, ⟨by decide, by decide, by decide +kernel⟩⟩
set_option maxRecDepth 20000 in
theorem kX5_94 : cv_ RX5 94 yX5_isRetired cX5_isRetired 2 (some .boolean) 1 := ⟨uw_in 246 rfl rfl, uw_in 247 rfl rfl, uw_in 248 rfl rfl, uw_in 3 rfl rfl, uw_in 249 rfl rfl, ⟨by decide, by decide, by decide +kernel⟩⟩
set_option maxRecDepth 20000 in
theorem kX5_97 : cs_ RX5 97 yX6_fromBase cX6_fromBase 1 (some .int) 1 := ⟨uw_in 234 rfl rfl, uw_in 235 rfl rfl, uw_in 9 rfl rfl, uw_in 236 rfl rfl, ⟨by decide, by decide, by decide +kernel⟩⟩
set_option maxRecDepth 20000 in
theorem kX6_13 : cs_ RX6 13 yJ9_min_7cf53 cJ9_min_7cf53 2 (some .int) 2 := ⟨uw_in 243 rfl rfl, uw_in 244 rfl rfl, uw_in 10 rfl rfl, uw_in 245 rfl rfl, ⟨by decide, by decide, by decide +kernel⟩⟩
set_option maxRecDepth 20000 in
theorem kX6_18 : cs_ RX6 18 yJ9_floorMod_7cf53 cJ9_floorMod_7cf53 3 (some .int) 2 := ⟨uw_in 240 rfl rfl, uw_in 241 rfl rfl, uw_in 10 rfl rfl, uw_in 242 rfl rfl, ⟨by decide, by decide, by decide +kernel⟩⟩
set_option maxRecDepth 20000 in
theorem kX6_9 : cs_ RX6 9 yX6_stepsUp cX6_stepsUp 2 (some .int) 2 := ⟨uw_in 237 rfl rfl, uw_in 238 rfl rfl, uw_in 9 rfl rfl, uw_in 239 rfl rfl, ⟨by decide, by decide, by decide +kernel⟩⟩
