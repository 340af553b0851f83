theorem uw_ps {ws : List Cond} (ps : List Nat) (hp : ws.map some = ps.map (fun i => lw_tbl[i]?)) (hg : ws.all goodWord = true) : ∀ w ∈ ws, w ∈ uw_ := by
  intro w hw
  have h1 : some w ∈ ws.map some := List.mem_map.mpr ⟨w, hw, rfl⟩
  rw [hp] at h1
  obtain ⟨i, -, hi⟩ := List.mem_map.mp h1
  exact uw_in i hi (List.all_eq_true.mp hg w hw)
def o_x {α : Type} (i : Int32) (n : Nat) (x : Option α) : Option α := if (i < 0 ∨ n ≤ i.toNatClampNeg) then none else x
theorem o_xh {α : Type} {i : Int32} {n : Nat} {x : Option α} {r : α} (h : o_x i n x = some r) : vp_in i n ∧ x = some r := by
  unfold o_x at h
  by_cases hp : (i < 0 ∨ n ≤ i.toNatClampNeg)
  · rw [if_pos hp] at h; cases h
  · rw [if_neg hp] at h; exact ⟨hp, h⟩
theorem nb_ {v : Int32} (h : v = 0 ∨ v = 1) : narrow .boolean (.int v) = .int v := by
  rcases h with rfl | rfl <;> rfl
theorem me_ofI {l : Launch} {D : va_G} {tys : List (ClassId × FieldType)} {y : MethodName} {b : ByteArray} {n : Nat} {rt : FieldType} {f lo : Nat} {w w' : va_W} {av : List Value} {r : Int32} (hpl : plainFor y = true) (hfit : (lg_sl av).length ≤ n)
    (body : ∀ (p : Program) (e : Env) (s : State) (m : MethodId) (args : Array Value) (below : List Frame) (meth : Method) (c : Code) (A : Nat → Prop) (ls : Array Slot), CallFix p m c b n s args (wu_ y b n (some rt)) y.cls → va_K D vwCl tys s → dy_ D A s w s.heap [] → (∀ q, s.heap.size ≤ q → A q) → lv_has ls n (lv_args 0 av) → meth.sig.returnType = some rt → meth.locks = false → zs_ A s →
      W p l e (rm_ f lo) s m args below meth c s.heap [] 0 0 (MQ below (me_Qi D tys A r w') args s 0 0 A) (F0 m 0 ls [])) : me_I l D tys y b n rt f lo w av r w' := me_of (Qc := fun A => me_Qi D tys A r w') hpl hfit body
theorem me_ofV {l : Launch} {D : va_G} {tys : List (ClassId × FieldType)} {y : MethodName} {b : ByteArray} {n : Nat} {f lo : Nat} {w w' : va_W} {av : List Value} (hpl : plainFor y = true) (hfit : (lg_sl av).length ≤ n)
    (body : ∀ (p : Program) (e : Env) (s : State) (m : MethodId) (args : Array Value) (below : List Frame) (meth : Method) (c : Code) (A : Nat → Prop) (ls : Array Slot), CallFix p m c b n s args (wu_ y b n none) y.cls → va_K D vwCl tys s → dy_ D A s w s.heap [] → (∀ q, s.heap.size ≤ q → A q) → lv_has ls n (lv_args 0 av) → meth.sig.returnType = none → meth.locks = false → zs_ A s →
      W p l e (rm_ f lo) s m args below meth c s.heap [] 0 0 (MQ below (me_Qv D tys A w') args s 0 0 A) (F0 m 0 ls [])) : me_V l D tys y b n f lo w av w' := me_of (Qc := fun A => me_Qv D tys A w') hpl hfit body
def vS (h : Nat → Nat) (F : Nat → Int32) : List Value := [.ref (h 1), .ref (h 2), .ref (h 3), .ref (h 4), .ref (h 5), .ref (h 6), .ref (h 7), .ref (h 8), .ref (h 9), .int (F 0), .int (F 1), .int (F 2), .int (F 3), .int (F 4), .int (F 5), .int (F 6)]
def wS (cI : ClassId) (h : Nat → Nat) (σ : sg_T) : va_W := [(h 0, .inr (2, vS h (σ 0))), (h 1, .inl (cI, 4, .inl (σ 1))), (h 2, .inl (cI, 8, .inl (σ 2))), (h 3, .inl (cI, 8, .inl (σ 3))), (h 4, .inl (cI, 8, .inl (σ 4))), (h 5, .inl (cI, 8, .inl (σ 5))), (h 6, .inl (cI, 8, .inl (σ 6))), (h 7, .inl (cI, 8, .inl (σ 7))), (h 8, .inl (cI, 16, .inl (σ 8))), (h 9, .inl (cI, 16, .inl (σ 9)))]
def tS (cI : ClassId) : List (ClassId × FieldType) := [(cI, .int)]
theorem wS_f0 {cI : ClassId} (h : Nat → Nat) (σ : sg_T) (F : Nat → Int32) (x : Int32) : (wS cI h σ).set 0 (h 0, .inr (2, (vS h F).set 9 (.int x))) = wS cI h (sg_a σ 0 (sg_u F 0 x)) := rfl
theorem wS_f1 {cI : ClassId} (h : Nat → Nat) (σ : sg_T) (F : Nat → Int32) (x : Int32) : (wS cI h σ).set 0 (h 0, .inr (2, (vS h F).set 10 (.int x))) = wS cI h (sg_a σ 0 (sg_u F 1 x)) := rfl
theorem wS_f2 {cI : ClassId} (h : Nat → Nat) (σ : sg_T) (F : Nat → Int32) (x : Int32) : (wS cI h σ).set 0 (h 0, .inr (2, (vS h F).set 11 (.int x))) = wS cI h (sg_a σ 0 (sg_u F 2 x)) := rfl
theorem wS_f3 {cI : ClassId} (h : Nat → Nat) (σ : sg_T) (F : Nat → Int32) (x : Int32) : (wS cI h σ).set 0 (h 0, .inr (2, (vS h F).set 12 (.int x))) = wS cI h (sg_a σ 0 (sg_u F 3 x)) := rfl
theorem wS_f4 {cI : ClassId} (h : Nat → Nat) (σ : sg_T) (F : Nat → Int32) (x : Int32) : (wS cI h σ).set 0 (h 0, .inr (2, (vS h F).set 13 (.int x))) = wS cI h (sg_a σ 0 (sg_u F 4 x)) := rfl
theorem wS_f5 {cI : ClassId} (h : Nat → Nat) (σ : sg_T) (F : Nat → Int32) (x : Int32) : (wS cI h σ).set 0 (h 0, .inr (2, (vS h F).set 14 (.int x))) = wS cI h (sg_a σ 0 (sg_u F 5 x)) := rfl
theorem wS_f6 {cI : ClassId} (h : Nat → Nat) (σ : sg_T) (F : Nat → Int32) (x : Int32) : (wS cI h σ).set 0 (h 0, .inr (2, (vS h F).set 15 (.int x))) = wS cI h (sg_a σ 0 (sg_u F 6 x)) := rfl
theorem wS_a1 {cI : ClassId} (h : Nat → Nat) (σ : sg_T) (f : Nat → Int32) : (wS cI h σ).set 1 (h 1, .inl (cI, 4, .inl f)) = wS cI h (sg_a σ 1 f) := rfl
theorem wS_a2 {cI : ClassId} (h : Nat → Nat) (σ : sg_T) (f : Nat → Int32) : (wS cI h σ).set 2 (h 2, .inl (cI, 8, .inl f)) = wS cI h (sg_a σ 2 f) := rfl
theorem wS_a3 {cI : ClassId} (h : Nat → Nat) (σ : sg_T) (f : Nat → Int32) : (wS cI h σ).set 3 (h 3, .inl (cI, 8, .inl f)) = wS cI h (sg_a σ 3 f) := rfl
theorem wS_a4 {cI : ClassId} (h : Nat → Nat) (σ : sg_T) (f : Nat → Int32) : (wS cI h σ).set 4 (h 4, .inl (cI, 8, .inl f)) = wS cI h (sg_a σ 4 f) := rfl
theorem wS_a5 {cI : ClassId} (h : Nat → Nat) (σ : sg_T) (f : Nat → Int32) : (wS cI h σ).set 5 (h 5, .inl (cI, 8, .inl f)) = wS cI h (sg_a σ 5 f) := rfl
theorem wS_a6 {cI : ClassId} (h : Nat → Nat) (σ : sg_T) (f : Nat → Int32) : (wS cI h σ).set 6 (h 6, .inl (cI, 8, .inl f)) = wS cI h (sg_a σ 6 f) := rfl
theorem wS_a7 {cI : ClassId} (h : Nat → Nat) (σ : sg_T) (f : Nat → Int32) : (wS cI h σ).set 7 (h 7, .inl (cI, 8, .inl f)) = wS cI h (sg_a σ 7 f) := rfl
theorem wS_a8 {cI : ClassId} (h : Nat → Nat) (σ : sg_T) (f : Nat → Int32) : (wS cI h σ).set 8 (h 8, .inl (cI, 16, .inl f)) = wS cI h (sg_a σ 8 f) := rfl
theorem wS_a9 {cI : ClassId} (h : Nat → Nat) (σ : sg_T) (f : Nat → Int32) : (wS cI h σ).set 9 (h 9, .inl (cI, 16, .inl f)) = wS cI h (sg_a σ 9 f) := rfl
def vM (h : Nat → Nat) (F : Nat → Int32) : List Value := [.ref (h 1), .ref (h 2), .int (F 0), .ref (h 3), .int (F 1), .ref (h 4), .int (F 2), .ref (h 5), .int (F 3), .int (F 4), .int (F 5)]
def wM (cI cC : ClassId) (h : Nat → Nat) (σ : sg_T) : va_W := [(h 0, .inr (4, vM h (σ 0))), (h 1, .inl (cI, 108, .inl (σ 1))), (h 2, .inl (cI, 540, .inl (σ 2))), (h 3, .inl (cI, 108, .inl (σ 3))), (h 4, .inl (cC, 60, .inl (σ 4))), (h 5, .inl (cI, 93, .inl (σ 5)))]
def tM (cI cC : ClassId) : List (ClassId × FieldType) := [(cI, .int), (cC, .char)]
theorem wM_f0 {cI : ClassId} {cC : ClassId} (h : Nat → Nat) (σ : sg_T) (F : Nat → Int32) (x : Int32) : (wM cI cC h σ).set 0 (h 0, .inr (4, (vM h F).set 2 (.int x))) = wM cI cC h (sg_a σ 0 (sg_u F 0 x)) := rfl
theorem wM_f1 {cI : ClassId} {cC : ClassId} (h : Nat → Nat) (σ : sg_T) (F : Nat → Int32) (x : Int32) : (wM cI cC h σ).set 0 (h 0, .inr (4, (vM h F).set 4 (.int x))) = wM cI cC h (sg_a σ 0 (sg_u F 1 x)) := rfl
theorem wM_f2 {cI : ClassId} {cC : ClassId} (h : Nat → Nat) (σ : sg_T) (F : Nat → Int32) (x : Int32) : (wM cI cC h σ).set 0 (h 0, .inr (4, (vM h F).set 6 (.int x))) = wM cI cC h (sg_a σ 0 (sg_u F 2 x)) := rfl
theorem wM_f3 {cI : ClassId} {cC : ClassId} (h : Nat → Nat) (σ : sg_T) (F : Nat → Int32) (x : Int32) : (wM cI cC h σ).set 0 (h 0, .inr (4, (vM h F).set 8 (.int x))) = wM cI cC h (sg_a σ 0 (sg_u F 3 x)) := rfl
theorem wM_f4 {cI : ClassId} {cC : ClassId} (h : Nat → Nat) (σ : sg_T) (F : Nat → Int32) (x : Int32) : (wM cI cC h σ).set 0 (h 0, .inr (4, (vM h F).set 9 (.int x))) = wM cI cC h (sg_a σ 0 (sg_u F 4 x)) := rfl
theorem wM_f5 {cI : ClassId} {cC : ClassId} (h : Nat → Nat) (σ : sg_T) (F : Nat → Int32) (x : Int32) : (wM cI cC h σ).set 0 (h 0, .inr (4, (vM h F).set 10 (.int x))) = wM cI cC h (sg_a σ 0 (sg_u F 5 x)) := rfl
theorem wM_a1 {cI : ClassId} {cC : ClassId} (h : Nat → Nat) (σ : sg_T) (f : Nat → Int32) : (wM cI cC h σ).set 1 (h 1, .inl (cI, 108, .inl f)) = wM cI cC h (sg_a σ 1 f) := rfl
theorem wM_a2 {cI : ClassId} {cC : ClassId} (h : Nat → Nat) (σ : sg_T) (f : Nat → Int32) : (wM cI cC h σ).set 2 (h 2, .inl (cI, 540, .inl f)) = wM cI cC h (sg_a σ 2 f) := rfl
theorem wM_a3 {cI : ClassId} {cC : ClassId} (h : Nat → Nat) (σ : sg_T) (f : Nat → Int32) : (wM cI cC h σ).set 3 (h 3, .inl (cI, 108, .inl f)) = wM cI cC h (sg_a σ 3 f) := rfl
theorem wM_a4 {cI : ClassId} {cC : ClassId} (h : Nat → Nat) (σ : sg_T) (f : Nat → Int32) : (wM cI cC h σ).set 4 (h 4, .inl (cC, 60, .inl f)) = wM cI cC h (sg_a σ 4 f) := rfl
theorem wM_a5 {cI : ClassId} {cC : ClassId} (h : Nat → Nat) (σ : sg_T) (f : Nat → Int32) : (wM cI cC h σ).set 5 (h 5, .inl (cI, 93, .inl f)) = wM cI cC h (sg_a σ 5 f) := rfl
def vT (h : Nat → Nat) (F : Nat → Int32) : List Value := [.ref (h 1), .int (F 0)]
def wT (cI : ClassId) (h : Nat → Nat) (σ : sg_T) : va_W := [(h 0, .inr (0, vT h (σ 0))), (h 1, .inl (cI, 60, .inl (σ 1)))]
def tT (cI : ClassId) : List (ClassId × FieldType) := [(cI, .int)]
theorem wT_f0 {cI : ClassId} (h : Nat → Nat) (σ : sg_T) (F : Nat → Int32) (x : Int32) : (wT cI h σ).set 0 (h 0, .inr (0, (vT h F).set 1 (.int x))) = wT cI h (sg_a σ 0 (sg_u F 0 x)) := rfl
theorem wT_a1 {cI : ClassId} (h : Nat → Nat) (σ : sg_T) (f : Nat → Int32) : (wT cI h σ).set 1 (h 1, .inl (cI, 60, .inl f)) = wT cI h (sg_a σ 1 f) := rfl
set_option maxRecDepth 20000 in
theorem iuX5 : ∀ w ∈ u_ws RX5 TX5 16, w ∈ uw_ := uw_ps [123, 125, 127, 129, 131, 133, 135, 137, 139, 141, 143, 145, 147, 149, 151, 153] rfl rfl
theorem fpX5 : fp_ TX5 16 tyX5 := ⟨tyX5_ok, nmX5⟩
set_option maxRecDepth 20000 in
theorem iuX8 : ∀ w ∈ u_ws RX8 TX8 11, w ∈ uw_ := uw_ps [578, 580, 582, 584, 586, 588, 590, 592, 594, 596, 598] rfl rfl
theorem fpX8 : fp_ TX8 11 tyX8 := ⟨tyX8_ok, nmX8⟩
set_option maxRecDepth 20000 in
theorem iuX1 : ∀ w ∈ u_ws RX1 TX1 2, w ∈ uw_ := uw_ps [181, 183] rfl rfl
theorem fpX1 : fp_ TX1 2 tyX1 := ⟨tyX1_ok, nmX1⟩
set_option maxRecDepth 20000 in
theorem fX0_21 : fl_ RX0 21 RX5 TX5 16 2 9 := ⟨iuX5, rfl, Nat.le_of_ble_eq_true rfl, uw_in 101 rfl rfl, rfl⟩
set_option maxRecDepth 20000 in
theorem fX0_43 : fl_ RX0 43 RX5 TX5 16 2 7 := ⟨iuX5, rfl, Nat.le_of_ble_eq_true rfl, uw_in 93 rfl rfl, rfl⟩
set_option maxRecDepth 20000 in
theorem fX0_63 : fl_ RX0 63 RX5 TX5 16 2 6 := ⟨iuX5, rfl, Nat.le_of_ble_eq_true rfl, uw_in 90 rfl rfl, rfl⟩
set_option maxRecDepth 20000 in
theorem fX0_66 : fl_ RX0 66 RX5 TX5 16 2 14 := ⟨iuX5, rfl, Nat.le_of_ble_eq_true rfl, uw_in 118 rfl rfl, rfl⟩
set_option maxRecDepth 20000 in
theorem fX0_72 : fl_ RX0 72 RX5 TX5 16 2 0 := ⟨iuX5, rfl, Nat.le_of_ble_eq_true rfl, uw_in 69 rfl rfl, rfl⟩
set_option maxRecDepth 20000 in
theorem fX0_9 : fl_ RX0 9 RX5 TX5 16 2 11 := ⟨iuX5, rfl, Nat.le_of_ble_eq_true rfl, uw_in 107 rfl rfl, rfl⟩
set_option maxRecDepth 20000 in
theorem fX1_15 : fl_ RX1 15 RX1 TX1 2 0 1 := ⟨iuX1, rfl, Nat.le_of_ble_eq_true rfl, uw_in 180 rfl rfl, rfl⟩
set_option maxRecDepth 20000 in
theorem fX1_9 : fl_ RX1 9 RX1 TX1 2 0 0 := ⟨iuX1, rfl, Nat.le_of_ble_eq_true rfl, uw_in 179 rfl rfl, rfl⟩
set_option maxRecDepth 20000 in
theorem fX2_109 : fl_ RX2 109 RX5 TX5 16 2 1 := ⟨iuX5, rfl, Nat.le_of_ble_eq_true rfl, uw_in 72 rfl rfl, rfl⟩
set_option maxRecDepth 20000 in
theorem fX2_112 : fl_ RX2 112 RX5 TX5 16 2 3 := ⟨iuX5, rfl, Nat.le_of_ble_eq_true rfl, uw_in 79 rfl rfl, rfl⟩
set_option maxRecDepth 20000 in
theorem fX2_115 : fl_ RX2 115 RX5 TX5 16 2 7 := ⟨iuX5, rfl, Nat.le_of_ble_eq_true rfl, uw_in 94 rfl rfl, rfl⟩
set_option maxRecDepth 20000 in
theorem fX2_121 : fl_ RX2 121 RX5 TX5 16 2 8 := ⟨iuX5, rfl, Nat.le_of_ble_eq_true rfl, uw_in 97 rfl rfl, rfl⟩
set_option maxRecDepth 20000 in
theorem fX2_124 : fl_ RX2 124 RX5 TX5 16 2 15 := ⟨iuX5, rfl, Nat.le_of_ble_eq_true rfl, uw_in 121 rfl rfl, rfl⟩
set_option maxRecDepth 20000 in
theorem fX2_127 : fl_ RX2 127 RX5 TX5 16 2 4 := ⟨iuX5, rfl, Nat.le_of_ble_eq_true rfl, uw_in 84 rfl rfl, rfl⟩
set_option maxRecDepth 20000 in
theorem fX2_136 : fl_ RX2 136 RX5 TX5 16 2 5 := ⟨iuX5, rfl, Nat.le_of_ble_eq_true rfl, uw_in 87 rfl rfl, rfl⟩
set_option maxRecDepth 20000 in
theorem fX2_139 : fl_ RX2 139 RX5 TX5 16 2 10 := ⟨iuX5, rfl, Nat.le_of_ble_eq_true rfl, uw_in 105 rfl rfl, rfl⟩
set_option maxRecDepth 20000 in
theorem fX2_22 : fl_ RX2 22 RX5 TX5 16 2 0 := ⟨iuX5, rfl, Nat.le_of_ble_eq_true rfl, uw_in 67 rfl rfl, rfl⟩
set_option maxRecDepth 20000 in
theorem fX2_25 : fl_ RX2 25 RX5 TX5 16 2 11 := ⟨iuX5, rfl, Nat.le_of_ble_eq_true rfl, uw_in 108 rfl rfl, rfl⟩
set_option maxRecDepth 20000 in
theorem fX2_29 : fl_ RX2 29 RX5 TX5 16 2 9 := ⟨iuX5, rfl, Nat.le_of_ble_eq_true rfl, uw_in 100 rfl rfl, rfl⟩
set_option maxRecDepth 20000 in
theorem fX2_35 : fl_ RX2 35 RX5 TX5 16 2 12 := ⟨iuX5, rfl, Nat.le_of_ble_eq_true rfl, uw_in 111 rfl rfl, rfl⟩
set_option maxRecDepth 20000 in
theorem fX2_38 : fl_ RX2 38 RX5 TX5 16 2 13 := ⟨iuX5, rfl, Nat.le_of_ble_eq_true rfl, uw_in 114 rfl rfl, rfl⟩
set_option maxRecDepth 20000 in
theorem fX2_41 : fl_ RX2 41 RX5 TX5 16 2 2 := ⟨iuX5, rfl, Nat.le_of_ble_eq_true rfl, uw_in 75 rfl rfl, rfl⟩
set_option maxRecDepth 20000 in
theorem fX2_67 : fl_ RX2 67 RX5 TX5 16 2 6 := ⟨iuX5, rfl, Nat.le_of_ble_eq_true rfl, uw_in 89 rfl rfl, rfl⟩
set_option maxRecDepth 20000 in
theorem fX2_74 : fl_ RX2 74 RX5 TX5 16 2 14 := ⟨iuX5, rfl, Nat.le_of_ble_eq_true rfl, uw_in 117 rfl rfl, rfl⟩
set_option maxRecDepth 20000 in
theorem fX4_15 : fl_ RX4 15 RX5 TX5 16 2 4 := ⟨iuX5, rfl, Nat.le_of_ble_eq_true rfl, uw_in 82 rfl rfl, rfl⟩
set_option maxRecDepth 20000 in
theorem fX4_18 : fl_ RX4 18 RX5 TX5 16 2 9 := ⟨iuX5, rfl, Nat.le_of_ble_eq_true rfl, uw_in 99 rfl rfl, rfl⟩
set_option maxRecDepth 20000 in
theorem fX4_39 : fl_ RX4 39 RX5 TX5 16 2 2 := ⟨iuX5, rfl, Nat.le_of_ble_eq_true rfl, uw_in 76 rfl rfl, rfl⟩
set_option maxRecDepth 20000 in
theorem fX4_9 : fl_ RX4 9 RX5 TX5 16 2 1 := ⟨iuX5, rfl, Nat.le_of_ble_eq_true rfl, uw_in 71 rfl rfl, rfl⟩
set_option maxRecDepth 20000 in
theorem fX5_15 : fl_ RX5 15 RX5 TX5 16 2 1 := ⟨iuX5, rfl, Nat.le_of_ble_eq_true rfl, uw_in 70 rfl rfl, rfl⟩
set_option maxRecDepth 20000 in
theorem fX5_30 : fl_ RX5 30 RX5 TX5 16 2 6 := ⟨iuX5, rfl, Nat.le_of_ble_eq_true rfl, uw_in 88 rfl rfl, rfl⟩
set_option maxRecDepth 20000 in
theorem fX5_38 : fl_ RX5 38 RX5 TX5 16 2 8 := ⟨iuX5, rfl, Nat.le_of_ble_eq_true rfl, uw_in 96 rfl rfl, rfl⟩
set_option maxRecDepth 20000 in
theorem fX5_41 : fl_ RX5 41 RX5 TX5 16 2 9 := ⟨iuX5, rfl, Nat.le_of_ble_eq_true rfl, uw_in 98 rfl rfl, rfl⟩
set_option maxRecDepth 20000 in
theorem fX5_54 : fl_ RX5 54 RX5 TX5 16 2 13 := ⟨iuX5, rfl, Nat.le_of_ble_eq_true rfl, uw_in 113 rfl rfl, rfl⟩
set_option maxRecDepth 20000 in
theorem fX5_57 : fl_ RX5 57 RX5 TX5 16 2 14 := ⟨iuX5, rfl, Nat.le_of_ble_eq_true rfl, uw_in 116 rfl rfl, rfl⟩
set_option maxRecDepth 20000 in
theorem fX5_9 : fl_ RX5 9 RX5 TX5 16 2 0 := ⟨iuX5, rfl, Nat.le_of_ble_eq_true rfl, uw_in 66 rfl rfl, rfl⟩
set_option maxRecDepth 20000 in
theorem fX8_13 : fl_ RX8 13 RX8 TX8 11 4 1 := ⟨iuX8, rfl, Nat.le_of_ble_eq_true rfl, uw_in 568 rfl rfl, rfl⟩
set_option maxRecDepth 20000 in
theorem fX8_145 : fl_ RX8 145 RX8 TX8 11 4 6 := ⟨iuX8, rfl, Nat.le_of_ble_eq_true rfl, uw_in 573 rfl rfl, rfl⟩
set_option maxRecDepth 20000 in
theorem fX8_148 : fl_ RX8 148 RX8 TX8 11 4 9 := ⟨iuX8, rfl, Nat.le_of_ble_eq_true rfl, uw_in 576 rfl rfl, rfl⟩
set_option maxRecDepth 20000 in
theorem fX8_151 : fl_ RX8 151 RX8 TX8 11 4 10 := ⟨iuX8, rfl, Nat.le_of_ble_eq_true rfl, uw_in 577 rfl rfl, rfl⟩
set_option maxRecDepth 20000 in
theorem fX8_16 : fl_ RX8 16 RX8 TX8 11 4 3 := ⟨iuX8, rfl, Nat.le_of_ble_eq_true rfl, uw_in 570 rfl rfl, rfl⟩
set_option maxRecDepth 20000 in
theorem fX8_161 : fl_ RX8 161 RX8 TX8 11 4 8 := ⟨iuX8, rfl, Nat.le_of_ble_eq_true rfl, uw_in 575 rfl rfl, rfl⟩
set_option maxRecDepth 20000 in
theorem fX8_19 : fl_ RX8 19 RX8 TX8 11 4 5 := ⟨iuX8, rfl, Nat.le_of_ble_eq_true rfl, uw_in 572 rfl rfl, rfl⟩
set_option maxRecDepth 20000 in
theorem fX8_23 : fl_ RX8 23 RX8 TX8 11 4 7 := ⟨iuX8, rfl, Nat.le_of_ble_eq_true rfl, uw_in 574 rfl rfl, rfl⟩
set_option maxRecDepth 20000 in
theorem fX8_34 : fl_ RX8 34 RX8 TX8 11 4 2 := ⟨iuX8, rfl, Nat.le_of_ble_eq_true rfl, uw_in 569 rfl rfl, rfl⟩
set_option maxRecDepth 20000 in
theorem fX8_38 : fl_ RX8 38 RX8 TX8 11 4 4 := ⟨iuX8, rfl, Nat.le_of_ble_eq_true rfl, uw_in 571 rfl rfl, rfl⟩
set_option maxRecDepth 20000 in
theorem fX8_7 : fl_ RX8 7 RX8 TX8 11 4 0 := ⟨iuX8, rfl, Nat.le_of_ble_eq_true rfl, uw_in 567 rfl rfl, rfl⟩
set_option maxRecDepth 20000 in
theorem kX0_17 : cv_ RX0 17 yX5_seekerSees cX5_seekerSees 2 (some .boolean) 1 := ⟨uw_in 452 rfl rfl, uw_in 362 rfl rfl, uw_in 363 rfl rfl, uw_in 37 rfl rfl, uw_in 364 rfl rfl, ⟨by decide, by decide, by decide +kernel⟩⟩
set_option maxRecDepth 20000 in
theorem kX0_24 : cv_ RX0 24 yX5_wouldEscape cX5_wouldEscape 2 (some .boolean) 1 := ⟨uw_in 460 rfl rfl, uw_in 391 rfl rfl, uw_in 392 rfl rfl, uw_in 37 rfl rfl, uw_in 393 rfl rfl, ⟨by decide, by decide, by decide +kernel⟩⟩
set_option maxRecDepth 20000 in
theorem kX0_27 : cv_ RX0 27 yX5_hasRoomToHide cX5_hasRoomToHide 2 (some .boolean) 1 := ⟨uw_in 468 rfl rfl, uw_in 262 rfl rfl, uw_in 263 rfl rfl, uw_in 37 rfl rfl, uw_in 264 rfl rfl, ⟨by decide, by decide, by decide +kernel⟩⟩
set_option maxRecDepth 20000 in
theorem kX0_30 : cs_ RX0 30 yX6_isSpot cX6_isSpot 1 (some .boolean) 1 := ⟨uw_in 469 rfl rfl, uw_in 286 rfl rfl, uw_in 44 rfl rfl, uw_in 287 rfl rfl, ⟨by decide, by decide, by decide +kernel⟩⟩
set_option maxRecDepth 20000 in
theorem kX0_33 : cs_ RX0 33 yX0_isBetterToHide cX0_isBetterToHide 3 (some .boolean) 3 := ⟨uw_in 470 rfl rfl, uw_in 471 rfl rfl, uw_in 48 rfl rfl, uw_in 472 rfl rfl, ⟨by decide, by decide, by decide +kernel⟩⟩
set_option maxRecDepth 20000 in
theorem kX0_39 : cs_ RX0 39 yX6_fromBase cX6_fromBase 1 (some .int) 1 := ⟨uw_in 473 rfl rfl, uw_in 270 rfl rfl, uw_in 44 rfl rfl, uw_in 271 rfl rfl, ⟨by decide, by decide, by decide +kernel⟩⟩
set_option maxRecDepth 20000 in
theorem kX0_47 : cv_ RX0 47 yX5_hiderCount cX5_hiderCount 2 (some .int) 1 := ⟨uw_in 474 rfl rfl, uw_in 293 rfl rfl, uw_in 294 rfl rfl, uw_in 37 rfl rfl, uw_in 295 rfl rfl, ⟨by decide, by decide, by decide +kernel⟩⟩
set_option maxRecDepth 20000 in
theorem kX0_50 : cs_ RX0 50 yX0_stepsDownForTheRest cX0_stepsDownForTheRest 6 (some .int) 2 := ⟨uw_in 482 rfl rfl, uw_in 483 rfl rfl, uw_in 48 rfl rfl, uw_in 484 rfl rfl, ⟨by decide, by decide, by decide +kernel⟩⟩
set_option maxRecDepth 20000 in
theorem kX0_54 : cs_ RX0 54 yJ9_min_7cf53 cJ9_min_7cf53 2 (some .int) 2 := ⟨uw_in 490 rfl rfl, uw_in 279 rfl rfl, uw_in 45 rfl rfl, uw_in 280 rfl rfl, ⟨by decide, by decide, by decide +kernel⟩⟩
set_option maxRecDepth 20000 in
theorem kX0_60 : cv_ RX0 60 yX5_isHidden cX5_isHidden 2 (some .boolean) 1 := ⟨uw_in 485 rfl rfl, uw_in 315 rfl rfl, uw_in 316 rfl rfl, uw_in 37 rfl rfl, uw_in 317 rfl rfl, ⟨by decide, by decide, by decide +kernel⟩⟩
set_option maxRecDepth 20000 in
theorem kX0_69 : cs_ RX0 69 yX6_stepsUp cX6_stepsUp 2 (some .int) 2 := ⟨uw_in 486 rfl rfl, uw_in 273 rfl rfl, uw_in 44 rfl rfl, uw_in 274 rfl rfl, ⟨by decide, by decide, by decide +kernel⟩⟩
set_option maxRecDepth 20000 in
theorem kX0_75 : cs_ RX0 75 yJ9_max_7cf53 cJ9_max_7cf53 2 (some .int) 2 := ⟨uw_in 487 rfl rfl, uw_in 488 rfl rfl, uw_in 45 rfl rfl, uw_in 489 rfl rfl, ⟨by decide, by decide, by decide +kernel⟩⟩
set_option maxRecDepth 20000 in
theorem kX1_19 : cv_ RX1 19 yX1_signAt cX1_signAt 2 (some .int) 1 := ⟨uw_in 535 rfl rfl, uw_in 536 rfl rfl, uw_in 537 rfl rfl, uw_in 40 rfl rfl, uw_in 538 rfl rfl, ⟨by decide, by decide, by decide +kernel⟩⟩
set_option maxRecDepth 20000 in
theorem kX1_23 : cs_ RX1 23 yX1_expectedAfter cX1_expectedAfter 2 (some .int) 2 := ⟨uw_in 515 rfl rfl, uw_in 516 rfl rfl, uw_in 40 rfl rfl, uw_in 517 rfl rfl, ⟨by decide, by decide, by decide +kernel⟩⟩
set_option maxRecDepth 20000 in
theorem kX1_27 : cs_ RX1 27 yX1_expectedAfterLetter cX1_expectedAfterLetter 1 (some .int) 1 := ⟨uw_in 518 rfl rfl, uw_in 519 rfl rfl, uw_in 40 rfl rfl, uw_in 520 rfl rfl, ⟨by decide, by decide, by decide +kernel⟩⟩
set_option maxRecDepth 20000 in
theorem kX1_30 : cs_ RX1 30 yX1_isPlayerDigit cX1_isPlayerDigit 1 (some .boolean) 1 := ⟨uw_in 521 rfl rfl, uw_in 522 rfl rfl, uw_in 40 rfl rfl, uw_in 523 rfl rfl, ⟨by decide, by decide, by decide +kernel⟩⟩
set_option maxRecDepth 20000 in
theorem kX1_34 : cs_ RX1 34 yX1_isSpotLetter cX1_isSpotLetter 1 (some .boolean) 1 := ⟨uw_in 524 rfl rfl, uw_in 525 rfl rfl, uw_in 40 rfl rfl, uw_in 526 rfl rfl, ⟨by decide, by decide, by decide +kernel⟩⟩
set_option maxRecDepth 20000 in
theorem kX2_103 : cv_ RX2 103 yX5_wouldEscape cX5_wouldEscape 2 (some .boolean) 1 := ⟨uw_in 390 rfl rfl, uw_in 391 rfl rfl, uw_in 392 rfl rfl, uw_in 37 rfl rfl, uw_in 393 rfl rfl, ⟨by decide, by decide, by decide +kernel⟩⟩
set_option maxRecDepth 20000 in
theorem kX2_106 : cs_ RX2 106 yX2_escape cX2_escape 3 none 3 := ⟨uw_in 374 rfl rfl, uw_in 375 rfl rfl, uw_in 43 rfl rfl, uw_in 376 rfl rfl, ⟨by decide, by decide, by decide +kernel⟩⟩
set_option maxRecDepth 20000 in
theorem kX2_118 : cv_ RX2 118 yX5_isRetired cX5_isRetired 2 (some .boolean) 1 := ⟨uw_in 340 rfl rfl, uw_in 282 rfl rfl, uw_in 283 rfl rfl, uw_in 37 rfl rfl, uw_in 284 rfl rfl, ⟨by decide, by decide, by decide +kernel⟩⟩
set_option maxRecDepth 20000 in
theorem kX2_130 : cs_ RX2 130 yX2_letAllEscape cX2_letAllEscape 2 none 1 := ⟨uw_in 371 rfl rfl, uw_in 372 rfl rfl, uw_in 43 rfl rfl, uw_in 373 rfl rfl, ⟨by decide, by decide, by decide +kernel⟩⟩
set_option maxRecDepth 20000 in
theorem kX2_133 : cs_ RX2 133 yX2_endRound cX2_endRound 2 none 1 := ⟨uw_in 337 rfl rfl, uw_in 338 rfl rfl, uw_in 43 rfl rfl, uw_in 339 rfl rfl, ⟨by decide, by decide, by decide +kernel⟩⟩
set_option maxRecDepth 20000 in
theorem kX2_142 : cs_ RX2 142 yX2_restSpot cX2_restSpot 3 none 2 := ⟨uw_in 341 rfl rfl, uw_in 342 rfl rfl, uw_in 43 rfl rfl, uw_in 343 rfl rfl, ⟨by decide, by decide, by decide +kernel⟩⟩
set_option maxRecDepth 20000 in
theorem kX2_32 : cv_ RX2 32 yX5_isPlayer cX5_isPlayer 2 (some .boolean) 1 := ⟨uw_in 254 rfl rfl, uw_in 255 rfl rfl, uw_in 256 rfl rfl, uw_in 37 rfl rfl, uw_in 257 rfl rfl, ⟨by decide, by decide, by decide +kernel⟩⟩
set_option maxRecDepth 20000 in
theorem kX2_44 : cs_ RX2 44 yX2_countHidingSpots cX2_countHidingSpots 3 (some .int) 1 := ⟨uw_in 258 rfl rfl, uw_in 259 rfl rfl, uw_in 43 rfl rfl, uw_in 260 rfl rfl, ⟨by decide, by decide, by decide +kernel⟩⟩
set_option maxRecDepth 20000 in
theorem kX2_52 : cv_ RX2 52 yX5_hasRoomToHide cX5_hasRoomToHide 2 (some .boolean) 1 := ⟨uw_in 261 rfl rfl, uw_in 262 rfl rfl, uw_in 263 rfl rfl, uw_in 37 rfl rfl, uw_in 264 rfl rfl, ⟨by decide, by decide, by decide +kernel⟩⟩
set_option maxRecDepth 20000 in
theorem kX2_55 : cs_ RX2 55 yX6_isSpot cX6_isSpot 1 (some .boolean) 1 := ⟨uw_in 313 rfl rfl, uw_in 286 rfl rfl, uw_in 44 rfl rfl, uw_in 287 rfl rfl, ⟨by decide, by decide, by decide +kernel⟩⟩
set_option maxRecDepth 20000 in
theorem kX2_58 : cv_ RX2 58 yX5_isHidden cX5_isHidden 2 (some .boolean) 1 := ⟨uw_in 314 rfl rfl, uw_in 315 rfl rfl, uw_in 316 rfl rfl, uw_in 37 rfl rfl, uw_in 317 rfl rfl, ⟨by decide, by decide, by decide +kernel⟩⟩
set_option maxRecDepth 20000 in
theorem kX2_61 : cv_ RX2 61 yX5_isHidingPlace cX5_isHidingPlace 2 (some .boolean) 1 := ⟨uw_in 319 rfl rfl, uw_in 266 rfl rfl, uw_in 267 rfl rfl, uw_in 37 rfl rfl, uw_in 268 rfl rfl, ⟨by decide, by decide, by decide +kernel⟩⟩
set_option maxRecDepth 20000 in
theorem kX2_64 : cv_ RX2 64 yX5_isFull cX5_isFull 2 (some .boolean) 1 := ⟨uw_in 320 rfl rfl, uw_in 289 rfl rfl, uw_in 290 rfl rfl, uw_in 37 rfl rfl, uw_in 291 rfl rfl, ⟨by decide, by decide, by decide +kernel⟩⟩
set_option maxRecDepth 20000 in
theorem kX2_70 : cs_ RX2 70 yX6_fromBase cX6_fromBase 1 (some .int) 1 := ⟨uw_in 321 rfl rfl, uw_in 270 rfl rfl, uw_in 44 rfl rfl, uw_in 271 rfl rfl, ⟨by decide, by decide, by decide +kernel⟩⟩
set_option maxRecDepth 20000 in
theorem kX2_77 : cv_ RX2 77 yX5_hiddenCount cX5_hiddenCount 3 (some .int) 0 := ⟨uw_in 329 rfl rfl, uw_in 330 rfl rfl, uw_in 331 rfl rfl, uw_in 37 rfl rfl, uw_in 332 rfl rfl, ⟨by decide, by decide, by decide +kernel⟩⟩
set_option maxRecDepth 20000 in
theorem kX2_81 : cs_ RX2 81 yX2_endRoundIfNobodyIsHidden cX2_endRoundIfNobodyIsHidden 1 none 1 := ⟨uw_in 334 rfl rfl, uw_in 335 rfl rfl, uw_in 43 rfl rfl, uw_in 336 rfl rfl, ⟨by decide, by decide, by decide +kernel⟩⟩
set_option maxRecDepth 20000 in
theorem kX2_85 : cs_ RX2 85 yX6_beside cX6_beside 2 (some .int) 2 := ⟨uw_in 351 rfl rfl, uw_in 352 rfl rfl, uw_in 44 rfl rfl, uw_in 353 rfl rfl, ⟨by decide, by decide, by decide +kernel⟩⟩
set_option maxRecDepth 20000 in
theorem kX2_89 : cv_ RX2 89 yX5_seekerSees cX5_seekerSees 2 (some .boolean) 1 := ⟨uw_in 361 rfl rfl, uw_in 362 rfl rfl, uw_in 363 rfl rfl, uw_in 37 rfl rfl, uw_in 364 rfl rfl, ⟨by decide, by decide, by decide +kernel⟩⟩
set_option maxRecDepth 20000 in
theorem kX2_9 : cs_ RX2 9 yX5_isSetting cX5_isSetting 1 (some .boolean) 1 := ⟨uw_in 220 rfl rfl, uw_in 221 rfl rfl, uw_in 37 rfl rfl, uw_in 222 rfl rfl, ⟨by decide, by decide, by decide +kernel⟩⟩
set_option maxRecDepth 20000 in
theorem kX2_92 : cs_ RX2 92 yX2_countFalseCry cX2_countFalseCry 1 none 1 := ⟨uw_in 368 rfl rfl, uw_in 369 rfl rfl, uw_in 43 rfl rfl, uw_in 370 rfl rfl, ⟨by decide, by decide, by decide +kernel⟩⟩
set_option maxRecDepth 20000 in
theorem kX2_95 : cs_ RX2 95 yX2_countFindOfSpot cX2_countFindOfSpot 3 none 2 := ⟨uw_in 377 rfl rfl, uw_in 378 rfl rfl, uw_in 43 rfl rfl, uw_in 379 rfl rfl, ⟨by decide, by decide, by decide +kernel⟩⟩
set_option maxRecDepth 20000 in
theorem kX2_99 : cs_ RX2 99 yX2_findPlayer cX2_findPlayer 3 none 3 := ⟨uw_in 380 rfl rfl, uw_in 381 rfl rfl, uw_in 43 rfl rfl, uw_in 382 rfl rfl, ⟨by decide, by decide, by decide +kernel⟩⟩
set_option maxRecDepth 20000 in
theorem kX4_22 : cs_ RX4 22 yX4_isAhead cX4_isAhead 3 (some .boolean) 3 := ⟨uw_in 402 rfl rfl, uw_in 403 rfl rfl, uw_in 47 rfl rfl, uw_in 404 rfl rfl, ⟨by decide, by decide, by decide +kernel⟩⟩
set_option maxRecDepth 20000 in
theorem kX4_28 : cs_ RX4 28 yX4_placeOf cX4_placeOf 4 (some .int) 2 := ⟨uw_in 420 rfl rfl, uw_in 400 rfl rfl, uw_in 47 rfl rfl, uw_in 401 rfl rfl, ⟨by decide, by decide, by decide +kernel⟩⟩
set_option maxRecDepth 20000 in
theorem kX4_32 : cv_ RX4 32 yX5_isPlayer cX5_isPlayer 2 (some .boolean) 1 := ⟨uw_in 428 rfl rfl, uw_in 255 rfl rfl, uw_in 256 rfl rfl, uw_in 37 rfl rfl, uw_in 257 rfl rfl, ⟨by decide, by decide, by decide +kernel⟩⟩
set_option maxRecDepth 20000 in
theorem kX4_36 : cs_ RX4 36 yX4_seeksSooner cX4_seeksSooner 3 (some .boolean) 3 := ⟨uw_in 429 rfl rfl, uw_in 430 rfl rfl, uw_in 47 rfl rfl, uw_in 431 rfl rfl, ⟨by decide, by decide, by decide +kernel⟩⟩
set_option maxRecDepth 20000 in
theorem kX5_100 : cv_ RX5 100 yX5_hiderCount cX5_hiderCount 2 (some .int) 1 := ⟨uw_in 292 rfl rfl, uw_in 293 rfl rfl, uw_in 294 rfl rfl, uw_in 37 rfl rfl, uw_in 295 rfl rfl, ⟨by decide, by decide, by decide +kernel⟩⟩
set_option maxRecDepth 20000 in
theorem kX5_103 : cv_ RX5 103 yX5_isHidingPlace cX5_isHidingPlace 2 (some .boolean) 1 := ⟨uw_in 265 rfl rfl, uw_in 266 rfl rfl, uw_in 267 rfl rfl, uw_in 37 rfl rfl, uw_in 268 rfl rfl, ⟨by decide, by decide, by decide +kernel⟩⟩
set_option maxRecDepth 20000 in
theorem kX5_106 : cv_ RX5 106 yX5_isFull cX5_isFull 2 (some .boolean) 1 := ⟨uw_in 288 rfl rfl, uw_in 289 rfl rfl, uw_in 290 rfl rfl, uw_in 37 rfl rfl, uw_in 291 rfl rfl, ⟨by decide, by decide, by decide +kernel⟩⟩
set_option maxRecDepth 20000 in
theorem kX5_109 : cs_ RX5 109 yX6_distance cX6_distance 2 (some .int) 2 := ⟨uw_in 365 rfl rfl, uw_in 366 rfl rfl, uw_in 44 rfl rfl, uw_in 367 rfl rfl, ⟨by decide, by decide, by decide +kernel⟩⟩
set_option maxRecDepth 20000 in
theorem kX5_75 : cv_ RX5 75 yX5_isPlayer cX5_isPlayer 2 (some .boolean) 1 := ⟨uw_in 318 rfl rfl, uw_in 255 rfl rfl, uw_in 256 rfl rfl, uw_in 37 rfl rfl, uw_in 257 rfl rfl, ⟨by decide, by decide, by decide +kernel⟩⟩
set_option maxRecDepth 20000 in
theorem kX5_79 : cv_ RX5 79 yX5_isHidden cX5_isHidden 2 (some .boolean) 1 := ⟨uw_in 333 rfl rfl, uw_in 315 rfl rfl, uw_in 316 rfl rfl, uw_in 37 rfl rfl, uw_in 317 rfl rfl, ⟨by decide, by decide, by decide +kernel⟩⟩
set_option maxRecDepth 20000 in
theorem kX5_82 : cv_ RX5 82 yX5_hidersAt cX5_hidersAt 4 (some .int) 1 := ⟨uw_in 296 rfl rfl, uw_in 297 rfl rfl, uw_in 298 rfl rfl, uw_in 37 rfl rfl, uw_in 299 rfl rfl, ⟨by decide, by decide, by decide +kernel⟩⟩
set_option maxRecDepth 20000 in
theorem kX5_86 : cs_ RX5 86 yJ6_bitCount_0f7a4 cJ6_bitCount_0f7a4 1 (some .int) 1 := ⟨uw_in 300 rfl rfl, uw_in 301 rfl rfl, uw_in 46 rfl rfl, uw_in 302 rfl rfl, ⟨by decide, by decide, by decide +kernel⟩⟩
set_option maxRecDepth 20000 in
theorem kX5_91 : cs_ RX5 91 yX6_isSpot cX6_isSpot 1 (some .boolean) 1 := ⟨uw_in 285 rfl rfl, uw_in 286 rfl rfl, uw_in 44 rfl rfl, uw_in 287 rfl rfl, ⟨by decide, by decide, by decide +kernel⟩⟩
set_option maxRecDepth 20000 in
theorem kX5_94 : cv_ RX5 94 yX5_isRetired cX5_isRetired 2 (some .boolean) 1 := ⟨uw_in 281 rfl rfl, uw_in 282 rfl rfl, uw_in 283 rfl rfl, uw_in 37 rfl rfl, uw_in 284 rfl rfl, ⟨by decide, by decide, by decide +kernel⟩⟩
set_option maxRecDepth 20000 in
theorem kX5_97 : cs_ RX5 97 yX6_fromBase cX6_fromBase 1 (some .int) 1 := ⟨uw_in 269 rfl rfl, uw_in 270 rfl rfl, uw_in 44 rfl rfl, uw_in 271 rfl rfl, ⟨by decide, by decide, by decide +kernel⟩⟩
set_option maxRecDepth 20000 in
theorem kX6_13 : cs_ RX6 13 yJ9_min_7cf53 cJ9_min_7cf53 2 (some .int) 2 := ⟨uw_in 278 rfl rfl, uw_in 279 rfl rfl, uw_in 45 rfl rfl, uw_in 280 rfl rfl, ⟨by decide, by decide, by decide +kernel⟩⟩
set_option maxRecDepth 20000 in
theorem kX6_18 : cs_ RX6 18 yJ9_floorMod_7cf53 cJ9_floorMod_7cf53 3 (some .int) 2 := ⟨uw_in 275 rfl rfl, uw_in 276 rfl rfl, uw_in 45 rfl rfl, uw_in 277 rfl rfl, ⟨by decide, by decide, by decide +kernel⟩⟩
set_option maxRecDepth 20000 in
theorem kX6_9 : cs_ RX6 9 yX6_stepsUp cX6_stepsUp 2 (some .int) 2 := ⟨uw_in 272 rfl rfl, uw_in 273 rfl rfl, uw_in 44 rfl rfl, uw_in 274 rfl rfl, ⟨by decide, by decide, by decide +kernel⟩⟩
set_option maxRecDepth 20000 in
theorem kX8_102 : cv_ RX8 102 yX8_walks cX8_walks 2 (some .int) 1 := ⟨uw_in 717 rfl rfl, uw_in 719 rfl rfl, uw_in 17 rfl rfl, uw_in 41 rfl rfl, uw_in 720 rfl rfl, ⟨by decide, by decide, by decide +kernel⟩⟩
set_option maxRecDepth 20000 in
theorem kX8_105 : cv_ RX8 105 yX8_finds cX8_finds 2 none 1 := ⟨uw_in 733 rfl rfl, uw_in 735 rfl rfl, uw_in 20 rfl rfl, uw_in 41 rfl rfl, uw_in 736 rfl rfl, ⟨by decide, by decide, by decide +kernel⟩⟩
set_option maxRecDepth 20000 in
theorem kX8_109 : cv_ RX8 109 yX8_escapes cX8_escapes 3 none 2 := ⟨uw_in 737 rfl rfl, uw_in 739 rfl rfl, uw_in 21 rfl rfl, uw_in 41 rfl rfl, uw_in 740 rfl rfl, ⟨by decide, by decide, by decide +kernel⟩⟩
set_option maxRecDepth 20000 in
theorem kX8_112 : cv_ RX8 112 yX8_whyNotCry cX8_whyNotCry 3 (some .int) 2 := ⟨uw_in 725 rfl rfl, uw_in 727 rfl rfl, uw_in 18 rfl rfl, uw_in 41 rfl rfl, uw_in 728 rfl rfl, ⟨by decide, by decide, by decide +kernel⟩⟩
set_option maxRecDepth 20000 in
theorem kX8_115 : cv_ RX8 115 yX8_cries cX8_cries 5 (some .int) 2 := ⟨uw_in 729 rfl rfl, uw_in 731 rfl rfl, uw_in 19 rfl rfl, uw_in 41 rfl rfl, uw_in 732 rfl rfl, ⟨by decide, by decide, by decide +kernel⟩⟩
set_option maxRecDepth 20000 in
theorem kX8_118 : cv_ RX8 118 yX8_isFaster cX8_isFaster 2 (some .boolean) 1 := ⟨uw_in 753 rfl rfl, uw_in 755 rfl rfl, uw_in 24 rfl rfl, uw_in 41 rfl rfl, uw_in 756 rfl rfl, ⟨by decide, by decide, by decide +kernel⟩⟩
set_option maxRecDepth 20000 in
theorem kX8_121 : cv_ RX8 121 yX8_whyNotDash cX8_whyNotDash 2 (some .int) 1 := ⟨uw_in 745 rfl rfl, uw_in 747 rfl rfl, uw_in 22 rfl rfl, uw_in 41 rfl rfl, uw_in 748 rfl rfl, ⟨by decide, by decide, by decide +kernel⟩⟩
set_option maxRecDepth 20000 in
theorem kX8_124 : cv_ RX8 124 yX8_dashes cX8_dashes 3 (some .int) 1 := ⟨uw_in 749 rfl rfl, uw_in 751 rfl rfl, uw_in 23 rfl rfl, uw_in 41 rfl rfl, uw_in 752 rfl rfl, ⟨by decide, by decide, by decide +kernel⟩⟩
set_option maxRecDepth 20000 in
theorem kX8_127 : cv_ RX8 127 yX8_isBefore cX8_isBefore 3 (some .boolean) 2 := ⟨uw_in 765 rfl rfl, uw_in 767 rfl rfl, uw_in 26 rfl rfl, uw_in 41 rfl rfl, uw_in 768 rfl rfl, ⟨by decide, by decide, by decide +kernel⟩⟩
set_option maxRecDepth 20000 in
theorem kX8_130 : cv_ RX8 130 yX8_placeOf cX8_placeOf 4 (some .int) 1 := ⟨uw_in 761 rfl rfl, uw_in 763 rfl rfl, uw_in 25 rfl rfl, uw_in 41 rfl rfl, uw_in 764 rfl rfl, ⟨by decide, by decide, by decide +kernel⟩⟩
set_option maxRecDepth 20000 in
theorem kX8_133 : cv_ RX8 133 yX8_retired cX8_retired 3 (some .int) 0 := ⟨uw_in 785 rfl rfl, uw_in 787 rfl rfl, uw_in 27 rfl rfl, uw_in 41 rfl rfl, uw_in 788 rfl rfl, ⟨by decide, by decide, by decide +kernel⟩⟩
set_option maxRecDepth 20000 in
theorem kX8_136 : cv_ RX8 136 yX8_sumOfPoints cX8_sumOfPoints 3 (some .int) 0 := ⟨uw_in 789 rfl rfl, uw_in 791 rfl rfl, uw_in 28 rfl rfl, uw_in 41 rfl rfl, uw_in 792 rfl rfl, ⟨by decide, by decide, by decide +kernel⟩⟩
set_option maxRecDepth 20000 in
theorem kX8_139 : cv_ RX8 139 yX8_isBetter cX8_isBetter 3 (some .boolean) 2 := ⟨uw_in 805 rfl rfl, uw_in 807 rfl rfl, uw_in 29 rfl rfl, uw_in 41 rfl rfl, uw_in 808 rfl rfl, ⟨by decide, by decide, by decide +kernel⟩⟩
set_option maxRecDepth 20000 in
theorem kX8_142 : cv_ RX8 142 yX8_seesAll cX8_seesAll 7 (some .boolean) 2 := ⟨uw_in 813 rfl rfl, uw_in 815 rfl rfl, uw_in 30 rfl rfl, uw_in 41 rfl rfl, uw_in 816 rfl rfl, ⟨by decide, by decide, by decide +kernel⟩⟩
set_option maxRecDepth 20000 in
theorem kX8_154 : cv_ RX8 154 yX8_letter cX8_letter 1 (some .int) 0 := ⟨uw_in 833 rfl rfl, uw_in 835 rfl rfl, uw_in 32 rfl rfl, uw_in 41 rfl rfl, uw_in 836 rfl rfl, ⟨by decide, by decide, by decide +kernel⟩⟩
set_option maxRecDepth 20000 in
theorem kX8_157 : cv_ RX8 157 yX8_wants cX8_wants 2 none 1 := ⟨uw_in 837 rfl rfl, uw_in 839 rfl rfl, uw_in 33 rfl rfl, uw_in 41 rfl rfl, uw_in 840 rfl rfl, ⟨by decide, by decide, by decide +kernel⟩⟩
set_option maxRecDepth 20000 in
theorem kX8_164 : cv_ RX8 164 yX8_readMove cX8_readMove 3 none 0 := ⟨uw_in 829 rfl rfl, uw_in 831 rfl rfl, uw_in 31 rfl rfl, uw_in 41 rfl rfl, uw_in 832 rfl rfl, ⟨by decide, by decide, by decide +kernel⟩⟩
set_option maxRecDepth 20000 in
theorem kX8_167 : cv_ RX8 167 yX8_errorPosition cX8_errorPosition 2 (some .int) 0 := ⟨uw_in 845 rfl rfl, uw_in 826 rfl rfl, uw_in 827 rfl rfl, uw_in 41 rfl rfl, uw_in 828 rfl rfl, ⟨by decide, by decide, by decide +kernel⟩⟩
set_option maxRecDepth 20000 in
theorem kX8_170 : cv_ RX8 170 yX8_makeOne cX8_makeOne 5 (some .int) 1 := ⟨uw_in 846 rfl rfl, uw_in 848 rfl rfl, uw_in 34 rfl rfl, uw_in 41 rfl rfl, uw_in 849 rfl rfl, ⟨by decide, by decide, by decide +kernel⟩⟩
set_option maxRecDepth 20000 in
theorem kX8_26 : cs_ RX8 26 yX8_in cX8_in 3 (some .boolean) 3 := ⟨uw_in 625 rfl rfl, uw_in 626 rfl rfl, uw_in 41 rfl rfl, uw_in 627 rfl rfl, ⟨by decide, by decide, by decide +kernel⟩⟩
set_option maxRecDepth 20000 in
theorem kX8_30 : cv_ RX8 30 yX8_ofSpot cX8_ofSpot 3 (some .int) 2 := ⟨uw_in 667 rfl rfl, uw_in 669 rfl rfl, uw_in 9 rfl rfl, uw_in 41 rfl rfl, uw_in 670 rfl rfl, ⟨by decide, by decide, by decide +kernel⟩⟩
set_option maxRecDepth 20000 in
theorem kX8_42 : cv_ RX8 42 yX8_record cX8_record 2 none 0 := ⟨uw_in 614 rfl rfl, uw_in 616 rfl rfl, uw_in 2 rfl rfl, uw_in 41 rfl rfl, uw_in 617 rfl rfl, ⟨by decide, by decide, by decide +kernel⟩⟩
set_option maxRecDepth 20000 in
theorem kX8_45 : cs_ RX8 45 yX8_isInRange cX8_isInRange 2 (some .boolean) 2 := ⟨uw_in 622 rfl rfl, uw_in 623 rfl rfl, uw_in 41 rfl rfl, uw_in 624 rfl rfl, ⟨by decide, by decide, by decide +kernel⟩⟩
set_option maxRecDepth 20000 in
theorem kX8_49 : cv_ RX8 49 yX8_hides cX8_hides 3 none 2 := ⟨uw_in 636 rfl rfl, uw_in 638 rfl rfl, uw_in 3 rfl rfl, uw_in 41 rfl rfl, uw_in 639 rfl rfl, ⟨by decide, by decide, by decide +kernel⟩⟩
set_option maxRecDepth 20000 in
theorem kX8_53 : cv_ RX8 53 yX8_of cX8_of 3 (some .int) 2 := ⟨uw_in 675 rfl rfl, uw_in 677 rfl rfl, uw_in 11 rfl rfl, uw_in 41 rfl rfl, uw_in 678 rfl rfl, ⟨by decide, by decide, by decide +kernel⟩⟩
set_option maxRecDepth 20000 in
theorem kX8_56 : cs_ RX8 56 yX8_distance cX8_distance 3 (some .int) 2 := ⟨uw_in 660 rfl rfl, uw_in 661 rfl rfl, uw_in 41 rfl rfl, uw_in 662 rfl rfl, ⟨by decide, by decide, by decide +kernel⟩⟩
set_option maxRecDepth 20000 in
theorem kX8_59 : cv_ RX8 59 yX8_isRetired cX8_isRetired 2 (some .boolean) 1 := ⟨uw_in 663 rfl rfl, uw_in 665 rfl rfl, uw_in 8 rfl rfl, uw_in 41 rfl rfl, uw_in 666 rfl rfl, ⟨by decide, by decide, by decide +kernel⟩⟩
set_option maxRecDepth 20000 in
theorem kX8_63 : cv_ RX8 63 yX8_isGood cX8_isGood 2 (some .boolean) 1 := ⟨uw_in 656 rfl rfl, uw_in 658 rfl rfl, uw_in 7 rfl rfl, uw_in 41 rfl rfl, uw_in 659 rfl rfl, ⟨by decide, by decide, by decide +kernel⟩⟩
set_option maxRecDepth 20000 in
theorem kX8_66 : cv_ RX8 66 yX8_hidersAt cX8_hidersAt 4 (some .int) 1 := ⟨uw_in 671 rfl rfl, uw_in 673 rfl rfl, uw_in 10 rfl rfl, uw_in 41 rfl rfl, uw_in 674 rfl rfl, ⟨by decide, by decide, by decide +kernel⟩⟩
set_option maxRecDepth 20000 in
theorem kX8_70 : cs_ RX8 70 yX8_bits cX8_bits 3 (some .int) 1 := ⟨uw_in 679 rfl rfl, uw_in 680 rfl rfl, uw_in 41 rfl rfl, uw_in 681 rfl rfl, ⟨by decide, by decide, by decide +kernel⟩⟩
set_option maxRecDepth 20000 in
theorem kX8_73 : cv_ RX8 73 yX8_isPlayer cX8_isPlayer 2 (some .boolean) 1 := ⟨uw_in 644 rfl rfl, uw_in 646 rfl rfl, uw_in 4 rfl rfl, uw_in 41 rfl rfl, uw_in 647 rfl rfl, ⟨by decide, by decide, by decide +kernel⟩⟩
set_option maxRecDepth 20000 in
theorem kX8_76 : cv_ RX8 76 yX8_adds cX8_adds 4 none 3 := ⟨uw_in 648 rfl rfl, uw_in 650 rfl rfl, uw_in 5 rfl rfl, uw_in 41 rfl rfl, uw_in 651 rfl rfl, ⟨by decide, by decide, by decide +kernel⟩⟩
set_option maxRecDepth 20000 in
theorem kX8_80 : cv_ RX8 80 yX8_isOpen cX8_isOpen 2 (some .boolean) 1 := ⟨uw_in 652 rfl rfl, uw_in 654 rfl rfl, uw_in 6 rfl rfl, uw_in 41 rfl rfl, uw_in 655 rfl rfl, ⟨by decide, by decide, by decide +kernel⟩⟩
set_option maxRecDepth 20000 in
theorem kX8_83 : cs_ RX8 83 yX8_isSpot cX8_isSpot 1 (some .boolean) 1 := ⟨uw_in 690 rfl rfl, uw_in 691 rfl rfl, uw_in 41 rfl rfl, uw_in 692 rfl rfl, ⟨by decide, by decide, by decide +kernel⟩⟩
set_option maxRecDepth 20000 in
theorem kX8_86 : cv_ RX8 86 yX8_whyNotHide cX8_whyNotHide 3 (some .int) 2 := ⟨uw_in 686 rfl rfl, uw_in 688 rfl rfl, uw_in 12 rfl rfl, uw_in 41 rfl rfl, uw_in 689 rfl rfl, ⟨by decide, by decide, by decide +kernel⟩⟩
set_option maxRecDepth 20000 in
theorem kX8_89 : cv_ RX8 89 yX8_hidden cX8_hidden 3 (some .int) 0 := ⟨uw_in 701 rfl rfl, uw_in 703 rfl rfl, uw_in 14 rfl rfl, uw_in 41 rfl rfl, uw_in 704 rfl rfl, ⟨by decide, by decide, by decide +kernel⟩⟩
set_option maxRecDepth 20000 in
theorem kX8_93 : cv_ RX8 93 yX8_ends cX8_ends 2 none 0 := ⟨uw_in 709 rfl rfl, uw_in 711 rfl rfl, uw_in 16 rfl rfl, uw_in 41 rfl rfl, uw_in 712 rfl rfl, ⟨by decide, by decide, by decide +kernel⟩⟩
set_option maxRecDepth 20000 in
theorem kX8_96 : cv_ RX8 96 yX8_endsIfEmpty cX8_endsIfEmpty 1 none 0 := ⟨uw_in 705 rfl rfl, uw_in 707 rfl rfl, uw_in 15 rfl rfl, uw_in 41 rfl rfl, uw_in 708 rfl rfl, ⟨by decide, by decide, by decide +kernel⟩⟩
set_option maxRecDepth 20000 in
theorem kX8_99 : cv_ RX8 99 yX8_seeks cX8_seeks 2 (some .int) 0 := ⟨uw_in 697 rfl rfl, uw_in 699 rfl rfl, uw_in 13 rfl rfl, uw_in 41 rfl rfl, uw_in 700 rfl rfl, ⟨by decide, by decide, by decide +kernel⟩⟩
