/-! the words: one list for all methods -/
def uw_ : List Cond := lw_tbl.filter goodWord
theorem uw_in {w : Cond} (i : Nat) (h : lw_tbl[i]? = some w) (hg : goodWord w = true) : w ∈ uw_ := List.mem_filter.mpr ⟨List.mem_of_getElem? h, hg⟩
theorem uw_good {w : Cond} (h : w ∈ uw_) : (w.onTables && w.keeps) = true ∨ ∃ ty, w = .arrayClass ty := good_of_word (List.mem_filter.mp h).2
theorem uw_gi {c0 c1 : Cond} (h : c1 ∈ uw_) : GoodIn (c0 :: uw_) (c1 :: uw_) := fun w hw => by
  rcases List.mem_cons.mp hw with rfl | hw
  · exact ⟨List.mem_cons_of_mem _ h, uw_good h⟩
  · exact ⟨List.mem_cons_of_mem _ hw, uw_good hw⟩
/-! the world's state as a function, and its changes -/
abbrev sg_T : Type := Nat → Nat → Int32
def sg_a (σ : sg_T) (j : Nat) (f : Nat → Int32) : sg_T := fun j' => cond (Nat.beq j' j) f (σ j')
def sg_u (f : Nat → Int32) (k : Nat) (v : Int32) : Nat → Int32 := fun k' => cond (Nat.beq k' k) v (f k')
/-! answers that may be wanting -/
def o_k {α : Type} (P : Prop) [Decidable P] (x : Option α) : Option α := if P then x else none
/-! facts of a field link, of a call -/
def fl_ (own : String) (idx : Nat) (C : String) (T : u_T) (N ci k : Nat) : Prop := (∀ w ∈ u_ws C T N, w ∈ uw_) ∧ vwCl[ci]? = some (C, T, N) ∧ k < N ∧ Cond.fieldLink own idx C (T k).2.1 (T k).2.2.1 ∈ uw_ ∧ (T k).1 = C
def fp_ (T : u_T) (N : Nat) (ty0 : Nat → FieldType) : Prop := (∀ k, k < N → parseFieldDescriptor (T k).2.2.1 = some (ty0 k)) ∧ (∀ a, a < N → ∀ b, b < N → a ≠ b → (T a).2.1 ≠ (T b).2.1)
def yd_ (y : MethodName) (k : Nat) : Prop := y.cls ≠ "java/lang/invoke/MethodHandle" ∧ y.cls ≠ "java/lang/invoke/VarHandle" ∧ (parseMethodDescriptor y.desc).map (fun d => d.parameters.length) = some k
def cs_ (own : String) (idx : Nat) (y : MethodName) (b : ByteArray) (n : Nat) (rt : Option FieldType) (k : Nat) : Prop := Cond.methodLink own idx y ∈ uw_ ∧ Cond.static y ∈ uw_ ∧ Cond.initialized y.cls ∈ uw_ ∧ Cond.code y b n rt ∈ uw_ ∧ yd_ y k
def cv_ (own : String) (idx : Nat) (y : MethodName) (b : ByteArray) (n : Nat) (rt : Option FieldType) (k : Nat) : Prop := Cond.methodLink own idx y ∈ uw_ ∧ Cond.instanceMethod y ∈ uw_ ∧ Cond.selects y.cls y y ∈ uw_ ∧ Cond.initialized y.cls ∈ uw_ ∧ Cond.code y b n rt ∈ uw_ ∧ yd_ y k
/-! the world in a walk -/
def dy_ (D : va_G) (A : Nat → Prop) (s : State) (ws : va_W) (H : Heap) (locs : List Loc) : Prop := va_P D vwCl ws H ∧ va_D A ws ∧ va_S A s.heap H locs
/-! the statics that nobody writes -/
def zs_f (b : Nat) : Nat → Int32 := fun j => if b = 0 then (match j with | 0 => 0 | 1 => 1 | 2 => 0 | _ => 1) else (match j with | 0 => 3 | _ => 9)
def zs_ (A : Nat → Prop) (U : State) : Prop := va_AO RX5 U ∧ va_Nw (.fieldLinkNest RX2 15 "SeekLeague" "LOWEST_SETTING" "[I" "SeekLeague") U ∧ va_Nw (.fieldLinkNest RX2 19 "SeekLeague" "HIGHEST_SETTING" "[I" "SeekLeague") U ∧ ∃ t0 t1 : Nat, va_Z "SeekLeague" "LOWEST_SETTING" "[I" (.ref t0) A U U.heap ∧ va_T .int t0 4 (fun j => .int (zs_f 0 j)) A U U.heap ∧ va_Z "SeekLeague" "HIGHEST_SETTING" "[I" (.ref t1) A U U.heap ∧ va_T .int t1 4 (fun j => .int (zs_f 1 j)) A U U.heap
theorem zs_mv {A B : Nat → Prop} {s U : State} {H : Heap} {locs : List Loc} (h : zs_ A s) (hW : s.WarmedH U.vm) (hU : U.heap = H) (hS : va_S A s.heap H locs) (hB : ∀ q, B q → A q) : zs_ B U := by
  obtain ⟨h0, h1, h2, t0, t1, h3, h4, h5, h6⟩ := h
  have hq : ∀ a : Nat, a < s.heap.size → ¬ A a → U.heap[a]? = s.heap[a]? := fun a h1 h2 => by rw [hU]; exact hS.2.1 a h1 h2
  exact ⟨h0.moved hW.alike, va_Nw.warmF hW h1, va_Nw.warmF hW h2, t0, t1, ((h3.kept hq).narrow hB).moved hW.alike, ((h4.kept hq).narrow hB).moved hW.alike, ((h5.kept hq).narrow hB).moved hW.alike, ((h6.kept hq).narrow hB).moved hW.alike⟩
theorem zs_bl {A : Nat → Prop} {U : State} {g : JFrame} {mk : MethodId} {a : Array Value} (h : zs_ A U) : zs_ A (U.calling g mk a) := by
  obtain ⟨h0, h1, h2, t0, t1, h3, h4, h5, h6⟩ := h
  exact ⟨va_AO.moved (u := U) (U := U.calling g mk a) (Vm.Alike.refl U.vm) h0, va_Nw.same (u := U) rfl rfl h1, va_Nw.same (u := U) rfl rfl h2, t0, t1, va_Z.moved (u := U) (U := U.calling g mk a) (Vm.Alike.refl U.vm) h3, va_T.moved (u := U) (U := U.calling g mk a) (Vm.Alike.refl U.vm) h4, va_Z.moved (u := U) (U := U.calling g mk a) (Vm.Alike.refl U.vm) h5, va_T.moved (u := U) (U := U.calling g mk a) (Vm.Alike.refl U.vm) h6⟩
/-! contracts -/
def me_P (D : va_G) (tys : List (ClassId × FieldType)) (w : va_W) (sz : Nat) (av : List Value) : Array Value → State → Prop := va_Pc av (fun U => U.heap.size = sz ∧ va_P D vwCl w U.heap ∧ va_K D vwCl tys U ∧ va_D (fun _ => True) w ∧ zs_ (va_A w sz) U)
def me_Qi (D : va_G) (tys : List (ClassId × FieldType)) (A : Nat → Prop) (r : Int32) (w' : va_W) : Array Value → State → Outcome → State → Prop := va_Qi (fun r' (_ : Unit) => r' = r) (fun _ t => va_P D vwCl w' t.heap ∧ va_K D vwCl tys t ∧ va_D A w') A
def me_Qv (D : va_G) (tys : List (ClassId × FieldType)) (A : Nat → Prop) (w' : va_W) : Array Value → State → Outcome → State → Prop := va_Qv (fun (_ : Unit) => True) (fun _ t => va_P D vwCl w' t.heap ∧ va_K D vwCl tys t ∧ va_D A w') A
def rm_ (f lo : Nat) : Room := { frames := f, cells := 0, slots := 0, locals := lo }
abbrev wu_ (y : MethodName) (b : ByteArray) (n : Nat) (rt : Option FieldType) : List Cond := .code y b n rt :: uw_
def me_I (l : Launch) (D : va_G) (tys : List (ClassId × FieldType)) (y : MethodName) (b : ByteArray) (n : Nat) (rt : FieldType) (f lo : Nat) (w : va_W) (av : List Value) (r : Int32) (w' : va_W) : Prop :=
  ∀ sz, Met l y (wu_ y b n (some rt)) (rm_ f lo) (me_P D tys w sz av) (me_Qi D tys (va_A w sz) r w') 0 0 (va_A w sz)
def me_V (l : Launch) (D : va_G) (tys : List (ClassId × FieldType)) (y : MethodName) (b : ByteArray) (n : Nat) (f lo : Nat) (w : va_W) (av : List Value) (w' : va_W) : Prop :=
  ∀ sz, Met l y (wu_ y b n none) (rm_ f lo) (me_P D tys w sz av) (me_Qv D tys (va_A w sz) w') 0 0 (va_A w sz)
theorem me_bl (D : va_G) (tys : List (ClassId × FieldType)) (w : va_W) (sz : Nat) (av : List Value) : FrameBlind (me_P D tys w sz av) := fun a U g mk q => by
  obtain ⟨q0, q1, qP, qK, qD, qZ⟩ := q
  exact ⟨q0, q1, qP, va_K.moved (u := U) (U := U.calling g mk a) (Vm.Alike.refl U.vm) qK, qD, zs_bl qZ⟩
theorem met_F {l : Launch} {y : MethodName} {ws ws' : List Cond} {rm : Room} {Pc : Array Value → State → Prop} {Qc : Array Value → State → Outcome → State → Prop} {mc ms : Nat} {free : Addr → Prop} {cc : ByteArray} {maxL : Nat} {ret : Option FieldType}
    (hy : plainFor y = true) (hw : ws = Cond.code y cc maxL ret :: ws')
    (body : ∀ p e s m args below meth c s₁, BodyLoose p l y (headSpec ws rm) cc maxL ret e s m args below meth c s₁ → c.maxLocals = maxL → Pc args s →
      W p l e (headSpec ws rm).room s m args below meth c s.heap [] 0 0 (MQ below Qc args s mc ms free) (entryFrame m args maxL)) : Met l y ws rm Pc Qc mc ms free := by
  refine MetFree.of_bodySF (code := cc) (maxLocals := maxL) (ret := ret) hy ?_ ?_
  · intro args s m h hn
    obtain ⟨meth, c, h1, h2, h3, h4, h5, h6, -, -⟩ := Cond.code_spec hn (atoms_spec (ws := ws) h _ (by rw [hw]; exact List.mem_cons_self))
    exact ⟨meth, c, h1, h2, h3, h4, h5, h6⟩
  · intro p e s m args below meth c s₁ B hml hP _
    have hh0 : s₁.heap = s.heap := by rw [B.state]; rfl
    obtain ⟨t, a1, o, b1, b2, b3⟩ := body p e s m args below meth c s₁ B hml hP s₁ hh0 (Stand.of_body B)
    exact ⟨t, o, a1, b1, b2, ⟨b3.1, b3.2⟩⟩
theorem me_of {l : Launch} {D : va_G} {tys : List (ClassId × FieldType)} {y : MethodName} {b : ByteArray} {n : Nat} {rt : Option FieldType} {f lo : Nat} {w : va_W} {av : List Value} {Qc : (Nat → Prop) → Array Value → State → Outcome → State → Prop} (hpl : plainFor y = true) (hfit : (lg_sl av).length ≤ n)
    (body : ∀ (p : Program) (e : Env) (s : State) (m : MethodId) (args : Array Value) (below : List Frame) (meth : Method) (c : Code) (A : Nat → Prop) (ls : Array Slot), CallFix p m c b n s args (wu_ y b n rt) y.cls → va_K D vwCl tys s → dy_ D A s w s.heap [] → (∀ q, s.heap.size ≤ q → A q) → lv_has ls n (lv_args 0 av) → meth.sig.returnType = rt → meth.locks = false → zs_ A s →
      W p l e (rm_ f lo) s m args below meth c s.heap [] 0 0 (MQ below (Qc A) args s 0 0 A) (F0 m 0 ls [])) : ∀ sz, Met l y (wu_ y b n rt) (rm_ f lo) (me_P D tys w sz av) (Qc (va_A w sz)) 0 0 (va_A w sz) := by
  intro sz
  refine met_F (cc := b) (maxL := n) (ret := rt) hpl rfl ?_
  intro p e s m args below meth c s₁ B hml hv
  obtain ⟨rfl, hsz, hP, hK, hD0, hZ⟩ := hv
  subst hsz
  have hD := hD0.self (sz := s.heap.size)
  rw [lg_entry_eq]
  exact body p e s m _ below meth c _ _ ⟨B.exec, B.bytes, hml, findClass_of_methodNamed B.named, atoms_spec (ws := wu_ y b n rt) B.pre⟩ hK ⟨hP, hD, va_S.rf⟩ (fun q h => Or.inr h) (lv_entry av hfit) B.returns B.notSynchronized hZ
section BASE
variable {p : Program} {l : Launch} {e : Env} {R : Room} {s : State} {m : MethodId} {args : Array Value} {below : List Frame} {meth : Method} {c : Code} {H : Heap} {locs : List Loc} {cells slots : Nat} {Q : State → Prop}
variable {cc : ByteArray} {nL pc : Nat} {ls : Array Slot} {rest : List Value} {D : va_G} {A : Nat → Prop} {tys : List (ClassId × FieldType)} {ws : va_W} {own : String} {c0 : Cond}
theorem ig (S : CallFix p m c cc nL s args (c0 :: uw_) own) (hK : va_K D vwCl tys s) (Y : dy_ D A s ws H locs) {idx : Nat} {C : String} {T : u_T} {N ci k : Nat} (F : fl_ own idx C T N ci k) (q0 : Nat) {a : Nat} {fs : List Value} (he : ws[q0]? = some (a, .inr (ci, fs))) {v : Value} (hv : fs[k]? = some v) (hdg : decode cc pc = .ok (.getfield idx, 3))
    (kk : W p l e R s m args below meth c H locs cells slots Q (F0 m (pc + 3) ls (v :: rest))) : W p l e R s m args below meth c H locs cells slots Q (F0 m pc ls (.ref a :: rest)) :=
  va_get (D := D) (T := T) (N := N) S.1 S.2.1 S.2.2.2.2 (fun w h => List.mem_cons_of_mem _ (F.1 w h)) S.2.2.2.1 hK Y.1 q0 he F.2.1 k F.2.2.1 (S.2.2.2.2 _ (List.mem_cons_of_mem _ F.2.2.2.1)) (fun x h => by rw [F.2.2.2.2] at h; exact h) hv hdg kk
theorem ip (S : CallFix p m c cc nL s args (c0 :: uw_) own) (hK : va_K D vwCl tys s) (Y : dy_ D A s ws H locs) {idx : Nat} {C : String} {T : u_T} {N ci k : Nat} (F : fl_ own idx C T N ci k) {ty0 : Nat → FieldType} (G : fp_ T N ty0) (hfin : (T k).2.2.2 = false) (q0 : Nat) {a : Nat} {fs : List Value} (he : ws[q0]? = some (a, .inr (ci, fs))) {v : Value} (hn : narrow (ty0 k) v = v) (hfit : fits (ty0 k) v = true) (hl : k < fs.length) {ws' : va_W} (hw : ws.set q0 (a, .inr (ci, fs.set k v)) = ws') (hdg : decode cc pc = .ok (.putfield idx, 3))
    (kk : ∀ (H1 : Heap) (locs1 : List Loc), dy_ D A s ws' H1 locs1 → W p l e R s m args below meth c H1 locs1 cells slots Q (F0 m (pc + 3) ls rest)) : W p l e R s m args below meth c H locs cells slots Q (F0 m pc ls (v :: .ref a :: rest)) := by
  subst hw
  exact va_put (D := D) (T := T) (N := N) S.1 S.2.1 S.2.2.2.2 (fun w h => List.mem_cons_of_mem _ (F.1 w h)) ty0 G.1 G.2 S.2.2.2.1 hK Y.1 Y.2.1 Y.2.2 q0 he F.2.1 k F.2.2.1 (S.2.2.2.2 _ (List.mem_cons_of_mem _ F.2.2.2.1)) (fun x h => by rw [F.2.2.2.2] at h; exact h) hfin (G.1 k F.2.2.1) hn hfit hl hdg (fun H1 l1 h1 h2 h3 => kk H1 l1 ⟨h1, h2, h3⟩)
theorem ia (S : CallFix p m c cc nL s args (c0 :: uw_) own) (hK : va_K D vwCl tys s) (Y : dy_ D A s ws H locs) (q0 t0 : Nat) {a : Nat} {cA : ClassId} {n : Nat} {f : Nat → Int32} (ha : ws[q0]? = some (a, .inl (cA, n, .inl f))) (ht : tys[t0]? = some (cA, .int)) {i : Int32} (hin : vp_in i n) (hdg : decode cc pc = .ok (.iaload, 1))
    (kk : W p l e R s m args below meth c H locs cells slots Q (F0 m (pc + 1) ls (.int (f i.toNatClampNeg) :: rest))) : W p l e R s m args below meth c H locs cells slots Q (F0 m pc ls (.int i :: .ref a :: rest)) :=
  va_iald S.1 S.2.1 hK Y.1 q0 t0 ha ht hin hdg kk
theorem ica (S : CallFix p m c cc nL s args (c0 :: uw_) own) (hK : va_K D vwCl tys s) (Y : dy_ D A s ws H locs) (q0 t0 : Nat) {a : Nat} {cA : ClassId} {n : Nat} {f : Nat → Int32} (ha : ws[q0]? = some (a, .inl (cA, n, .inl f))) (ht : tys[t0]? = some (cA, .char)) {i : Int32} (hin : vp_in i n) (hdg : decode cc pc = .ok (.caload, 1))
    (kk : W p l e R s m args below meth c H locs cells slots Q (F0 m (pc + 1) ls (.int (f i.toNatClampNeg) :: rest))) : W p l e R s m args below meth c H locs cells slots Q (F0 m pc ls (.int i :: .ref a :: rest)) :=
  va_cald S.1 S.2.1 hK Y.1 q0 t0 ha ht hin hdg kk
theorem iw (S : CallFix p m c cc nL s args (c0 :: uw_) own) (hK : va_K D vwCl tys s) (Y : dy_ D A s ws H locs) (q0 t0 : Nat) {a : Nat} {cA : ClassId} {n : Nat} {f : Nat → Int32} (ha : ws[q0]? = some (a, .inl (cA, n, .inl f))) (ht : tys[t0]? = some (cA, .int)) {i x : Int32} (hin : vp_in i n) {ws' : va_W} (hw : ws.set q0 (a, .inl (cA, n, .inl (upd f i.toNatClampNeg x))) = ws') (hdg : decode cc pc = .ok (.iastore, 1))
    (kk : ∀ (H1 : Heap) (locs1 : List Loc), dy_ D A s ws' H1 locs1 → W p l e R s m args below meth c H1 locs1 cells slots Q (F0 m (pc + 1) ls rest)) : W p l e R s m args below meth c H locs cells slots Q (F0 m pc ls (.int x :: .int i :: .ref a :: rest)) := by
  subst hw
  exact va_iast S.1 S.2.1 hK Y.1 Y.2.1 Y.2.2 q0 t0 ha ht hin hdg (fun H1 l1 h1 h2 h3 => kk H1 l1 ⟨h1, h2, h3⟩)
theorem icw (S : CallFix p m c cc nL s args (c0 :: uw_) own) (hK : va_K D vwCl tys s) (Y : dy_ D A s ws H locs) (q0 t0 : Nat) {a : Nat} {cA : ClassId} {n : Nat} {f : Nat → Int32} (ha : ws[q0]? = some (a, .inl (cA, n, .inl f))) (ht : tys[t0]? = some (cA, .char)) {i x : Int32} (hin : vp_in i n) {ws' : va_W} (hw : ws.set q0 (a, .inl (cA, n, .inl (upd f i.toNatClampNeg (vp_nar .char x)))) = ws') (hdg : decode cc pc = .ok (.castore, 1))
    (kk : ∀ (H1 : Heap) (locs1 : List Loc), dy_ D A s ws' H1 locs1 → W p l e R s m args below meth c H1 locs1 cells slots Q (F0 m (pc + 1) ls rest)) : W p l e R s m args below meth c H locs cells slots Q (F0 m pc ls (.int x :: .int i :: .ref a :: rest)) := by
  subst hw
  exact va_cast S.1 S.2.1 hK Y.1 Y.2.1 Y.2.2 q0 t0 ha ht hin hdg (fun H1 l1 h1 h2 h3 => kk H1 l1 ⟨h1, h2, h3⟩)
/-- the ends -/
theorem me_ri {b : ByteArray} {rt : FieldType} {v : Int32} (S : CallFix p m c b nL s args (c0 :: uw_) own) (hK : va_K D vwCl tys s) (Y : dy_ D A s ws H locs) (hr : meth.sig.returnType = some rt) (hlk : meth.locks = false) (hn : narrow rt (.int v) = .int v) (hdg : decode b pc = .ok (.ireturn, 1)) :
    W p l e R s m args below meth c H locs 0 0 (MQ below (me_Qi D tys A v ws) args s 0 0 A) (F0 m pc ls [.int v]) :=
  W.zret S.1 S.2.1 hr hn (fun t ht hW => ⟨⟨v, (), rfl, rfl, by rw [ht]; exact Y.1, va_K.moved hW.alike hK, Y.2.1⟩, Y.2.2.F ht⟩) Y.2.2.2.2 hdg hlk
theorem me_rv {b : ByteArray} (S : CallFix p m c b nL s args (c0 :: uw_) own) (hK : va_K D vwCl tys s) (Y : dy_ D A s ws H locs) (hr : meth.sig.returnType = none) (hlk : meth.locks = false) (hdg : decode b pc = .ok (.return_, 1)) :
    W p l e R s m args below meth c H locs 0 0 (MQ below (me_Qv D tys A ws) args s 0 0 A) (F0 m pc ls []) :=
  W.vret S.1 S.2.1 hr (fun t ht hW => ⟨⟨(), rfl, trivial, by rw [ht]; exact Y.1, va_K.moved hW.alike hK, Y.2.1⟩, Y.2.2.F ht⟩) Y.2.2.2.2 hdg hlk
/-- behind a callee that has no cells -/
theorem dy_0 {H1 : Heap} {locs1 : List Loc} (Y : dy_ D A s ws H locs) (hk : ∀ q : Nat, q < H.size → ¬ va_A [] H.size q → H1[q]? = H[q]?) (hS : va_S A s.heap H1 locs1) : dy_ D A s ws H1 locs1 :=
  ⟨Y.1.kept (fun k q h => hk q.1 (Y.1 k q h).lt (fun z => by
      rcases z with ⟨j, x, z⟩ | z
      · simp at z
      · have := (Y.1 k q h).lt
        omega)), Y.2.1, hS⟩
variable {y : MethodName} {b : ByteArray} {n kA : Nat} {rt : FieldType} {f lo : Nat} {w w' : va_W} {av As : List Value} {r : Int32} {idx : Nat} {tys' : List (ClassId × FieldType)} {wr : va_W}
theorem cb_ {rt : Option FieldType} (S : CallFix p m c cc nL s args (c0 :: uw_) own) (h1 : Cond.methodLink own idx y ∈ uw_) (h2 : Cond.initialized y.cls ∈ uw_) (h3 : Cond.code y b n rt ∈ uw_) (hd : yd_ y kA) (hR : f + 1 ≤ R.frames ∧ 8 + (n + 11) + lo ≤ R.locals) : CallB R s args own idx y b n rt (wu_ y b n rt) (rm_ f lo) 0 0 kA :=
  callB_of kA S.2.2.2.2 (uw_gi h3) rfl rfl rfl (S.2.2.2.2 _ (List.mem_cons_of_mem _ h2)) (S.2.2.2.2 _ (List.mem_cons_of_mem _ h1)) hd hR
theorem va_AP {A1 : Nat → Prop} {sz : Nat} (Y : dy_ D A s ws H locs) (hA : ∀ q, s.heap.size ≤ q → A q) (hw : w = ws ∨ w = []) : ∀ q, va_A w H.size q → A q := by
  intro q hq
  rcases hq with ⟨k, x, hq⟩ | hq
  · rcases hw with rfl | rfl
    · exact Y.2.1.2 k (q, x) hq
    · simp at hq
  · exact hA q (Nat.le_trans Y.2.2.1 hq)
/-- a static call without cells -/
theorem cp_s (S : CallFix p m c cc nL s args (c0 :: uw_) own) (hK : va_K D vwCl tys s) (hA : ∀ q, s.heap.size ≤ q → A q) (hZ : zs_ A s) (Y : dy_ D A s ws H locs) (hl : ls.size = nL) (hM : me_I l D [] y b n rt f lo [] As r []) (K : cs_ own idx y b n (some rt) kA) (hR : f + 1 ≤ R.frames ∧ 8 + (n + 11) + lo ≤ R.locals) {st : List Value} (hst : st = As.reverse ++ rest) (hn : As.length = kA) (hm : (rest.map fun v => v.category).sum ≤ 8) (hf : cells ≤ R.cells ∧ slots ≤ R.slots) (hdg : decode cc pc = .ok (.invokestatic idx, 3))
    (kk : ∀ (H1 : Heap) (locs1 : List Loc), dy_ D A s ws H1 locs1 → W p l e R s m args below meth c H1 locs1 cells slots Q (F0 m (pc + 3) ls (.int r :: rest))) : W p l e R s m args below meth c H locs cells slots Q (F0 m pc ls st) := by
  obtain ⟨k1, k2, k3, k4, k5⟩ := K
  refine va_calli (va_runS (rest := rest) S (hM H.size) ⟨cb_ S k1 k3 k4 k5 hR, S.2.2.2.2 _ (List.mem_cons_of_mem _ k2)⟩ ⟨me_bl D [] [] H.size As, fun U hU hW => ⟨rfl, by rw [hU], fun k q h => by simp at h, va_K.moved hW.alike (hK.sub (tys' := []) [] rfl), ⟨fun i j a b h => by simp at h, fun k q h => by simp at h⟩, zs_mv hZ hW hU Y.2.2 (va_AP (A1 := A) (sz := 0) Y hA (Or.inr rfl))⟩⟩ rfl hn hl hst (lv_room hm) hdg hf) Y.2.2 (fun q _ h => va_AP (A1 := A) (sz := 0) Y hA (Or.inr rfl) q h) (va_AP (A1 := A) (sz := 0) Y hA (Or.inr rfl)) (fun r1 u t H1 locs1 ht hvm hw hB hz hk hS => ?_)
  subst hw
  exact kk H1 locs1 (dy_0 Y hk hS)
/-- calls whose world is the caller's whole world: static, of an object -/
theorem cf_s (S : CallFix p m c cc nL s args (c0 :: uw_) own) (hK : va_K D vwCl tys s) (hA : ∀ q, s.heap.size ≤ q → A q) (hZ : zs_ A s) (Y : dy_ D A s ws H locs) (hl : ls.size = nL) (hM : me_I l D tys y b n rt f lo ws As r w') (K : cs_ own idx y b n (some rt) kA) (hR : f + 1 ≤ R.frames ∧ 8 + (n + 11) + lo ≤ R.locals) {st : List Value} (hst : st = As.reverse ++ rest) (hn : As.length = kA) (hm : (rest.map fun v => v.category).sum ≤ 8) (hf : cells ≤ R.cells ∧ slots ≤ R.slots) (hdg : decode cc pc = .ok (.invokestatic idx, 3))
    (kk : ∀ (H1 : Heap) (locs1 : List Loc), dy_ D A s w' H1 locs1 → W p l e R s m args below meth c H1 locs1 cells slots Q (F0 m (pc + 3) ls (.int r :: rest))) : W p l e R s m args below meth c H locs cells slots Q (F0 m pc ls st) := by
  obtain ⟨k1, k2, k3, k4, k5⟩ := K
  refine va_calli (va_runS (rest := rest) S (hM H.size) ⟨cb_ S k1 k3 k4 k5 hR, S.2.2.2.2 _ (List.mem_cons_of_mem _ k2)⟩ ⟨me_bl D tys ws H.size As, fun U hU hW => ⟨rfl, by rw [hU], by rw [hU]; exact Y.1, va_K.moved hW.alike hK, Y.2.1.weaken (fun _ _ _ _ => trivial), zs_mv hZ hW hU Y.2.2 (va_AP (A1 := A) (sz := 0) Y hA (Or.inl rfl))⟩⟩ rfl hn hl hst (lv_room hm) hdg hf) Y.2.2 (fun q _ h => va_AP (A1 := A) (sz := 0) Y hA (Or.inl rfl) q h) (va_AP (A1 := A) (sz := 0) Y hA (Or.inl rfl)) (fun r1 u t H1 locs1 ht hvm hw hB hz hk hS => ?_)
  subst hw
  obtain ⟨hP1, hK1, hD1⟩ := hB
  rw [ht] at hP1
  exact kk H1 locs1 ⟨hP1, hD1.weaken (fun k q _ h => va_AP (A1 := A) (sz := 0) Y hA (Or.inl rfl) q.1 h), hS⟩
theorem cf_sv (S : CallFix p m c cc nL s args (c0 :: uw_) own) (hK : va_K D vwCl tys s) (hA : ∀ q, s.heap.size ≤ q → A q) (hZ : zs_ A s) (Y : dy_ D A s ws H locs) (hl : ls.size = nL) (hM : me_V l D tys y b n f lo ws As w') (K : cs_ own idx y b n none kA) (hR : f + 1 ≤ R.frames ∧ 8 + (n + 11) + lo ≤ R.locals) {st : List Value} (hst : st = As.reverse ++ rest) (hn : As.length = kA) (hm : (rest.map fun v => v.category).sum ≤ 8) (hf : cells ≤ R.cells ∧ slots ≤ R.slots) (hdg : decode cc pc = .ok (.invokestatic idx, 3))
    (kk : ∀ (H1 : Heap) (locs1 : List Loc), dy_ D A s w' H1 locs1 → W p l e R s m args below meth c H1 locs1 cells slots Q (F0 m (pc + 3) ls rest)) : W p l e R s m args below meth c H locs cells slots Q (F0 m pc ls st) := by
  obtain ⟨k1, k2, k3, k4, k5⟩ := K
  refine va_callv (va_runS (rest := rest) S (hM H.size) ⟨cb_ S k1 k3 k4 k5 hR, S.2.2.2.2 _ (List.mem_cons_of_mem _ k2)⟩ ⟨me_bl D tys ws H.size As, fun U hU hW => ⟨rfl, by rw [hU], by rw [hU]; exact Y.1, va_K.moved hW.alike hK, Y.2.1.weaken (fun _ _ _ _ => trivial), zs_mv hZ hW hU Y.2.2 (va_AP (A1 := A) (sz := 0) Y hA (Or.inl rfl))⟩⟩ rfl hn hl hst (lv_room hm) hdg hf) Y.2.2 (fun q _ h => va_AP (A1 := A) (sz := 0) Y hA (Or.inl rfl) q h) (va_AP (A1 := A) (sz := 0) Y hA (Or.inl rfl)) (fun u t H1 locs1 ht hvm hw hB hz hk hS => ?_)
  obtain ⟨hP1, hK1, hD1⟩ := hB
  rw [ht] at hP1
  exact kk H1 locs1 ⟨hP1, hD1.weaken (fun k q _ h => va_AP (A1 := A) (sz := 0) Y hA (Or.inl rfl) q.1 h), hS⟩
theorem cf_v (S : CallFix p m c cc nL s args (c0 :: uw_) own) (hK : va_K D vwCl tys s) (hA : ∀ q, s.heap.size ≤ q → A q) (hZ : zs_ A s) (Y : dy_ D A s ws H locs) (hl : ls.size = nL) {a : Nat} (hM : me_I l D tys y b n rt f lo ws (.ref a :: As) r w') (K : cv_ own idx y b n (some rt) kA) {ci q0 : Nat} {T : u_T} {N : Nat} {fs : List Value} (hc : vwCl[ci]? = some (y.cls, T, N)) (he : ws[q0]? = some (a, .inr (ci, fs))) (hR : f + 1 ≤ R.frames ∧ 8 + (n + 11) + lo ≤ R.locals) {st : List Value} (hst : st = As.reverse ++ .ref a :: rest) (hn : As.length = kA) (hm : (rest.map fun v => v.category).sum ≤ 8) (hf : cells ≤ R.cells ∧ slots ≤ R.slots) (hdg : decode cc pc = .ok (.invokevirtual idx, 3))
    (kk : ∀ (H1 : Heap) (locs1 : List Loc), dy_ D A s w' H1 locs1 → W p l e R s m args below meth c H1 locs1 cells slots Q (F0 m (pc + 3) ls (.int r :: rest))) : W p l e R s m args below meth c H locs cells slots Q (F0 m pc ls st) := by
  obtain ⟨k1, k2, k3, k4, k5, k6⟩ := K
  refine va_calli (va_runV (C := y.cls) (rest := rest) S (hM H.size) ⟨cb_ S k1 k4 k5 k6 hR, S.2.2.2.2 _ (List.mem_cons_of_mem _ k2), S.2.2.2.2 _ (List.mem_cons_of_mem _ k3)⟩ ⟨me_bl D tys ws H.size _, va_recv hK Y.1 hc he, fun U hU hW => ⟨rfl, by rw [hU], by rw [hU]; exact Y.1, va_K.moved hW.alike hK, Y.2.1.weaken (fun _ _ _ _ => trivial), zs_mv hZ hW hU Y.2.2 (va_AP (A1 := A) (sz := 0) Y hA (Or.inl rfl))⟩⟩ rfl hn hl hst (lv_room hm) hdg hf) Y.2.2 (fun q _ h => va_AP (A1 := A) (sz := 0) Y hA (Or.inl rfl) q h) (va_AP (A1 := A) (sz := 0) Y hA (Or.inl rfl)) (fun r1 u t H1 locs1 ht hvm hw hB hz hk hS => ?_)
  subst hw
  obtain ⟨hP1, hK1, hD1⟩ := hB
  rw [ht] at hP1
  exact kk H1 locs1 ⟨hP1, hD1.weaken (fun k q _ h => va_AP (A1 := A) (sz := 0) Y hA (Or.inl rfl) q.1 h), hS⟩
theorem cf_vv (S : CallFix p m c cc nL s args (c0 :: uw_) own) (hK : va_K D vwCl tys s) (hA : ∀ q, s.heap.size ≤ q → A q) (hZ : zs_ A s) (Y : dy_ D A s ws H locs) (hl : ls.size = nL) {a : Nat} (hM : me_V l D tys y b n f lo ws (.ref a :: As) w') (K : cv_ own idx y b n none kA) {ci q0 : Nat} {T : u_T} {N : Nat} {fs : List Value} (hc : vwCl[ci]? = some (y.cls, T, N)) (he : ws[q0]? = some (a, .inr (ci, fs))) (hR : f + 1 ≤ R.frames ∧ 8 + (n + 11) + lo ≤ R.locals) {st : List Value} (hst : st = As.reverse ++ .ref a :: rest) (hn : As.length = kA) (hm : (rest.map fun v => v.category).sum ≤ 8) (hf : cells ≤ R.cells ∧ slots ≤ R.slots) (hdg : decode cc pc = .ok (.invokevirtual idx, 3))
    (kk : ∀ (H1 : Heap) (locs1 : List Loc), dy_ D A s w' H1 locs1 → W p l e R s m args below meth c H1 locs1 cells slots Q (F0 m (pc + 3) ls rest)) : W p l e R s m args below meth c H locs cells slots Q (F0 m pc ls st) := by
  obtain ⟨k1, k2, k3, k4, k5, k6⟩ := K
  refine va_callv (va_runV (C := y.cls) (rest := rest) S (hM H.size) ⟨cb_ S k1 k4 k5 k6 hR, S.2.2.2.2 _ (List.mem_cons_of_mem _ k2), S.2.2.2.2 _ (List.mem_cons_of_mem _ k3)⟩ ⟨me_bl D tys ws H.size _, va_recv hK Y.1 hc he, fun U hU hW => ⟨rfl, by rw [hU], by rw [hU]; exact Y.1, va_K.moved hW.alike hK, Y.2.1.weaken (fun _ _ _ _ => trivial), zs_mv hZ hW hU Y.2.2 (va_AP (A1 := A) (sz := 0) Y hA (Or.inl rfl))⟩⟩ rfl hn hl hst (lv_room hm) hdg hf) Y.2.2 (fun q _ h => va_AP (A1 := A) (sz := 0) Y hA (Or.inl rfl) q h) (va_AP (A1 := A) (sz := 0) Y hA (Or.inl rfl)) (fun u t H1 locs1 ht hvm hw hB hz hk hS => ?_)
  obtain ⟨hP1, hK1, hD1⟩ := hB
  rw [ht] at hP1
  exact kk H1 locs1 ⟨hP1, hD1.weaken (fun k q _ h => va_AP (A1 := A) (sz := 0) Y hA (Or.inl rfl) q.1 h), hS⟩
/-- calls whose world is a part of the caller's: places isC; the rest at isR; behind the call in the order ps -/
theorem cg_f {isC : List Nat} (hC : isC.map (fun i => ws[i]?) = w.map some) : isC.filterMap (fun i => ws[i]?) = w := by
  have h1 : isC.filterMap (fun i => ws[i]?) = (isC.map (fun i => ws[i]?)).filterMap id := by rw [List.filterMap_map]; rfl
  rw [h1, hC, List.filterMap_map]
  show w.filterMap some = w
  exact List.filterMap_some
theorem cg_j {isC isR ps : List Nat} {ws2 : va_W} {H1 : Heap} {locs1 : List Loc} (hA : ∀ q, s.heap.size ≤ q → A q) (Y : dy_ D A s ws H locs) (hC : isC.map (fun i => ws[i]?) = w.map some) (hRr : isR.map (fun i => ws[i]?) = wr.map some) (hn : va_nd isR = true) (hdis : ∀ i ∈ isR, i ∉ isC) (hps : ps.map (fun i => (wr ++ w')[i]?) = ws2.map some) (hnp : va_nd ps = true)
    (hk : ∀ q : Nat, q < H.size → ¬ va_A w H.size q → H1[q]? = H[q]?) (hP1 : va_P D vwCl w' H1) (hD1 : va_D (va_A w H.size) w') (hS : va_S A s.heap H1 locs1) : dy_ D A s ws2 H1 locs1 := by
  obtain ⟨h1, h2⟩ := va_join Y.1 Y.2.1 isC isR hC hRr hn hdis hk (va_free Y.2.1 Y.2.2 hA isC hC) hP1 hD1
  exact ⟨h1.sub ps (cg_f hps), h2.sub ps hnp hps, hS⟩
theorem cg_s {isC isR ps it : List Nat} {ws2 : va_W} (S : CallFix p m c cc nL s args (c0 :: uw_) own) (hK : va_K D vwCl tys s) (hA : ∀ q, s.heap.size ≤ q → A q) (hZ : zs_ A s) (Y : dy_ D A s ws H locs) (hl : ls.size = nL) (hM : me_I l D tys' y b n rt f lo w As r w') (hC : isC.map (fun i => ws[i]?) = w.map some) (hRr : isR.map (fun i => ws[i]?) = wr.map some) (hnC : va_nd isC = true) (hnR : va_nd isR = true) (hdis : ∀ i ∈ isR, i ∉ isC) (hps : ps.map (fun i => (wr ++ w')[i]?) = ws2.map some) (hnp : va_nd ps = true) (hty : it.filterMap (fun i => tys[i]?) = tys') (K : cs_ own idx y b n (some rt) kA) (hR : f + 1 ≤ R.frames ∧ 8 + (n + 11) + lo ≤ R.locals) {st : List Value} (hst : st = As.reverse ++ rest) (hn : As.length = kA) (hm : (rest.map fun v => v.category).sum ≤ 8) (hf : cells ≤ R.cells ∧ slots ≤ R.slots) (hdg : decode cc pc = .ok (.invokestatic idx, 3))
    (kk : ∀ (H1 : Heap) (locs1 : List Loc), dy_ D A s ws2 H1 locs1 → W p l e R s m args below meth c H1 locs1 cells slots Q (F0 m (pc + 3) ls (.int r :: rest))) : W p l e R s m args below meth c H locs cells slots Q (F0 m pc ls st) := by
  obtain ⟨k1, k2, k3, k4, k5⟩ := K
  have hfr := va_free Y.2.1 Y.2.2 hA isC hC
  refine va_calli (va_runS (rest := rest) S (hM H.size) ⟨cb_ S k1 k3 k4 k5 hR, S.2.2.2.2 _ (List.mem_cons_of_mem _ k2)⟩ ⟨me_bl D tys' w H.size As, fun U hU hW => ⟨rfl, by rw [hU], by rw [hU]; exact Y.1.sub isC (cg_f hC), va_K.moved hW.alike (hK.sub it hty), (Y.2.1.sub isC hnC hC).weaken (fun _ _ _ _ => trivial), zs_mv hZ hW hU Y.2.2 hfr⟩⟩ rfl hn hl hst (lv_room hm) hdg hf) Y.2.2 (fun q _ h => hfr q h) hfr (fun r1 u t H1 locs1 ht hvm hw hB hz hk hS => ?_)
  subst hw
  obtain ⟨hP1, hK1, hD1⟩ := hB
  rw [ht] at hP1
  exact kk H1 locs1 (cg_j hA Y hC hRr hnR hdis hps hnp hk hP1 hD1 hS)
theorem cg_v {isC isR ps it : List Nat} {ws2 : va_W} {a : Nat} (S : CallFix p m c cc nL s args (c0 :: uw_) own) (hK : va_K D vwCl tys s) (hA : ∀ q, s.heap.size ≤ q → A q) (hZ : zs_ A s) (Y : dy_ D A s ws H locs) (hl : ls.size = nL) (hM : me_I l D tys' y b n rt f lo w (.ref a :: As) r w') (hC : isC.map (fun i => ws[i]?) = w.map some) (hRr : isR.map (fun i => ws[i]?) = wr.map some) (hnC : va_nd isC = true) (hnR : va_nd isR = true) (hdis : ∀ i ∈ isR, i ∉ isC) (hps : ps.map (fun i => (wr ++ w')[i]?) = ws2.map some) (hnp : va_nd ps = true) (hty : it.filterMap (fun i => tys[i]?) = tys') (K : cv_ own idx y b n (some rt) kA) {ci q0 : Nat} {T : u_T} {N : Nat} {fs : List Value} (hc : vwCl[ci]? = some (y.cls, T, N)) (he : ws[q0]? = some (a, .inr (ci, fs))) (hR : f + 1 ≤ R.frames ∧ 8 + (n + 11) + lo ≤ R.locals) {st : List Value} (hst : st = As.reverse ++ .ref a :: rest) (hn : As.length = kA) (hm : (rest.map fun v => v.category).sum ≤ 8) (hf : cells ≤ R.cells ∧ slots ≤ R.slots) (hdg : decode cc pc = .ok (.invokevirtual idx, 3))
    (kk : ∀ (H1 : Heap) (locs1 : List Loc), dy_ D A s ws2 H1 locs1 → W p l e R s m args below meth c H1 locs1 cells slots Q (F0 m (pc + 3) ls (.int r :: rest))) : W p l e R s m args below meth c H locs cells slots Q (F0 m pc ls st) := by
  obtain ⟨k1, k2, k3, k4, k5, k6⟩ := K
  have hfr := va_free Y.2.1 Y.2.2 hA isC hC
  refine va_calli (va_runV (C := y.cls) (rest := rest) S (hM H.size) ⟨cb_ S k1 k4 k5 k6 hR, S.2.2.2.2 _ (List.mem_cons_of_mem _ k2), S.2.2.2.2 _ (List.mem_cons_of_mem _ k3)⟩ ⟨me_bl D tys' w H.size _, va_recv hK Y.1 hc he, fun U hU hW => ⟨rfl, by rw [hU], by rw [hU]; exact Y.1.sub isC (cg_f hC), va_K.moved hW.alike (hK.sub it hty), (Y.2.1.sub isC hnC hC).weaken (fun _ _ _ _ => trivial), zs_mv hZ hW hU Y.2.2 hfr⟩⟩ rfl hn hl hst (lv_room hm) hdg hf) Y.2.2 (fun q _ h => hfr q h) hfr (fun r1 u t H1 locs1 ht hvm hw hB hz hk hS => ?_)
  subst hw
  obtain ⟨hP1, hK1, hD1⟩ := hB
  rw [ht] at hP1
  exact kk H1 locs1 (cg_j hA Y hC hRr hnR hdis hps hnp hk hP1 hD1 hS)
theorem cg_vv {isC isR ps it : List Nat} {ws2 : va_W} {a : Nat} (S : CallFix p m c cc nL s args (c0 :: uw_) own) (hK : va_K D vwCl tys s) (hA : ∀ q, s.heap.size ≤ q → A q) (hZ : zs_ A s) (Y : dy_ D A s ws H locs) (hl : ls.size = nL) (hM : me_V l D tys' y b n f lo w (.ref a :: As) w') (hC : isC.map (fun i => ws[i]?) = w.map some) (hRr : isR.map (fun i => ws[i]?) = wr.map some) (hnC : va_nd isC = true) (hnR : va_nd isR = true) (hdis : ∀ i ∈ isR, i ∉ isC) (hps : ps.map (fun i => (wr ++ w')[i]?) = ws2.map some) (hnp : va_nd ps = true) (hty : it.filterMap (fun i => tys[i]?) = tys') (K : cv_ own idx y b n none kA) {ci q0 : Nat} {T : u_T} {N : Nat} {fs : List Value} (hc : vwCl[ci]? = some (y.cls, T, N)) (he : ws[q0]? = some (a, .inr (ci, fs))) (hR : f + 1 ≤ R.frames ∧ 8 + (n + 11) + lo ≤ R.locals) {st : List Value} (hst : st = As.reverse ++ .ref a :: rest) (hn : As.length = kA) (hm : (rest.map fun v => v.category).sum ≤ 8) (hf : cells ≤ R.cells ∧ slots ≤ R.slots) (hdg : decode cc pc = .ok (.invokevirtual idx, 3))
    (kk : ∀ (H1 : Heap) (locs1 : List Loc), dy_ D A s ws2 H1 locs1 → W p l e R s m args below meth c H1 locs1 cells slots Q (F0 m (pc + 3) ls rest)) : W p l e R s m args below meth c H locs cells slots Q (F0 m pc ls st) := by
  obtain ⟨k1, k2, k3, k4, k5, k6⟩ := K
  have hfr := va_free Y.2.1 Y.2.2 hA isC hC
  refine va_callv (va_runV (C := y.cls) (rest := rest) S (hM H.size) ⟨cb_ S k1 k4 k5 k6 hR, S.2.2.2.2 _ (List.mem_cons_of_mem _ k2), S.2.2.2.2 _ (List.mem_cons_of_mem _ k3)⟩ ⟨me_bl D tys' w H.size _, va_recv hK Y.1 hc he, fun U hU hW => ⟨rfl, by rw [hU], by rw [hU]; exact Y.1.sub isC (cg_f hC), va_K.moved hW.alike (hK.sub it hty), (Y.2.1.sub isC hnC hC).weaken (fun _ _ _ _ => trivial), zs_mv hZ hW hU Y.2.2 hfr⟩⟩ rfl hn hl hst (lv_room hm) hdg hf) Y.2.2 (fun q _ h => hfr q h) hfr (fun u t H1 locs1 ht hvm hw hB hz hk hS => ?_)
  obtain ⟨hP1, hK1, hD1⟩ := hB
  rw [ht] at hP1
  exact kk H1 locs1 (cg_j hA Y hC hRr hnR hdis hps hnp hk hP1 hD1 hS)
end BASE
theorem o_kh {α : Type} {P : Prop} [Decidable P] {x : Option α} {r : α} (h : o_k P x = some r) : P ∧ x = some r := by
  unfold o_k at h
  by_cases hp : P
  · rw [if_pos hp] at h; exact ⟨hp, h⟩
  · rw [if_neg hp] at h; cases h
theorem o_bh {α β : Type} {x : Option α} {f : α → Option β} {r : β} (h : x.bind f = some r) : ∃ v, x = some v ∧ f v = some r := by
  cases x with
  | none => cases h
  | some v => exact ⟨v, rfl, h⟩
theorem o_t {α : Type} {P : Prop} [Decidable P] {x y z : α} (h : (if P then x else y) = z) (hp : P) : x = z := by rw [if_pos hp] at h; exact h
theorem o_f {α : Type} {P : Prop} [Decidable P] {x y z : α} (h : (if P then x else y) = z) (hp : ¬ P) : y = z := by rw [if_neg hp] at h; exact h
