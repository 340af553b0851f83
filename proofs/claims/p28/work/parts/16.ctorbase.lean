/-! constructors: contracts that make cells -/
def rmc_ (f lo mc ms : Nat) : Room := { frames := f, cells := mc, slots := ms, locals := lo }
def me_Qc {S : Type} (D : va_G) (tys : List (ClassId × FieldType)) (A : Nat → Prop) (post : S → Prop) (w' : S → va_W) : Array Value → State → Outcome → State → Prop := va_Qv post (fun u t => va_P D vwCl (w' u) t.heap ∧ va_K D vwCl tys t ∧ va_D A (w' u)) A
def me_C {S : Type} (l : Launch) (D : va_G) (tys : List (ClassId × FieldType)) (y : MethodName) (b : ByteArray) (n : Nat) (f lo mc ms : Nat) (w : va_W) (av : List Value) (post : S → Prop) (w' : S → va_W) : Prop :=
  ∀ sz, Met l y (wu_ y b n none) (rmc_ f lo mc ms) (me_P D tys w sz av) (me_Qc D tys (va_A w sz) post w') mc ms (va_A w sz)
theorem me_ofC {S : Type} {l : Launch} {D : va_G} {tys : List (ClassId × FieldType)} {y : MethodName} {b : ByteArray} {n : Nat} {f lo mc ms : Nat} {w : va_W} {av : List Value} {post : S → Prop} {w' : S → va_W} (hpl : plainFor y = true) (hfit : (lg_sl av).length ≤ n) (hy : y.name = "<init>")
    (body : ∀ (p : Program) (e : Env) (s : State) (m : MethodId) (args : Array Value) (below : List Frame) (meth : Method) (c : Code) (A : Nat → Prop) (ls : Array Slot), CallFix p m c b n s args (wu_ y b n none) y.cls → va_K D vwCl tys s → dy_ D A s w s.heap [] → (∀ q, s.heap.size ≤ q → A q) → lv_has ls n (lv_args 0 av) → meth.sig.returnType = none → meth.locks = false → zs_ A s → meth.name = "<init>" →
      W p l e (rmc_ f lo mc ms) s m args below meth c s.heap [] 0 0 (MQ below (me_Qc D tys A post w') args s mc ms A) (F0 m 0 ls [])) : me_C l D tys y b n f lo mc ms w av post w' := by
  intro sz
  refine met_F (cc := b) (maxL := n) (ret := none) hpl rfl ?_
  intro p e s m args below meth c s₁ B hml hv
  obtain ⟨rfl, hsz, hP, hK, hD0, hZ⟩ := hv
  subst hsz
  have hD := hD0.self (sz := s.heap.size)
  rw [lg_entry_eq]
  exact body p e s m _ below meth c _ _ ⟨B.exec, B.bytes, hml, findClass_of_methodNamed B.named, atoms_spec (ws := wu_ y b n none) B.pre⟩ hK ⟨hP, hD, va_S.rf⟩ (fun q h => Or.inr h) (lv_entry av hfit) B.returns B.notSynchronized hZ ((name_of_methodNamed B.named B.method).1.trans hy)
section CTOR
variable {p : Program} {l : Launch} {e : Env} {R : Room} {s : State} {m : MethodId} {args : Array Value} {below : List Frame} {meth : Method} {c : Code} {H : Heap} {locs : List Loc} {cells slots : Nat} {Q : State → Prop}
variable {cc : ByteArray} {nL pc : Nat} {ls : Array Slot} {rest : List Value} {D : va_G} {A : Nat → Prop} {tys : List (ClassId × FieldType)} {ws : va_W} {own : String} {c0 : Cond}
theorem me_rc {S : Type} {b : ByteArray} {post : S → Prop} {w' : S → va_W} (u : S) (hp : post u) (hw : w' u = ws) (S0 : CallFix p m c b nL s args (c0 :: uw_) own) (hK : va_K D vwCl tys s) (Y : dy_ D A s ws H locs) (hr : meth.sig.returnType = none) (hlk : meth.locks = false) (hdg : decode b pc = .ok (.return_, 1)) :
    W p l e R s m args below meth c H locs cells slots (MQ below (me_Qc D tys A post w') args s cells slots A) (F0 m pc ls []) :=
  W.vret S0.1 S0.2.1 hr (fun t ht hW => ⟨⟨u, rfl, hp, by rw [ht, hw]; exact Y.1, va_K.moved hW.alike hK, by rw [hw]; exact Y.2.1⟩, Y.2.2.F ht⟩) Y.2.2.2.2 hdg hlk
theorem ioi (S : CallFix p m c cc nL s args (c0 :: uw_) own) {idx : Nat} (h1 : Cond.methodLink own idx Lib.objectInit ∈ uw_) (h2 : Cond.instanceMethod Lib.objectInit ∈ uw_) (h3 : Cond.code Lib.objectInit ⟨#[0xb1]⟩ 1 none ∈ uw_) (hl : ls.size = nL) (hm : (rest.map fun v => v.category).sum + 12 ≤ R.locals) (hf : 1 ≤ R.frames) {a : Nat} (hdg : decode cc pc = .ok (.invokespecial idx, 3))
    (kk : W p l e R s m args below meth c H locs cells slots Q (F0 m (pc + 3) ls rest)) : W p l e R s m args below meth c H locs cells slots Q (F0 m pc ls (.ref a :: rest)) :=
  W.objInit S.1 S.2.1 S.2.2.2.1 (S.2.2.2.2 _ (List.mem_cons_of_mem _ h1)) (S.2.2.2.2 _ (List.mem_cons_of_mem _ h2)) (S.2.2.2.2 _ (List.mem_cons_of_mem _ h3)) rfl (hl.trans S.2.2.1.symm) rfl hdg hf (by show 2 * 0 + _ + 12 ≤ _; omega) kk
theorem ty_eq {cA cI : ClassId} {ty : FieldType} (hp : ∀ C, ty ≠ .object C) (hK : va_K D vwCl tys s) {t0 : Nat} (ht : tys[t0]? = some (cI, ty)) (hK1 : va_K D vwCl (tys ++ [(cA, ty)]) s) : cA = cI := by
  have h1 := (hK.2 t0 _ ht).2
  have h2 := (hK1.2 tys.length (cA, ty) (by simp)).2
  cases ty with
  | object C => exact absurd rfl (hp C)
  | _ => exact Option.some.inj (h2.symm.trans h1)
theorem ty_eqo {cA cI : ClassId} {C : String} (hK : va_K D vwCl tys s) {t0 : Nat} (ht : tys[t0]? = some (cI, .object C)) (hK1 : va_K D vwCl (tys ++ [(cA, .object C)]) s) : cA = cI := by
  obtain ⟨_, _, _, _, _, h1⟩ := (hK.2 t0 _ ht).2
  obtain ⟨_, _, _, _, _, h2⟩ := (hK1.2 tys.length (cA, .object C) (by simp)).2
  exact Option.some.inj (h2.symm.trans h1)
theorem inwi (S : CallFix p m c cc nL s args (c0 :: uw_) own) (hK : va_K D vwCl tys s) (hA : ∀ q, s.heap.size ≤ q → A q) (Y : dy_ D A s ws H locs) {cI : ClassId} (t0 : Nat) (ht : tys[t0]? = some (cI, .int)) (harr : Cond.arrayClass .int ∈ uw_) {n : Int32} {N' : Nat} (hn : ¬ n < 0) (hN : n.toNatClampNeg = N') (hbytes : N' * 4 ≤ 536870912) (hcells : cells + 1 ≤ R.cells) (hslots : slots + N' ≤ R.slots) (hdg : decode cc pc = .ok (.newarray .int, 2))
    (kk : ∀ (q : Nat) (H1 : Heap), dy_ D A s (ws ++ [(q, .inl (cI, N', .inl (fun _ => 0)))]) H1 locs → W p l e R s m args below meth c H1 locs (cells + 1) (slots + N') Q (F0 m (pc + 2) ls (.ref q :: rest))) : W p l e R s m args below meth c H locs cells slots Q (F0 m pc ls (.int n :: rest)) := by
  refine va_newa (atype := .int) (ty := .int) S.1 S.2.1 (S.2.2.2.2 _ (List.mem_cons_of_mem _ harr)) rfl hK Y.1 Y.2.1 Y.2.2 hA (a0 := (N', .inl (fun _ => 0))) (fun cA => rfl) hn hN hbytes hcells hslots hdg (fun q cA H1 h1 h2 h3 h4 => ?_)
  have e := ty_eq (fun C h => by cases h) hK ht h1
  subst e
  exact kk q H1 ⟨h2, h3, h4⟩
theorem inwc (S : CallFix p m c cc nL s args (c0 :: uw_) own) (hK : va_K D vwCl tys s) (hA : ∀ q, s.heap.size ≤ q → A q) (Y : dy_ D A s ws H locs) {cI : ClassId} (t0 : Nat) (ht : tys[t0]? = some (cI, .char)) (harr : Cond.arrayClass .char ∈ uw_) {n : Int32} {N' : Nat} (hn : ¬ n < 0) (hN : n.toNatClampNeg = N') (hbytes : N' * 2 ≤ 536870912) (hcells : cells + 1 ≤ R.cells) (hslots : slots + N' ≤ R.slots) (hdg : decode cc pc = .ok (.newarray .char, 2))
    (kk : ∀ (q : Nat) (H1 : Heap), dy_ D A s (ws ++ [(q, .inl (cI, N', .inl (fun _ => 0)))]) H1 locs → W p l e R s m args below meth c H1 locs (cells + 1) (slots + N') Q (F0 m (pc + 2) ls (.ref q :: rest))) : W p l e R s m args below meth c H locs cells slots Q (F0 m pc ls (.int n :: rest)) := by
  refine va_newa (atype := .char) (ty := .char) S.1 S.2.1 (S.2.2.2.2 _ (List.mem_cons_of_mem _ harr)) rfl hK Y.1 Y.2.1 Y.2.2 hA (a0 := (N', .inl (fun _ => 0))) (fun cA => rfl) hn hN hbytes hcells hslots hdg (fun q cA H1 h1 h2 h3 h4 => ?_)
  have e := ty_eq (fun C h => by cases h) hK ht h1
  subst e
  exact kk q H1 ⟨h2, h3, h4⟩
theorem inwo (S : CallFix p m c cc nL s args (c0 :: uw_) own) (hK : va_K D vwCl tys s) (hA : ∀ q, s.heap.size ≤ q → A q) (hZ : zs_ A s) (Y : dy_ D A s ws H locs) {cS : ClassId} (t0 : Nat) (ht : tys[t0]? = some (cS, .object RX5)) {idx : Nat} (hcl : Cond.classLink own idx RX5 ∈ uw_) {n : Int32} {N' : Nat} (hn : ¬ n < 0) (hN : n.toNatClampNeg = N') (hbytes : N' * 4 ≤ 536870912) (hcells : cells + 1 ≤ R.cells) (hslots : slots + N' ≤ R.slots) (hdg : decode cc pc = .ok (.anewarray idx, 3))
    (kk : ∀ (q : Nat) (H1 : Heap), dy_ D A s (ws ++ [(q, .inl (cS, N', .inr (.inr (.inr (.inr (fun _ => none))))))]) H1 locs → W p l e R s m args below meth c H1 locs (cells + 1) (slots + N') Q (F0 m (pc + 3) ls (.ref q :: rest))) : W p l e R s m args below meth c H locs cells slots Q (F0 m pc ls (.int n :: rest)) := by
  refine va_newq S.1 S.2.1 S.2.2.2.1 (S.2.2.2.2 _ (List.mem_cons_of_mem _ hcl)) hZ.1 hK Y.1 Y.2.1 Y.2.2 hA hn hN hbytes hcells hslots hdg (fun q cA H1 h1 h2 h3 h4 => ?_)
  have e := ty_eqo hK ht h1
  subst e
  exact kk q H1 ⟨h2, h3, h4⟩
theorem ino (S : CallFix p m c cc nL s args (c0 :: uw_) own) (hK : va_K D vwCl tys s) (hA : ∀ q, s.heap.size ≤ q → A q) (Y : dy_ D A s ws H locs) {idx : Nat} {C : String} {T : u_T} {N ci : Nat} {ty0 : Nat → FieldType} (h1 : Cond.classLink own idx C ∈ uw_) (h2 : Cond.instantiable C N ∈ uw_) (h3 : Cond.initialized C ∈ uw_) (h4 : ∀ w ∈ u_ws C T N, w ∈ uw_) (G : fp_ T N ty0) (hc : vwCl[ci]? = some (C, T, N)) {fs : List Value} (hfs : (List.range N).all (fun j => decide (defaultValue (ty0 j) = vp_V fs j)) = true) (hcells : cells + 1 ≤ R.cells) (hslots : slots + N ≤ R.slots) (hdg : decode cc pc = .ok (.new idx, 3))
    (kk : ∀ (q : Nat) (H1 : Heap), dy_ D A s (ws ++ [(q, .inr (ci, fs))]) H1 locs → W p l e R s m args below meth c H1 locs (cells + 1) (slots + N) Q (F0 m (pc + 3) ls (.ref q :: rest))) : W p l e R s m args below meth c H locs cells slots Q (F0 m pc ls rest) :=
  va_new S.1 S.2.1 S.2.2.2.2 (fun w h => List.mem_cons_of_mem _ (h4 w h)) ty0 G.1 S.2.2.2.1 (S.2.2.2.2 _ (List.mem_cons_of_mem _ h1)) (S.2.2.2.2 _ (List.mem_cons_of_mem _ h2)) (S.2.2.2.2 _ (List.mem_cons_of_mem _ h3)) hK Y.1 Y.2.1 Y.2.2 hA hc (fun j hj => of_decide_eq_true (List.all_eq_true.mp hfs j (List.mem_range.mpr hj))) hcells hslots hdg (fun q H1 a b c => kk q H1 ⟨a, b, c⟩)
theorem ipF (S : CallFix p m c cc nL s args (c0 :: uw_) own) (hK : va_K D vwCl tys s) (Y : dy_ D A s ws H locs) (hin : meth.name = "<init>") {idx : Nat} {C : String} {T : u_T} {N ci k : Nat} (F : fl_ own idx C T N ci k) {ty0 : Nat → FieldType} (G : fp_ T N ty0) (hfin : (T k).2.2.2 = true) (hown : C = own) (q0 : Nat) {a : Nat} {fs : List Value} (he : ws[q0]? = some (a, .inr (ci, fs))) {v : Value} (hn : narrow (ty0 k) v = v) (hfit : fits (ty0 k) v = true) (hl : k < fs.length) {ws' : va_W} (hw : ws.set q0 (a, .inr (ci, fs.set k v)) = ws') (hdg : decode cc pc = .ok (.putfield idx, 3))
    (kk : ∀ (H1 : Heap) (locs1 : List Loc), dy_ D A s ws' H1 locs1 → W p l e R s m args below meth c H1 locs1 cells slots Q (F0 m (pc + 3) ls rest)) : W p l e R s m args below meth c H locs cells slots Q (F0 m pc ls (v :: .ref a :: rest)) := by
  subst hw
  exact va_putF (D := D) (T := T) (N := N) S.1 S.2.1 S.2.2.2.2 (fun w h => List.mem_cons_of_mem _ (F.1 w h)) ty0 G.1 G.2 S.2.2.2.1 hK Y.1 Y.2.1 Y.2.2 q0 he F.2.1 k F.2.2.1 (S.2.2.2.2 _ (List.mem_cons_of_mem _ F.2.2.2.1)) (fun x h => by rw [F.2.2.2.2] at h; exact h) hfin hin (F.2.2.2.2.trans hown) (G.1 k F.2.2.1) hn hfit hl hdg (fun H1 l1 h1 h2 h3 => kk H1 l1 ⟨h1, h2, h3⟩)
variable {y : MethodName} {b : ByteArray} {n kA : Nat} {f lo : Nat} {w w' : va_W} {As : List Value} {idx : Nat} {tys' : List (ClassId × FieldType)} {wr : va_W}
/-- a constructor's call -/
theorem cgi {S0 : Type} {post : S0 → Prop} {w1 : S0 → va_W} {mc ms a : Nat} {isC isR it : List Nat} (S : CallFix p m c cc nL s args (c0 :: uw_) own) (hK : va_K D vwCl tys s) (hA : ∀ q, s.heap.size ≤ q → A q) (hZ : zs_ A s) (Y : dy_ D A s ws H locs) (hl : ls.size = nL) (hM : me_C l D tys' y b n f lo mc ms w (.ref a :: As) post w1) (hC : isC.map (fun i => ws[i]?) = w.map some) (hRr : isR.map (fun i => ws[i]?) = wr.map some) (hnC : va_nd isC = true) (hnR : va_nd isR = true) (hdis : ∀ i ∈ isR, i ∉ isC) (hty : it.filterMap (fun i => tys[i]?) = tys') (k1 : Cond.methodLink own idx y ∈ uw_) (k2 : Cond.instanceMethod y ∈ uw_) (k3 : Cond.initialized y.cls ∈ uw_) (k4 : Cond.code y b n none ∈ uw_) (k5 : yd_ y kA) (k6 : y.name = "<init>") (hR : f + 1 ≤ R.frames ∧ 8 + (n + 11) + lo ≤ R.locals) {st : List Value} (hst : st = As.reverse ++ .ref a :: rest) (hn : As.length = kA) (hm : (rest.map fun v => v.category).sum ≤ 8) (hf : cells + mc ≤ R.cells ∧ slots + ms ≤ R.slots) (hdg : decode cc pc = .ok (.invokespecial idx, 3))
    (kk : ∀ (u : S0) (H1 : Heap) (locs1 : List Loc), post u → dy_ D A s (wr ++ w1 u) H1 locs1 → W p l e R s m args below meth c H1 locs1 (cells + mc) (slots + ms) Q (F0 m (pc + 3) ls rest)) : W p l e R s m args below meth c H locs cells slots Q (F0 m pc ls st) := by
  have hfr := va_free Y.2.1 Y.2.2 hA isC hC
  refine va_callv (va_runI (rest := rest) S (hM H.size) ⟨callB_of kA S.2.2.2.2 (uw_gi k4) rfl rfl rfl (S.2.2.2.2 _ (List.mem_cons_of_mem _ k3)) (S.2.2.2.2 _ (List.mem_cons_of_mem _ k1)) k5 hR, k6, S.2.2.2.2 _ (List.mem_cons_of_mem _ k2)⟩ ⟨me_bl D tys' w H.size _, fun U hU hW => ⟨rfl, by rw [hU], by rw [hU]; exact Y.1.sub isC (cg_f hC), va_K.moved hW.alike (hK.sub it hty), (Y.2.1.sub isC hnC hC).weaken (fun _ _ _ _ => trivial), zs_mv hZ hW hU Y.2.2 hfr⟩⟩ rfl hn hl hst (lv_room hm) hdg hf) Y.2.2 (fun q _ h => hfr q h) hfr (fun u t H1 locs1 ht hvm hw hB hz hk hS => ?_)
  obtain ⟨hP1, hK1, hD1⟩ := hB
  rw [ht] at hP1
  obtain ⟨g1, g2⟩ := va_join Y.1 Y.2.1 isC isR hC hRr hnR hdis hk hfr hP1 hD1
  exact kk u H1 locs1 hw ⟨g1, g2, hS⟩
/-- a static void call whose world is a part -/
theorem cg_sv {isC isR ps it : List Nat} {ws2 : va_W} (S : CallFix p m c cc nL s args (c0 :: uw_) own) (hK : va_K D vwCl tys s) (hA : ∀ q, s.heap.size ≤ q → A q) (hZ : zs_ A s) (Y : dy_ D A s ws H locs) (hl : ls.size = nL) (hM : me_V l D tys' y b n f lo w As w') (hC : isC.map (fun i => ws[i]?) = w.map some) (hRr : isR.map (fun i => ws[i]?) = wr.map some) (hnC : va_nd isC = true) (hnR : va_nd isR = true) (hdis : ∀ i ∈ isR, i ∉ isC) (hps : ps.map (fun i => (wr ++ w')[i]?) = ws2.map some) (hnp : va_nd ps = true) (hty : it.filterMap (fun i => tys[i]?) = tys') (K : cs_ own idx y b n none kA) (hR : f + 1 ≤ R.frames ∧ 8 + (n + 11) + lo ≤ R.locals) {st : List Value} (hst : st = As.reverse ++ rest) (hn : As.length = kA) (hm : (rest.map fun v => v.category).sum ≤ 8) (hf : cells ≤ R.cells ∧ slots ≤ R.slots) (hdg : decode cc pc = .ok (.invokestatic idx, 3))
    (kk : ∀ (H1 : Heap) (locs1 : List Loc), dy_ D A s ws2 H1 locs1 → W p l e R s m args below meth c H1 locs1 cells slots Q (F0 m (pc + 3) ls rest)) : W p l e R s m args below meth c H locs cells slots Q (F0 m pc ls st) := by
  obtain ⟨k1, k2, k3, k4, k5⟩ := K
  have hfr := va_free Y.2.1 Y.2.2 hA isC hC
  refine va_callv (va_runS (rest := rest) S (hM H.size) ⟨cb_ S k1 k3 k4 k5 hR, S.2.2.2.2 _ (List.mem_cons_of_mem _ k2)⟩ ⟨me_bl D tys' w H.size As, fun U hU hW => ⟨rfl, by rw [hU], by rw [hU]; exact Y.1.sub isC (cg_f hC), va_K.moved hW.alike (hK.sub it hty), (Y.2.1.sub isC hnC hC).weaken (fun _ _ _ _ => trivial), zs_mv hZ hW hU Y.2.2 hfr⟩⟩ rfl hn hl hst (lv_room hm) hdg hf) Y.2.2 (fun q _ h => hfr q h) hfr (fun u t H1 locs1 ht hvm hw hB hz hk hS => ?_)
  obtain ⟨hP1, hK1, hD1⟩ := hB
  rw [ht] at hP1
  exact kk H1 locs1 (cg_j hA Y hC hRr hnR hdis hps hnp hk hP1 hD1 hS)
end CTOR
