/-! THE CLAIM OUT OF ONE WALK OF THE LAW'S BODY. Your part is whole_start (and what it stands on); all else here is the same for every law, but numbers. -/
def R_law : String := "SeekLeagueLaw"
def lw_P (b : Addr) (xs : List Int32) (args : Array Value) (s : State) : Prop := args = #[.ref b] ∧ s.IntsAt b xs ∧ xs.length ≤ 260 ∧ (Jvm.Cond.and given_1 narrow_1).before args s = true
def lw_Q (_ : Array Value) (s : State) (o : Outcome) (t : State) : Prop := o = .returned (some (.int 1)) ∧ Framed s o t [] 600000 7302249
def lw_Z (below : List Frame) (a : Array Value) (s : State) : State → Prop := fun t => ∃ o, t.status = .running ∧ Ended t below o ∧ lw_Q a s o t
/-- the law's own end, with 1 on the stack, nothing written that was there before, its room as the claim has it -/
theorem lw_ret {p : Program} {l : Launch} {e : Env} {s : State} {m : MethodId} {below : List Frame} {meth : Method} {c : Code} {b : Nat} (hx : p.tables.exec = Jvm.exec) (hb : c.code = code) (hr : meth.sig.returnType = ret) (hlocks : meth.locks = false) {pc : Nat} {H : Heap} {ls : Array Slot} (hdg : decode code pc = .ok (.ireturn, 1)) : W p l e room_1 s m #[Value.ref b] below meth c H [] 600000 7302249 (lw_Z below #[Value.ref b] s) (F0 m pc ls [.int 1]) := by
  intro T hT X
  obtain ⟨fs, hret, hrun, hended, hW, hframe⟩ := X.leave (v := some (.int 1)) (hlocks := hlocks) (fun h => by rw [hr] at h; cases h)
  have hmeth' : T.vm.method? m = some meth := X.method'
  refine ⟨T.setFrames fs, ?_, .returned (some (.int 1)), hrun, hended, rfl, ⟨_, rfl⟩, hW, hframe⟩
  jvm_step X.here [X.here.top, hx, hb, hdg, hmeth', hr, ret, narrow_b1]
  (try refine ⟨rfl, ?_⟩); (try refine ⟨rfl, ?_⟩)
  first | (intro acts; rw [hret _ acts rfl rfl rfl]) | rw [hret _ _ rfl rfl rfl]
  exact Steps.refl _
/-- what holds at the law's entry: the machine, the code, the tables' words (any of lw_tbl by 'hts w (by decide +kernel)'), the script of L ints xs at the cell b, what the Statement gives of the start (any of its parts by flat_of_before) -/
def lw_At (p : Program) (s : State) (m : MethodId) (meth : Method) (c : Code) (b L : Nat) (xs : Nat → Int32) : Prop :=
  p.tables.exec = Jvm.exec ∧ c.code = code ∧ meth.sig.returnType = ret ∧ c.maxLocals = 18 ∧ s.vm.findClass R_law = some m.cls ∧ (∀ w ∈ lw_tbl, w.before #[Value.ref b] s = true) ∧ va_X b L xs s s.heap ∧ b < s.heap.size ∧ meth.locks = false ∧ (Jvm.Cond.and given_1 narrow_1).before #[Value.ref b] s = true
set_option maxRecDepth 20000 in
theorem kL_71 : cs_ RL 71 yL_cell cL_cell 2 (some .int) 2 := ⟨uw_in 359 rfl rfl, uw_in 360 rfl rfl, uw_in 1 rfl rfl, uw_in 361 rfl rfl, ⟨by decide, by decide, by decide +kernel⟩⟩
/-- a cell of the script -/
def cel_ (L : Nat) (xs : Nat → Int32) (k : Nat) : Int32 := if Int32.ofNat L ≤ nI k then (32452867 : Int32) * nI k + (15485863 : Int32) else xs (nI k).toNatClampNeg
theorem cel_in {L k : Nat} (hk : k < 80) (hL : L ≤ 260) (h : ¬ Int32.ofNat L ≤ nI k) : vp_in (nI k) L := by
  have h : ¬ nI L ≤ nI k := h
  rw [nI_leI (by omega) (by omega)] at h
  exact vp_in_nI (by omega) (by omega)
def ce_P (b L : Nat) (xs : Nat → Int32) (k sz : Nat) : Array Value → State → Prop := va_Pc [.ref b, .int (nI k)] (fun U => U.heap.size = sz ∧ b < sz ∧ va_X b L xs U U.heap)
def ce_Q (L : Nat) (xs : Nat → Int32) (k sz : Nat) : Array Value → State → Outcome → State → Prop := va_Qi (fun r' (_ : Unit) => r' = cel_ L xs k) (fun _ _ => True) (fun q : Nat => sz ≤ q)
theorem ce_bl (b L : Nat) (xs : Nat → Int32) (k sz : Nat) : FrameBlind (ce_P b L xs k sz) := fun a U g mk q => by
  obtain ⟨q0, q1, q2, q3⟩ := q
  exact ⟨q0, q1, q2, va_X.moved (u := U) (U := U.calling g mk a) (Vm.Alike.refl U.vm) q3⟩
set_option maxRecDepth 100000 in
set_option maxHeartbeats 4000000 in
theorem mL_cell (l : Launch) (b L : Nat) (xs : Nat → Int32) {k : Nat} (hk : k < 80) (hL : L ≤ 260) : ∀ sz, Met l yL_cell (wu_ yL_cell cL_cell 2 (some .int)) (rm_ 0 0) (ce_P b L xs k sz) (ce_Q L xs k sz) 0 0 (fun q : Nat => sz ≤ q) := by
  intro sz
  refine met_F (cc := cL_cell) (maxL := 2) (ret := some .int) (plainFor_of_name (by decide)) rfl ?_
  intro p e s m args below meth c s₁ B hml hv
  obtain ⟨rfl, hsz, hbl, hX⟩ := hv
  subst hsz
  rw [lg_entry_eq]
  have S : CallFix p m c cL_cell 2 s ([Value.ref b, Value.int (nI k)] : List Value).toArray (wu_ yL_cell cL_cell 2 (some .int)) yL_cell.cls := ⟨B.exec, B.bytes, hml, findClass_of_methodNamed B.named, atoms_spec (ws := wu_ yL_cell cL_cell 2 (some .int)) B.pre⟩
  have hx := S.1
  have hb := S.2.1
  have hr := B.returns
  have hlk := B.notSynchronized
  have hl := lv_entry ([Value.ref b, Value.int (nI k)]) (n := 2) (Nat.le_of_ble_eq_true rfl)
  generalize (lg_sl ([Value.ref b, Value.int (nI k)]) ++ List.replicate (2 - (lg_sl ([Value.ref b, Value.int (nI k)])).length) Slot.unset).toArray = ls at hl ⊢
  have hl : lv_has ls 2 [(0, .ref b), (1, .int (nI k))] := hl
  have hbA : ¬ (fun q : Nat => s.heap.size ≤ q) b := Nat.not_le.mpr hbl
  have Y : va_S (fun q : Nat => s.heap.size ≤ q) s.heap s.heap [] := va_S.rf
  refine lv_iload_n hx hb dL_cell_0 rfl (lv_at hl 1 rfl) ?_
  refine lv_aload_n hx hb dL_cell_1 rfl (lv_at hl 0 rfl) ?_
  refine va_slen hx hb hX hbl hbA Y dL_cell_2 ?_
  refine lv_icmp_ge (tgt := 12) hx hb dL_cell_3 (by decide) (fun c1 => ?_) (fun c1 => ?_)
  · refine lv_ldc (v := (32452867 : Int32)) hx hb S.2.2.2.1 (S.2.2.2.2 _ (List.mem_cons_of_mem _ (uw_in 362 rfl rfl))) dL_cell_12 ?_
    refine lv_iload_n hx hb dL_cell_14 rfl (lv_at hl 1 rfl) ?_
    refine lv_imul hx hb dL_cell_15 ?_
    refine lv_ldc (v := (15485863 : Int32)) hx hb S.2.2.2.1 (S.2.2.2.2 _ (List.mem_cons_of_mem _ (uw_in 363 rfl rfl))) dL_cell_16 ?_
    refine lv_iadd hx hb dL_cell_18 ?_
    exact W.zret hx hb hr rfl (fun t ht hW => ⟨⟨_, (), rfl, (if_pos c1).symm, trivial⟩, Y.F ht⟩) Y.2.2 dL_cell_19 hlk
  · refine lv_aload_n hx hb dL_cell_6 rfl (lv_at hl 0 rfl) ?_
    refine lv_iload_n hx hb dL_cell_7 rfl (lv_at hl 1 rfl) ?_
    refine va_sld hx hb hX hbl hbA Y (cel_in hk hL c1) dL_cell_8 ?_
    refine lv_goto (tgt := 19) hx hb dL_cell_9 (by decide) ?_
    exact W.zret hx hb hr rfl (fun t ht hW => ⟨⟨_, (), rfl, (if_neg c1).symm, trivial⟩, Y.F ht⟩) Y.2.2 dL_cell_19 hlk
/-- what the law asks of its turns -/
def turn_ (rel : Nat → s3_T → (Nat → Nat) → sg_T → Prop) : Prop := ∀ (k : Nat) (c : Int32) (Λ : s3_T) (π : Nat → Nat) (Ω : sg_T), k < 80 → rel k Λ π Ω → ∃ (Λ' : s3_T) (π' : Nat → Nat) (Ω' : sg_T), bL_law_94 (nI k) c Λ π Ω = some (Λ', π', Ω') ∧ rel (k + 1) Λ' π' Ω'
set_option maxRecDepth 100000 in
set_option maxHeartbeats 4000000 in
/-- the law's loop -/
theorem law_loop {p : Program} {l : Launch} {e : Env} {s : State} {m : MethodId} {below : List Frame} {meth : Method} {c : Code} {D : va_G} {cI cS : ClassId} {b L : Nat} {xs : Nat → Int32} {h : Nat → Nat → Nat} {g : Nat → Nat} {rel : Nat → s3_T → (Nat → Nat) → sg_T → Prop} (hR : turn_ rel) (hL : L ≤ 260) (S : CallFix p m c code 18 s #[Value.ref b] (Cond.tt :: uw_) RL) (hr : meth.sig.returnType = ret) (hlocks : meth.locks = false) (hK : va_K D vwCl (tL cI cS) s) (hZ : zs_ (fun q : Nat => s.heap.size ≤ q) s) (hX : va_X b L xs s s.heap) (hbl : b < s.heap.size) :
    ∀ (n k : Nat), k + n = 80 → ∀ (Λ : s3_T) (π : Nat → Nat) (Ω : sg_T), rel k Λ π Ω → ∀ (H : Heap) (locs : List Loc) (ls : Array Slot), dy_ D (fun q : Nat => s.heap.size ≤ q) s (wB cI cS h g Λ π Ω) H locs → lv_has ls 18 [(0, .ref b), (1, .ref (h 8 0)), (2, .ref (g 1)), (3, .ref (g 2)), (4, .ref (g 3)), (5, .ref (g 4)), (6, .int (nI k))] → W p l e room_1 s m #[Value.ref b] below meth c H locs 89 982 (lw_Z below #[Value.ref b] s) (F0 m 79 ls []) := by
  have hx := S.1
  have hb := S.2.1
  have hA : ∀ q : Nat, s.heap.size ≤ q → (fun q : Nat => s.heap.size ≤ q) q := fun _ h => h
  have hbA : ¬ (fun q : Nat => s.heap.size ≤ q) b := Nat.not_le.mpr hbl
  intro n
  induction n with
  | zero =>
    intro k hk Λ π Ω hrel H locs ls Y hl
    have hk : k = 80 := by omega
    subst hk
    refine lv_iload hx hb dL_law_79 (lv_at hl 6 rfl) ?_
    refine lv_bipush (v := (80 : Int32)) hx hb dL_law_81 (by decide) ?_
    refine lv_icmp_ge (tgt := 1399) hx hb dL_law_83 (by decide) (fun _ => ?_) (fun q1 => absurd (show (80 : Int32) ≤ nI 80 by decide) q1)
    refine lv_iconst (v := (1 : Int32)) hx hb dL_law_1399 (by decide) ?_
    refine va_forget (fun q hq => Y.2.2.2.2 q hq) ?_
    refine W.widen (k := 600000) (n := 7302249) (Nat.le_of_ble_eq_true rfl) (Nat.le_of_ble_eq_true rfl) ?_
    exact lw_ret hx hb hr hlocks dL_law_1400
  | succ n ih =>
    intro k hk Λ π Ω hrel H locs ls Y hl
    have hk8 : k < 80 := by omega
    refine lv_iload hx hb dL_law_79 (lv_at hl 6 rfl) ?_
    refine lv_bipush (v := (80 : Int32)) hx hb dL_law_81 (by decide) ?_
    refine lv_icmp_ge (tgt := 1399) hx hb dL_law_83 (by decide) (fun q1 => absurd q1 (by rw [show (80 : Int32) = nI 80 from rfl, nI_leI (by decide) (by omega)]; omega)) (fun _ => ?_)
    refine lv_aload_n hx hb dL_law_86 rfl (lv_at hl 0 rfl) ?_
    refine lv_iload hx hb dL_law_87 (lv_at hl 6 rfl) ?_
    obtain ⟨k1, k2, k3, k4, k5⟩ := kL_71
    refine va_calli (va_runS (rest := []) (As := [.ref b, .int (nI k)]) S (mL_cell l b L xs hk8 hL H.size) ⟨cb_ S k1 k3 k4 k5 ⟨Nat.le_of_ble_eq_true rfl, Nat.le_of_ble_eq_true rfl⟩, S.2.2.2.2 _ (List.mem_cons_of_mem _ k2)⟩ ⟨ce_bl b L xs k H.size, fun U hU hW => ⟨rfl, by rw [hU], Nat.lt_of_lt_of_le hbl Y.2.2.1, by rw [hU]; exact (hX.kept (Y.2.2.2.1 b hbl hbA)).moved hW.alike⟩⟩ rfl rfl hl.1 rfl (lv_room (Nat.le_of_ble_eq_true rfl)) dL_law_89 ⟨Nat.le_of_ble_eq_true rfl, Nat.le_of_ble_eq_true rfl⟩) Y.2.2 (fun q _ (h : H.size ≤ q) => Nat.le_trans Y.2.2.1 h) (fun q (h : H.size ≤ q) => Nat.le_trans Y.2.2.1 h) (fun r1 u t H1 locs1 ht hvm hw hB hz hk hS => ?_)
    have Y : dy_ D (fun q : Nat => s.heap.size ≤ q) s (wB cI cS h g Λ π Ω) H1 locs1 := ⟨Y.1.kept (fun k q h => hk q.1 (Y.1 k q h).lt (Nat.not_le.mpr (Y.1 k q h).lt)), Y.2.1, hS⟩
    refine lv_istore (lv' := [(7, .int r1), (0, .ref b), (1, .ref (h 8 0)), (2, .ref (g 1)), (3, .ref (g 2)), (4, .ref (g 3)), (5, .ref (g 4)), (6, .int (nI k))]) hx hb dL_law_92 hl (Nat.le_of_ble_eq_true rfl) rfl (fun ls hl => ?_)
    obtain ⟨Λ', π', Ω', e1, e2⟩ := hR k r1 Λ π Ω hk8 hrel
    refine kL_law_94 S hK hA hZ (nI k) r1 Λ π Ω (Λ', π', Ω') e1 (fun H locs ls Y hl => ?_) _ _ _ Y (lv_sub hl [1, 2, 3, 4, 5, 6, 7, 0] rfl)
    refine lv_iinc (v := nI (k + 1)) (lv' := [(6, .int (nI (k + 1))), (0, .ref b), (1, .ref (h 8 0)), (2, .ref (g 1)), (3, .ref (g 2)), (4, .ref (g 3)), (5, .ref (g 4))]) hx hb dL_law_1393 hl (k := 6) rfl (nI_1 k) (Nat.le_of_ble_eq_true rfl) rfl (fun ls hl => ?_)
    refine lv_goto (tgt := 79) hx hb dL_law_1396 (by decide) ?_
    exact ih (k + 1) (by omega) Λ' π' Ω' e2 _ _ _ Y (lv_sub hl [1, 2, 3, 4, 5, 6, 0] rfl)
