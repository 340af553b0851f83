def gO0 : sg_T := fun _ _ => 0
set_option maxRecDepth 100000 in
set_option maxHeartbeats 4000000 in
/-- from the law's entry, if its turns are as asked -/
theorem ws_ {p : Program} {e : Env} {s : State} {m : MethodId} {below : List Frame} {meth : Method} {c : Code} (l : Launch) {b L : Nat} {xs : Nat → Int32} {rel : Nat → s3_T → (Nat → Nat) → sg_T → Prop} (hR : turn_ rel) {Ω1 : sg_T} (h1 : bL_law_30 gL0 pi0 gO0 = some Ω1) (h0 : rel 0 gL0 pi0 Ω1) (hL : L ≤ 260) (C0 : lw_At p s m meth c b L xs) : W p l e room_1 s m #[Value.ref b] below meth c s.heap [] 0 0 (lw_Z below #[Value.ref b] s) (entryFrame m ([Value.ref b] : List Value).toArray 18) := by
  obtain ⟨hx, hb, hr, hml, hown, htl, hX, hbl, hlocks, hgv⟩ := C0
  have hgs := flat_of_before _ hgv
  have hA : ∀ q : Nat, s.heap.size ≤ q → (fun q : Nat => s.heap.size ≤ q) q := fun _ h => h
  have hu : ∀ w ∈ (Cond.tt :: uw_), w.before #[Value.ref b] s = true := fun w hw => by
    rcases List.mem_cons.mp hw with rfl | hw
    · rfl
    · exact htl w (List.mem_filter.mp hw).1
  have S : CallFix p m c code 18 s #[Value.ref b] (Cond.tt :: uw_) RL := ⟨hx, hb, hml, hown, hu⟩
  obtain ⟨t0, hv0, hT0⟩ := va_Tof (tm := (.static "SeekLeague" "LOWEST_SETTING" "[I")) (ty := .int) (N := 4) (f := fun j => .int (zs_f 0 j)) (A := fun q : Nat => s.heap.size ≤ q) (by decide) (hgs (Cond.arrayOf (.static "SeekLeague" "LOWEST_SETTING" "[I") .int) (by decide +kernel)) (va_eqt (hgs (Cond.eq (.length (.static "SeekLeague" "LOWEST_SETTING" "[I")) (.int 4)) (by decide +kernel))) (fun j hj => by
    rcases (show j = 0 ∨ j = 1 ∨ j = 2 ∨ j = 3 by omega) with rfl | rfl | rfl | rfl
    · exact va_eqt (hgs (Cond.eq (.elem (.static "SeekLeague" "LOWEST_SETTING" "[I") (.int 0)) (.int 0)) (by decide +kernel))
    · exact va_eqt (hgs (Cond.eq (.elem (.static "SeekLeague" "LOWEST_SETTING" "[I") (.int 1)) (.int 1)) (by decide +kernel))
    · exact va_eqt (hgs (Cond.eq (.elem (.static "SeekLeague" "LOWEST_SETTING" "[I") (.int 2)) (.int 0)) (by decide +kernel))
    · exact va_eqt (hgs (Cond.eq (.elem (.static "SeekLeague" "LOWEST_SETTING" "[I") (.int 3)) (.int 1)) (by decide +kernel))) (fun a ha q => absurd q (Nat.not_le.mpr ha))
  have hZ0 : va_Z "SeekLeague" "LOWEST_SETTING" "[I" (.ref t0) (fun q : Nat => s.heap.size ≤ q) s s.heap := va_Zof (htl (Cond.laysStatic "SeekLeague" "LOWEST_SETTING" "[I") (List.mem_of_getElem? (i := 189) rfl)) (htl (Cond.initialized "SeekLeague") (List.mem_of_getElem? (i := 2) rfl)) hv0 (fun a ha q => absurd q (Nat.not_le.mpr ha))
  obtain ⟨t1, hv1, hT1⟩ := va_Tof (tm := (.static "SeekLeague" "HIGHEST_SETTING" "[I")) (ty := .int) (N := 4) (f := fun j => .int (zs_f 1 j)) (A := fun q : Nat => s.heap.size ≤ q) (by decide) (hgs (Cond.arrayOf (.static "SeekLeague" "HIGHEST_SETTING" "[I") .int) (by decide +kernel)) (va_eqt (hgs (Cond.eq (.length (.static "SeekLeague" "HIGHEST_SETTING" "[I")) (.int 4)) (by decide +kernel))) (fun j hj => by
    rcases (show j = 0 ∨ j = 1 ∨ j = 2 ∨ j = 3 by omega) with rfl | rfl | rfl | rfl
    · exact va_eqt (hgs (Cond.eq (.elem (.static "SeekLeague" "HIGHEST_SETTING" "[I") (.int 0)) (.int 3)) (by decide +kernel))
    · exact va_eqt (hgs (Cond.eq (.elem (.static "SeekLeague" "HIGHEST_SETTING" "[I") (.int 1)) (.int 9)) (by decide +kernel))
    · exact va_eqt (hgs (Cond.eq (.elem (.static "SeekLeague" "HIGHEST_SETTING" "[I") (.int 2)) (.int 9)) (by decide +kernel))
    · exact va_eqt (hgs (Cond.eq (.elem (.static "SeekLeague" "HIGHEST_SETTING" "[I") (.int 3)) (.int 9)) (by decide +kernel))) (fun a ha q => absurd q (Nat.not_le.mpr ha))
  have hZ1 : va_Z "SeekLeague" "HIGHEST_SETTING" "[I" (.ref t1) (fun q : Nat => s.heap.size ≤ q) s s.heap := va_Zof (htl (Cond.laysStatic "SeekLeague" "HIGHEST_SETTING" "[I") (List.mem_of_getElem? (i := 191) rfl)) (htl (Cond.initialized "SeekLeague") (List.mem_of_getElem? (i := 2) rfl)) hv1 (fun a ha q => absurd q (Nat.not_le.mpr ha))
  have hAO : va_AO RX5 s := va_AO.of (htl (Cond.arrayOver (.object RX5)) (List.mem_of_getElem? (i := 129) rfl))
  have hZ : zs_ (fun q : Nat => s.heap.size ≤ q) s := ⟨hAO, va_Nw.of rfl (htl _ (List.mem_of_getElem? (i := 188) rfl)), va_Nw.of rfl (htl _ (List.mem_of_getElem? (i := 190) rfl)), t0, t1, hZ0, hT0, hZ1, hT1⟩
  obtain ⟨k0, j0, hk0⟩ := u_known (C := RX1) (T := TX1) (N := 2) (n := 2) hu (fun w h => List.mem_cons_of_mem _ (iuX1 w h)) (htl (.instantiable RX1 2) (List.mem_of_getElem? (i := 139) rfl))
  obtain ⟨k1, j1, hk1⟩ := u_known (C := RX3) (T := TX3) (N := 2) (n := 2) hu (fun w h => List.mem_cons_of_mem _ (iuX3 w h)) (htl (.instantiable RX3 2) (List.mem_of_getElem? (i := 123) rfl))
  obtain ⟨k2, j2, hk2⟩ := u_known (C := RX5) (T := TX5) (N := 16) (n := 16) hu (fun w h => List.mem_cons_of_mem _ (iuX5 w h)) (htl (.instantiable RX5 16) (List.mem_of_getElem? (i := 23) rfl))
  obtain ⟨k3, j3, hk3⟩ := u_known (C := RX7) (T := TX7) (N := 5) (n := 5) hu (fun w h => List.mem_cons_of_mem _ (iuX7 w h)) (htl (.instantiable RX7 5) (List.mem_of_getElem? (i := 15) rfl))
  obtain ⟨D, hKc⟩ : ∃ D : va_G, ∀ (k : Nat) (q : vw_C), vwCl[k]? = some q → u_Kn s q.1 q.2.1 q.2.2 (D.1 k) (D.2 k) := by
    refine ⟨(fun k => [k0, k1, k2, k3].getD k k0, fun k => [j0, j1, j2, j3].getD k j0), ?_⟩
    intro k q hq
    match k, hq with
    | 0, hq => cases hq; exact hk0
    | 1, hq => cases hq; exact hk1
    | 2, hq => cases hq; exact hk2
    | 3, hq => cases hq; exact hk3
    | k + 4, hq => simp [vwCl] at hq
  obtain ⟨cI, kI, pI, f1, f2, f3⟩ := Cond.arrayClass_spec (htl (.arrayClass .int) (List.mem_of_getElem? (i := 121) rfl))
  obtain ⟨pS, cS, kS, s1, s2, s3, s4, s5⟩ := Cond.arrayOver_spec (va_AO.use (A := #[Value.ref b]) hAO)
  have hK : va_K D vwCl (tL cI cS) s := by
    refine ⟨hKc, ?_⟩
    intro k q hq
    match k, hq with
    | 0, hq => cases hq; exact ⟨fun n z => ⟨fun k h => (by cases h), kI, f2, pI, f3⟩, f1⟩
    | 1, hq => cases hq; exact ⟨fun n z => ⟨fun k h => (by cases h), kS, s3, pS, s4⟩, kS, pS, s3, s4, s1, s5⟩
    | k + 2, hq => simp [tL] at hq
  have Y : dy_ D (fun q : Nat => s.heap.size ≤ q) s [] s.heap [] := ⟨fun k q h => by simp at h, ⟨fun i j p q h => by simp at h, fun k q h => by simp at h⟩, va_S.rf⟩
  have hl := lv_entry ([.ref b]) (n := 18) (Nat.le_of_ble_eq_true rfl)
  rw [lg_entry_eq]
  generalize (lg_sl ([.ref b]) ++ List.replicate (18 - (lg_sl ([.ref b])).length) Slot.unset).toArray = ls at hl ⊢
  have hl : lv_has ls 18 [(0, .ref b)] := hl
  refine ino S hK hA Y (C := RX7) (T := TX7) (N := 5) (ci := 3) (fs := [.null, .null, .null, .null, .int 0]) (uw_in 14 rfl rfl) (uw_in 15 rfl rfl) (uw_in 2 rfl rfl) iuX7 fpX7 rfl (by decide +kernel) (Nat.le_of_ble_eq_true rfl) (Nat.le_of_ble_eq_true rfl) dL_law_0 (fun q1 H Y => ?_)
  refine lv_dup hx hb dL_law_3 rfl ?_
  refine cgi (isC := [0]) (isR := []) (it := [0, 1]) (wr := []) (As := []) (rest := [.ref q1]) S hK hA hZ Y hl.1 (mX7_init l D cI cS q1) rfl rfl rfl (by decide +kernel) (by decide +kernel) rfl (uw_in 16 rfl rfl) (uw_in 17 rfl rfl) (uw_in 2 rfl rfl) (uw_in 18 rfl rfl) ⟨by decide, by decide, by decide +kernel⟩ rfl ⟨Nat.le_of_ble_eq_true rfl, Nat.le_of_ble_eq_true rfl⟩ rfl rfl (Nat.le_of_ble_eq_true rfl) ⟨Nat.le_of_ble_eq_true rfl, Nat.le_of_ble_eq_true rfl⟩ dL_law_4 (fun h H locs hp Yn => ?_)
  subst hp
  have Y : dy_ D (fun q : Nat => s.heap.size ≤ q) s (wL cI cS h gL0 pi0) H locs := Yn
  refine lv_astore_n (lv' := [(1, .ref (h 8 0)), (0, .ref b)]) hx hb dL_law_7 rfl hl (Nat.le_of_ble_eq_true rfl) rfl (fun ls hl => ?_)
  refine lv_bipush (v := (48 : Int32)) hx hb dL_law_8 (by decide) ?_
  refine inwi S hK hA Y 0 rfl (uw_in 121 rfl rfl) (N' := 48) (by decide) (by decide) (Nat.le_of_ble_eq_true rfl) (Nat.le_of_ble_eq_true rfl) (Nat.le_of_ble_eq_true rfl) dL_law_10 (fun a1 H Y => ?_)
  refine lv_astore_n (lv' := [(2, .ref a1), (1, .ref (h 8 0)), (0, .ref b)]) hx hb dL_law_12 rfl hl (Nat.le_of_ble_eq_true rfl) rfl (fun ls hl => ?_)
  refine lv_bipush (v := (16 : Int32)) hx hb dL_law_13 (by decide) ?_
  refine inwi S hK hA Y 0 rfl (uw_in 121 rfl rfl) (N' := 16) (by decide) (by decide) (Nat.le_of_ble_eq_true rfl) (Nat.le_of_ble_eq_true rfl) (Nat.le_of_ble_eq_true rfl) dL_law_15 (fun a2 H Y => ?_)
  refine lv_astore_n (lv' := [(3, .ref a2), (2, .ref a1), (1, .ref (h 8 0)), (0, .ref b)]) hx hb dL_law_17 rfl hl (Nat.le_of_ble_eq_true rfl) rfl (fun ls hl => ?_)
  refine lv_bipush (v := (32 : Int32)) hx hb dL_law_18 (by decide) ?_
  refine inwi S hK hA Y 0 rfl (uw_in 121 rfl rfl) (N' := 32) (by decide) (by decide) (Nat.le_of_ble_eq_true rfl) (Nat.le_of_ble_eq_true rfl) (Nat.le_of_ble_eq_true rfl) dL_law_20 (fun a3 H Y => ?_)
  refine lv_astore (lv' := [(4, .ref a3), (3, .ref a2), (2, .ref a1), (1, .ref (h 8 0)), (0, .ref b)]) hx hb dL_law_22 hl (Nat.le_of_ble_eq_true rfl) rfl (fun ls hl => ?_)
  refine lv_bipush (v := (11 : Int32)) hx hb dL_law_24 (by decide) ?_
  refine inwi S hK hA Y 0 rfl (uw_in 121 rfl rfl) (N' := 11) (by decide) (by decide) (Nat.le_of_ble_eq_true rfl) (Nat.le_of_ble_eq_true rfl) (Nat.le_of_ble_eq_true rfl) dL_law_26 (fun a4 H Y => ?_)
  refine lv_astore (lv' := [(5, .ref a4), (4, .ref a3), (3, .ref a2), (2, .ref a1), (1, .ref (h 8 0)), (0, .ref b)]) hx hb dL_law_28 hl (Nat.le_of_ble_eq_true rfl) rfl (fun ls hl => ?_)
  obtain ⟨g, hg⟩ : ∃ g : Nat → Nat, g = fun j => match j with | 1 => a1 | 2 => a2 | 3 => a3 | _ => a4 := ⟨_, rfl⟩
  have g1 : a1 = g 1 := by subst hg; rfl
  have g2 : a2 = g 2 := by subst hg; rfl
  have g3 : a3 = g 3 := by subst hg; rfl
  have g4 : a4 = g 4 := by subst hg; rfl
  rw [g1, g2, g3, g4] at Y
  rw [g1, g2, g3, g4] at hl
  have Y : dy_ D (fun q : Nat => s.heap.size ≤ q) s (wB cI cS h g gL0 pi0 gO0) H _ := Y
  refine kL_law_30 S hK hA hZ gL0 pi0 gO0 Ω1 h1 (fun H locs ls Y hl => ?_) _ _ _ Y (lv_sub hl [5, 4, 3, 2, 1, 0] rfl)
  exact law_loop hR hL S hr hlocks hK hZ hX hbl 80 0 rfl gL0 pi0 Ω1 h0 _ _ _ Y hl
