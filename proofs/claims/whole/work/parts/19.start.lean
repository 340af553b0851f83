set_option maxRecDepth 100000 in
set_option maxHeartbeats 4000000 in
/-- from the law's entry, if the functions are as asked -/
theorem ws_ {p : Program} {e : Env} {s : State} {m : MethodId} {below : List Frame} {meth : Method} {c : Code} (l : Launch) {b L : Nat} {xs : Nat → Int32} {rel : Nat → s3_T → (Nat → Nat) → sg_T → Prop} (hR : ops_ rel) (h0 : rel 0 gL0 pi0 gM0) (hL : L ≤ 1536) (C0 : lw_At p s m meth c b L xs) : W p l e room_1 s m #[Value.ref b] below meth c s.heap [] 0 0 (lw_Z below #[Value.ref b] s) (entryFrame m ([Value.ref b] : List Value).toArray 4) := by
  obtain ⟨hx, hb, hr, hml, hown, htl, hX, hbl, hlocks, hgv⟩ := C0
  have hgs := flat_of_before _ hgv
  have hA : ∀ q : Nat, s.heap.size ≤ q → (fun q : Nat => s.heap.size ≤ q) q := fun _ h => h
  have hu : ∀ w ∈ (Cond.tt :: uw_), w.before #[Value.ref b] s = true := fun w hw => by
    rcases List.mem_cons.mp hw with rfl | hw
    · rfl
    · exact htl w (List.mem_filter.mp hw).1
  have S : CallFix p m c code 4 s #[Value.ref b] (Cond.tt :: uw_) RL := ⟨hx, hb, hml, hown, hu⟩
  obtain ⟨t0, hv0, hT0⟩ := va_Tof (tm := (.static "SeekLeague" "LOWEST_SETTING" "[I")) (ty := .int) (N := 4) (f := fun j => .int (zs_f 0 j)) (A := fun q : Nat => s.heap.size ≤ q) (by decide) (hgs (Cond.arrayOf (.static "SeekLeague" "LOWEST_SETTING" "[I") .int) (by decide +kernel)) (va_eqt (hgs (Cond.eq (.length (.static "SeekLeague" "LOWEST_SETTING" "[I")) (.int 4)) (by decide +kernel))) (fun j hj => by
    rcases (show j = 0 ∨ j = 1 ∨ j = 2 ∨ j = 3 by omega) with rfl | rfl | rfl | rfl
    · exact va_eqt (hgs (Cond.eq (.elem (.static "SeekLeague" "LOWEST_SETTING" "[I") (.int 0)) (.int 0)) (by decide +kernel))
    · exact va_eqt (hgs (Cond.eq (.elem (.static "SeekLeague" "LOWEST_SETTING" "[I") (.int 1)) (.int 1)) (by decide +kernel))
    · exact va_eqt (hgs (Cond.eq (.elem (.static "SeekLeague" "LOWEST_SETTING" "[I") (.int 2)) (.int 0)) (by decide +kernel))
    · exact va_eqt (hgs (Cond.eq (.elem (.static "SeekLeague" "LOWEST_SETTING" "[I") (.int 3)) (.int 1)) (by decide +kernel))) (fun a ha q => absurd q (Nat.not_le.mpr ha))
  have hZ0 : va_Z "SeekLeague" "LOWEST_SETTING" "[I" (.ref t0) (fun q : Nat => s.heap.size ≤ q) s s.heap := va_Zof (htl (Cond.laysStatic "SeekLeague" "LOWEST_SETTING" "[I") (List.mem_of_getElem? (i := 224) rfl)) (htl (Cond.initialized "SeekLeague") (List.mem_of_getElem? (i := 36) rfl)) hv0 (fun a ha q => absurd q (Nat.not_le.mpr ha))
  obtain ⟨t1, hv1, hT1⟩ := va_Tof (tm := (.static "SeekLeague" "HIGHEST_SETTING" "[I")) (ty := .int) (N := 4) (f := fun j => .int (zs_f 1 j)) (A := fun q : Nat => s.heap.size ≤ q) (by decide) (hgs (Cond.arrayOf (.static "SeekLeague" "HIGHEST_SETTING" "[I") .int) (by decide +kernel)) (va_eqt (hgs (Cond.eq (.length (.static "SeekLeague" "HIGHEST_SETTING" "[I")) (.int 4)) (by decide +kernel))) (fun j hj => by
    rcases (show j = 0 ∨ j = 1 ∨ j = 2 ∨ j = 3 by omega) with rfl | rfl | rfl | rfl
    · exact va_eqt (hgs (Cond.eq (.elem (.static "SeekLeague" "HIGHEST_SETTING" "[I") (.int 0)) (.int 3)) (by decide +kernel))
    · exact va_eqt (hgs (Cond.eq (.elem (.static "SeekLeague" "HIGHEST_SETTING" "[I") (.int 1)) (.int 9)) (by decide +kernel))
    · exact va_eqt (hgs (Cond.eq (.elem (.static "SeekLeague" "HIGHEST_SETTING" "[I") (.int 2)) (.int 9)) (by decide +kernel))
    · exact va_eqt (hgs (Cond.eq (.elem (.static "SeekLeague" "HIGHEST_SETTING" "[I") (.int 3)) (.int 9)) (by decide +kernel))) (fun a ha q => absurd q (Nat.not_le.mpr ha))
  have hZ1 : va_Z "SeekLeague" "HIGHEST_SETTING" "[I" (.ref t1) (fun q : Nat => s.heap.size ≤ q) s s.heap := va_Zof (htl (Cond.laysStatic "SeekLeague" "HIGHEST_SETTING" "[I") (List.mem_of_getElem? (i := 226) rfl)) (htl (Cond.initialized "SeekLeague") (List.mem_of_getElem? (i := 36) rfl)) hv1 (fun a ha q => absurd q (Nat.not_le.mpr ha))
  have hAO : va_AO RX5 s := va_AO.of (htl (Cond.arrayOver (.object RX5)) (List.mem_of_getElem? (i := 164) rfl))
  have hZ : zs_ (fun q : Nat => s.heap.size ≤ q) s := ⟨hAO, va_Nw.of rfl (htl _ (List.mem_of_getElem? (i := 223) rfl)), va_Nw.of rfl (htl _ (List.mem_of_getElem? (i := 225) rfl)), t0, t1, hZ0, hT0, hZ1, hT1⟩
  obtain ⟨k0, j0, hk0⟩ := u_known (C := RX1) (T := TX1) (N := 2) (n := 2) hu (fun w h => List.mem_cons_of_mem _ (iuX1 w h)) (htl (.instantiable RX1 2) (List.mem_of_getElem? (i := 174) rfl))
  obtain ⟨k1, j1, hk1⟩ := u_known (C := RX3) (T := TX3) (N := 2) (n := 2) hu (fun w h => List.mem_cons_of_mem _ (iuX3 w h)) (htl (.instantiable RX3 2) (List.mem_of_getElem? (i := 158) rfl))
  obtain ⟨k2, j2, hk2⟩ := u_known (C := RX5) (T := TX5) (N := 16) (n := 16) hu (fun w h => List.mem_cons_of_mem _ (iuX5 w h)) (htl (.instantiable RX5 16) (List.mem_of_getElem? (i := 58) rfl))
  obtain ⟨k3, j3, hk3⟩ := u_known (C := RX7) (T := TX7) (N := 5) (n := 5) hu (fun w h => List.mem_cons_of_mem _ (iuX7 w h)) (htl (.instantiable RX7 5) (List.mem_of_getElem? (i := 50) rfl))
  obtain ⟨k4, j4, hk4⟩ := u_known (C := RX8) (T := TX8) (N := 11) (n := 11) hu (fun w h => List.mem_cons_of_mem _ (iuX8 w h)) (htl (.instantiable RX8 11) (List.mem_of_getElem? (i := 562) rfl))
  obtain ⟨D, hKc⟩ : ∃ D : va_G, ∀ (k : Nat) (q : vw_C), vwCl[k]? = some q → u_Kn s q.1 q.2.1 q.2.2 (D.1 k) (D.2 k) := by
    refine ⟨(fun k => [k0, k1, k2, k3, k4].getD k k0, fun k => [j0, j1, j2, j3, j4].getD k j0), ?_⟩
    intro k q hq
    match k, hq with
    | 0, hq => cases hq; exact hk0
    | 1, hq => cases hq; exact hk1
    | 2, hq => cases hq; exact hk2
    | 3, hq => cases hq; exact hk3
    | 4, hq => cases hq; exact hk4
    | k + 5, hq => simp [vwCl] at hq
  obtain ⟨cI, kI, pI, f1, f2, f3⟩ := Cond.arrayClass_spec (htl (.arrayClass .int) (List.mem_of_getElem? (i := 156) rfl))
  obtain ⟨cC, kC, pC, g1, g2, g3⟩ := Cond.arrayClass_spec (htl (.arrayClass .char) (List.mem_of_getElem? (i := 601) rfl))
  obtain ⟨pS, cS, kS, s1, s2, s3, s4, s5⟩ := Cond.arrayOver_spec (va_AO.use (A := #[Value.ref b]) hAO)
  have hK : va_K D vwCl (tW cI cS cC) s := by
    refine ⟨hKc, ?_⟩
    intro k q hq
    match k, hq with
    | 0, hq => cases hq; exact ⟨fun n z => ⟨fun k h => (by cases h), kI, f2, pI, f3⟩, f1⟩
    | 1, hq => cases hq; exact ⟨fun n z => ⟨fun k h => (by cases h), kS, s3, pS, s4⟩, kS, pS, s3, s4, s1, s5⟩
    | 2, hq => cases hq; exact ⟨fun n z => ⟨fun k h => (by cases h), kC, g2, pC, g3⟩, g1⟩
    | k + 3, hq => simp [tW] at hq
  have Y : dy_ D (fun q : Nat => s.heap.size ≤ q) s [] s.heap [] := ⟨fun k q h => by simp at h, ⟨fun i j p q h => by simp at h, fun k q h => by simp at h⟩, va_S.rf⟩
  have hl := lv_entry ([.ref b]) (n := 4) (Nat.le_of_ble_eq_true rfl)
  rw [lg_entry_eq]
  generalize (lg_sl ([.ref b]) ++ List.replicate (4 - (lg_sl ([.ref b])).length) Slot.unset).toArray = ls at hl ⊢
  have hl : lv_has ls 4 [(0, .ref b)] := hl
  refine ino S hK hA Y (C := RX7) (T := TX7) (N := 5) (ci := 3) (fs := [.null, .null, .null, .null, .int 0]) (uw_in 49 rfl rfl) (uw_in 50 rfl rfl) (uw_in 36 rfl rfl) iuX7 fpX7 rfl (by decide +kernel) (Nat.le_of_ble_eq_true rfl) (Nat.le_of_ble_eq_true rfl) dL_law_0 (fun q1 H Y => ?_)
  refine lv_dup hx hb dL_law_3 rfl ?_
  refine cgi (isC := [0]) (isR := []) (it := [0, 1]) (wr := []) (As := []) (rest := [.ref q1]) S hK hA hZ Y hl.1 (mX7_init l D cI cS q1) rfl rfl rfl (by decide +kernel) (by decide +kernel) rfl (uw_in 51 rfl rfl) (uw_in 52 rfl rfl) (uw_in 36 rfl rfl) (uw_in 53 rfl rfl) ⟨by decide, by decide, by decide +kernel⟩ rfl ⟨Nat.le_of_ble_eq_true rfl, Nat.le_of_ble_eq_true rfl⟩ rfl rfl (Nat.le_of_ble_eq_true rfl) ⟨Nat.le_of_ble_eq_true rfl, Nat.le_of_ble_eq_true rfl⟩ dL_law_4 (fun h H locs hp Yn => ?_)
  subst hp
  have Y : dy_ D (fun q : Nat => s.heap.size ≤ q) s (wL cI cS h gL0 pi0) H locs := Yn
  refine lv_astore_n (lv' := [(1, .ref (h 8 0)), (0, .ref b)]) hx hb dL_law_7 rfl hl (Nat.le_of_ble_eq_true rfl) rfl (fun ls hl => ?_)
  refine ino S hK hA Y (C := RX8) (T := TX8) (N := 11) (ci := 4) (fs := [.null, .null, .int 0, .null, .int 0, .null, .int 0, .null, .int 0, .int 0, .int 0]) (uw_in 561 rfl rfl) (uw_in 562 rfl rfl) (uw_in 41 rfl rfl) iuX8 fpX8 rfl (by decide +kernel) (Nat.le_of_ble_eq_true rfl) (Nat.le_of_ble_eq_true rfl) dL_law_8 (fun q2 H Y => ?_)
  refine lv_dup hx hb dL_law_11 rfl ?_
  refine cgi (isC := [85]) (isR := [0, 1, 2, 3, 4, 5, 6, 7, 8, 9, 10, 11, 12, 13, 14, 15, 16, 17, 18, 19, 20, 21, 22, 23, 24, 25, 26, 27, 28, 29, 30, 31, 32, 33, 34, 35, 36, 37, 38, 39, 40, 41, 42, 43, 44, 45, 46, 47, 48, 49, 50, 51, 52, 53, 54, 55, 56, 57, 58, 59, 60, 61, 62, 63, 64, 65, 66, 67, 68, 69, 70, 71, 72, 73, 74, 75, 76, 77, 78, 79, 80, 81, 82, 83, 84]) (it := [0, 2]) (wr := (wL cI cS h gL0 pi0)) (As := []) (rest := [.ref q2]) S hK hA hZ Y hl.1 (mX8_init l D cI cC q2) rfl rfl rfl (by decide +kernel) (by decide +kernel) rfl (uw_in 563 rfl rfl) (uw_in 564 rfl rfl) (uw_in 41 rfl rfl) (uw_in 565 rfl rfl) ⟨by decide, by decide, by decide +kernel⟩ rfl ⟨Nat.le_of_ble_eq_true rfl, Nat.le_of_ble_eq_true rfl⟩ rfl rfl (Nat.le_of_ble_eq_true rfl) ⟨Nat.le_of_ble_eq_true rfl, Nat.le_of_ble_eq_true rfl⟩ dL_law_12 (fun g H locs gp Yn => ?_)
  subst gp
  have Y : dy_ D (fun q : Nat => s.heap.size ≤ q) s (wW cI cS cC h g gL0 pi0 gM0) H locs := Yn
  refine lv_astore_n (lv' := [(2, .ref (g 0)), (1, .ref (h 8 0)), (0, .ref b)]) hx hb dL_law_15 rfl hl (Nat.le_of_ble_eq_true rfl) rfl (fun ls hl => ?_)
  refine lv_iconst (v := (0 : Int32)) hx hb dL_law_16 (by decide) ?_
  refine lv_istore_n (lv' := [(3, .int 0), (2, .ref (g 0)), (1, .ref (h 8 0)), (0, .ref b)]) hx hb dL_law_17 rfl hl (Nat.le_of_ble_eq_true rfl) rfl (fun ls hl => ?_)
  exact law_loop hR hL S hr hlocks hK hZ hX hbl 513 0 (Nat.zero_le L) (by omega) gL0 pi0 gM0 h0 _ _ _ Y (lv_sub hl [3, 2, 1, 0] rfl)
