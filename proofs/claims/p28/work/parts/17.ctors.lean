set_option maxRecDepth 20000 in
theorem fX1_15 : fl_ RX1 15 RX1 TX1 2 0 1 := ⟨iuX1, rfl, Nat.le_of_ble_eq_true rfl, uw_in 145 rfl rfl, rfl⟩
set_option maxRecDepth 20000 in
theorem fX1_9 : fl_ RX1 9 RX1 TX1 2 0 0 := ⟨iuX1, rfl, Nat.le_of_ble_eq_true rfl, uw_in 144 rfl rfl, rfl⟩
set_option maxRecDepth 20000 in
theorem fX7_16 : fl_ RX7 16 RX7 TX7 5 3 1 := ⟨iuX7, rfl, Nat.le_of_ble_eq_true rfl, uw_in 152 rfl rfl, rfl⟩
set_option maxRecDepth 20000 in
theorem fX7_29 : fl_ RX7 29 RX7 TX7 5 3 3 := ⟨iuX7, rfl, Nat.le_of_ble_eq_true rfl, uw_in 154 rfl rfl, rfl⟩
set_option maxRecDepth 20000 in
theorem fX7_33 : fl_ RX7 33 RX7 TX7 5 3 4 := ⟨iuX7, rfl, Nat.le_of_ble_eq_true rfl, uw_in 155 rfl rfl, rfl⟩
set_option maxRecDepth 20000 in
theorem kX5_63 : cs_ RX5 63 yJ7_fill_53178 cJ7_fill_53178 4 none 2 := ⟨uw_in 28 rfl rfl, uw_in 29 rfl rfl, uw_in 4 rfl rfl, uw_in 30 rfl rfl, ⟨by decide, by decide, by decide +kernel⟩⟩
def fil_ (f : Nat → Int32) (v : Int32) (i : Nat) : Nat → Int32 := fun k => if k < i then v else f k
theorem fil_s (f : Nat → Int32) (v : Int32) {i n : Nat} (hi : i < n) (hn : n < 2 ^ 31) : upd (fil_ f v i) (nI i).toNatClampNeg v = fil_ f v (i + 1) := by
  rw [nI_clamp (by omega)]
  funext k
  unfold upd fil_
  by_cases h1 : k = i
  · rw [if_pos h1, if_pos (by omega)]
  · rw [if_neg h1]
    by_cases h2 : k < i
    · rw [if_pos h2, if_pos (by omega)]
    · rw [if_neg h2, if_neg (by omega)]
set_option maxRecDepth 100000 in
set_option maxHeartbeats 4000000 in
theorem mJ7_fill_53178 (l : Launch) (D : va_G) (cI : ClassId) (n : Nat) (hn : n < 2 ^ 31) (q : Nat) (f : Nat → Int32) (v : Int32) : me_V l D [(cI, .int)] yJ7_fill_53178 cJ7_fill_53178 4 0 0 [(q, .inl (cI, n, .inl f))] [.ref q, .int v] [(q, .inl (cI, n, .inl (fil_ f v n)))] := by
  refine me_ofV (plainFor_of_name (by decide)) (Nat.le_of_ble_eq_true rfl) ?_
  intro p e s m args below meth c A ls S hK Y hA hl hr hlk hZ
  have hx := S.1
  have hb := S.2.1
  have hl : lv_has ls 4 [(0, .ref q), (1, .int v)] := hl
  have lp : ∀ (d i : Nat), i + d = n → ∀ (H : Heap) (locs : List Loc) (ls : Array Slot), dy_ D A s [(q, .inl (cI, n, .inl (fil_ f v i)))] H locs → lv_has ls 4 [(0, .ref q), (1, .int v), (2, .int (nI i)), (3, .int (nI n))] → W p l e (rm_ 0 0) s m args below meth c H locs 0 0 (MQ below (me_Qv D [(cI, .int)] A [(q, .inl (cI, n, .inl (fil_ f v n)))]) args s 0 0 A) (F0 m 5 ls []) := by
    intro d
    induction d with
    | zero =>
      intro i hi H locs ls Y hl
      have hi : i = n := by omega
      subst hi
      refine lv_iload_n hx hb dJ7_fill_53178_5 rfl (lv_at hl 2 rfl) ?_
      refine lv_iload_n hx hb dJ7_fill_53178_6 rfl (lv_at hl 3 rfl) ?_
      refine lv_icmp_ge (tgt := 20) hx hb dJ7_fill_53178_7 (by decide) (fun q1 => ?_) (fun q1 => absurd (nI_le (Nat.le_refl i) hn) q1)
      exact me_rv S hK Y hr hlk dJ7_fill_53178_20
    | succ d ih =>
      intro i hi H locs ls Y hl
      refine lv_iload_n hx hb dJ7_fill_53178_5 rfl (lv_at hl 2 rfl) ?_
      refine lv_iload_n hx hb dJ7_fill_53178_6 rfl (lv_at hl 3 rfl) ?_
      refine lv_icmp_ge (tgt := 20) hx hb dJ7_fill_53178_7 (by decide) (fun q1 => absurd q1 (nI_ge (by omega) hn)) (fun q1 => ?_)
      refine lv_aload_n hx hb dJ7_fill_53178_10 rfl (lv_at hl 0 rfl) ?_
      refine lv_iload_n hx hb dJ7_fill_53178_11 rfl (lv_at hl 2 rfl) ?_
      refine lv_iload_n hx hb dJ7_fill_53178_12 rfl (lv_at hl 1 rfl) ?_
      refine iw S hK Y 0 0 (f := fil_ f v i) rfl rfl (vp_in_nI (by omega) hn) (ws' := [(q, .inl (cI, n, .inl (fil_ f v (i + 1))))]) (by rw [fil_s f v (show i < n by omega) hn]; rfl) dJ7_fill_53178_13 (fun H locs Y => ?_)
      refine lv_iinc (v := nI (i + 1)) (lv' := [(2, .int (nI (i + 1))), (0, .ref q), (1, .int v), (3, .int (nI n))]) hx hb dJ7_fill_53178_14 hl (k := 2) rfl (nI_1 i) (Nat.le_of_ble_eq_true rfl) rfl (fun ls hl => ?_)
      refine lv_goto (tgt := 5) hx hb dJ7_fill_53178_17 (by decide) ?_
      exact ih (i + 1) (by omega) _ _ _ Y (lv_sub hl [1, 2, 0, 3] rfl)
  refine lv_iconst (v := 0) hx hb dJ7_fill_53178_0 (by decide) ?_
  refine lv_istore_n (lv' := [(2, .int 0), (0, .ref q), (1, .int v)]) hx hb dJ7_fill_53178_1 rfl hl (Nat.le_of_ble_eq_true rfl) rfl (fun ls hl => ?_)
  refine lv_aload_n hx hb dJ7_fill_53178_2 rfl (lv_at hl 1 rfl) ?_
  refine va_alen (v := nI n) hx hb hK Y.1 0 0 rfl rfl rfl dJ7_fill_53178_3 ?_
  refine lv_istore_n (lv' := [(3, .int (nI n)), (2, .int 0), (0, .ref q), (1, .int v)]) hx hb dJ7_fill_53178_4 rfl hl (Nat.le_of_ble_eq_true rfl) rfl (fun ls hl => ?_)
  have e0 : fil_ f v 0 = f := by funext k; unfold fil_; rw [if_neg (Nat.not_lt_zero k)]
  exact lp n 0 (by omega) _ _ _ (by rw [e0]; exact Y) (lv_sub hl [2, 3, 1, 0] rfl)

def gS0 : sg_T := fun j => match j with
  | 0 => fun k => match k with
    | 0 => (0 : Int32)
    | 1 => (0 : Int32)
    | 2 => (0 : Int32)
    | 3 => (-10006 : Int32)
    | 4 => (-10006 : Int32)
    | 5 => (-10006 : Int32)
    | 6 => (0 : Int32)
    | _ => 0
  | 1 => (upd (upd (upd (upd (fun _ => 0) ((0 : Int32)).toNatClampNeg (1 : Int32)) ((1 : Int32)).toNatClampNeg (2 : Int32)) ((2 : Int32)).toNatClampNeg (2 : Int32)) ((3 : Int32)).toNatClampNeg (2 : Int32))
  | 2 => (fun _ => 0)
  | 3 => (fun _ => 0)
  | 4 => (fun _ => 0)
  | 5 => (fun _ => 0)
  | 6 => (fun _ => 0)
  | 7 => (fil_ (fun _ => 0) (-10006 : Int32) 8)
  | 8 => (fun _ => 0)
  | 9 => (fil_ (fun _ => 0) (-1 : Int32) 16)
  | _ => fun _ => 0
set_option maxRecDepth 100000 in
set_option maxHeartbeats 4000000 in
theorem mX5_init (l : Launch) (D : va_G) (cI : ClassId) (q0 : Nat) : me_C l D (tS cI) yX5_init cX5_init 1 1 23 9 84 [(q0, .inr (2, [.null, .null, .null, .null, .null, .null, .null, .null, .null, .int 0, .int 0, .int 0, .int 0, .int 0, .int 0, .int 0]))] [.ref q0] (fun u : Nat → Nat => u 0 = q0) (fun u => wS cI u gS0) := by
  refine me_ofC (plainFor_of_name (by decide)) (Nat.le_of_ble_eq_true rfl) rfl ?_
  intro p e s m args below meth c A ls S hK Y hA hl hr hlk hZ hin
  have hx := S.1
  have hb := S.2.1
  have hl : lv_has ls 1 [(0, .ref q0)] := hl
  refine lv_aload_n hx hb dX5_init_0 rfl (lv_at hl 0 rfl) ?_
  refine ioi S (uw_in 27 rfl rfl) (uw_in 20 rfl rfl) (uw_in 21 rfl rfl) hl.1 (Nat.le_of_ble_eq_true rfl) (Nat.le_of_ble_eq_true rfl) dX5_init_1 ?_
  refine lv_aload_n hx hb dX5_init_4 rfl (lv_at hl 0 rfl) ?_
  refine lv_iconst (v := (4 : Int32)) hx hb dX5_init_5 (by decide) ?_
  refine inwi S hK hA Y 0 rfl (uw_in 121 rfl rfl) (N' := 4) (by decide) (by decide) (Nat.le_of_ble_eq_true rfl) (Nat.le_of_ble_eq_true rfl) (Nat.le_of_ble_eq_true rfl) dX5_init_6 (fun a1 H Y => ?_)
  have Y := Y
  have Y : dy_ D A s [(q0, .inr (2, [.null, .null, .null, .null, .null, .null, .null, .null, .null, .int 0, .int 0, .int 0, .int 0, .int 0, .int 0, .int 0])), (a1, .inl (cI, 4, .inl (fun _ => 0)))] H _ := Y
  refine lv_dup hx hb dX5_init_8 rfl ?_
  refine lv_iconst (v := (0 : Int32)) hx hb dX5_init_9 (by decide) ?_
  refine lv_iconst (v := (1 : Int32)) hx hb dX5_init_10 (by decide) ?_
  refine iw S hK Y 1 0 (f := (fun _ => 0)) rfl rfl (show ¬ ((0 : Int32) < 0 ∨ 4 ≤ ((0 : Int32)).toNatClampNeg) by decide) (ws' := [(q0, .inr (2, [.null, .null, .null, .null, .null, .null, .null, .null, .null, .int 0, .int 0, .int 0, .int 0, .int 0, .int 0, .int 0])), (a1, .inl (cI, 4, .inl (upd (fun _ => 0) ((0 : Int32)).toNatClampNeg (1 : Int32))))]) rfl dX5_init_11 (fun H locs Y => ?_)
  refine lv_dup hx hb dX5_init_12 rfl ?_
  refine lv_iconst (v := (1 : Int32)) hx hb dX5_init_13 (by decide) ?_
  refine lv_iconst (v := (2 : Int32)) hx hb dX5_init_14 (by decide) ?_
  refine iw S hK Y 1 0 (f := (upd (fun _ => 0) ((0 : Int32)).toNatClampNeg (1 : Int32))) rfl rfl (show ¬ ((1 : Int32) < 0 ∨ 4 ≤ ((1 : Int32)).toNatClampNeg) by decide) (ws' := [(q0, .inr (2, [.null, .null, .null, .null, .null, .null, .null, .null, .null, .int 0, .int 0, .int 0, .int 0, .int 0, .int 0, .int 0])), (a1, .inl (cI, 4, .inl (upd (upd (fun _ => 0) ((0 : Int32)).toNatClampNeg (1 : Int32)) ((1 : Int32)).toNatClampNeg (2 : Int32))))]) rfl dX5_init_15 (fun H locs Y => ?_)
  refine lv_dup hx hb dX5_init_16 rfl ?_
  refine lv_iconst (v := (2 : Int32)) hx hb dX5_init_17 (by decide) ?_
  refine lv_iconst (v := (2 : Int32)) hx hb dX5_init_18 (by decide) ?_
  refine iw S hK Y 1 0 (f := (upd (upd (fun _ => 0) ((0 : Int32)).toNatClampNeg (1 : Int32)) ((1 : Int32)).toNatClampNeg (2 : Int32))) rfl rfl (show ¬ ((2 : Int32) < 0 ∨ 4 ≤ ((2 : Int32)).toNatClampNeg) by decide) (ws' := [(q0, .inr (2, [.null, .null, .null, .null, .null, .null, .null, .null, .null, .int 0, .int 0, .int 0, .int 0, .int 0, .int 0, .int 0])), (a1, .inl (cI, 4, .inl (upd (upd (upd (fun _ => 0) ((0 : Int32)).toNatClampNeg (1 : Int32)) ((1 : Int32)).toNatClampNeg (2 : Int32)) ((2 : Int32)).toNatClampNeg (2 : Int32))))]) rfl dX5_init_19 (fun H locs Y => ?_)
  refine lv_dup hx hb dX5_init_20 rfl ?_
  refine lv_iconst (v := (3 : Int32)) hx hb dX5_init_21 (by decide) ?_
  refine lv_iconst (v := (2 : Int32)) hx hb dX5_init_22 (by decide) ?_
  refine iw S hK Y 1 0 (f := (upd (upd (upd (fun _ => 0) ((0 : Int32)).toNatClampNeg (1 : Int32)) ((1 : Int32)).toNatClampNeg (2 : Int32)) ((2 : Int32)).toNatClampNeg (2 : Int32))) rfl rfl (show ¬ ((3 : Int32) < 0 ∨ 4 ≤ ((3 : Int32)).toNatClampNeg) by decide) (ws' := [(q0, .inr (2, [.null, .null, .null, .null, .null, .null, .null, .null, .null, .int 0, .int 0, .int 0, .int 0, .int 0, .int 0, .int 0])), (a1, .inl (cI, 4, .inl (upd (upd (upd (upd (fun _ => 0) ((0 : Int32)).toNatClampNeg (1 : Int32)) ((1 : Int32)).toNatClampNeg (2 : Int32)) ((2 : Int32)).toNatClampNeg (2 : Int32)) ((3 : Int32)).toNatClampNeg (2 : Int32))))]) rfl dX5_init_23 (fun H locs Y => ?_)
  refine ipF S hK Y hin fX5_9 fpX5 rfl rfl 0 (fs := [.null, .null, .null, .null, .null, .null, .null, .null, .null, .int 0, .int 0, .int 0, .int 0, .int 0, .int 0, .int 0]) rfl rfl rfl (Nat.le_of_ble_eq_true rfl) (ws' := [(q0, .inr (2, [.ref a1, .null, .null, .null, .null, .null, .null, .null, .null, .int 0, .int 0, .int 0, .int 0, .int 0, .int 0, .int 0])), (a1, .inl (cI, 4, .inl (upd (upd (upd (upd (fun _ => 0) ((0 : Int32)).toNatClampNeg (1 : Int32)) ((1 : Int32)).toNatClampNeg (2 : Int32)) ((2 : Int32)).toNatClampNeg (2 : Int32)) ((3 : Int32)).toNatClampNeg (2 : Int32))))]) rfl dX5_init_24 (fun H locs Y => ?_)
  refine lv_aload_n hx hb dX5_init_27 rfl (lv_at hl 0 rfl) ?_
  refine lv_bipush (v := (8 : Int32)) hx hb dX5_init_28 (by decide) ?_
  refine inwi S hK hA Y 0 rfl (uw_in 121 rfl rfl) (N' := 8) (by decide) (by decide) (Nat.le_of_ble_eq_true rfl) (Nat.le_of_ble_eq_true rfl) (Nat.le_of_ble_eq_true rfl) dX5_init_30 (fun a2 H Y => ?_)
  have Y : dy_ D A s [(q0, .inr (2, [.ref a1, .null, .null, .null, .null, .null, .null, .null, .null, .int 0, .int 0, .int 0, .int 0, .int 0, .int 0, .int 0])), (a1, .inl (cI, 4, .inl (upd (upd (upd (upd (fun _ => 0) ((0 : Int32)).toNatClampNeg (1 : Int32)) ((1 : Int32)).toNatClampNeg (2 : Int32)) ((2 : Int32)).toNatClampNeg (2 : Int32)) ((3 : Int32)).toNatClampNeg (2 : Int32)))), (a2, .inl (cI, 8, .inl (fun _ => 0)))] H locs := Y
  have Y : dy_ D A s [(q0, .inr (2, [.ref a1, .null, .null, .null, .null, .null, .null, .null, .null, .int 0, .int 0, .int 0, .int 0, .int 0, .int 0, .int 0])), (a1, .inl (cI, 4, .inl (upd (upd (upd (upd (fun _ => 0) ((0 : Int32)).toNatClampNeg (1 : Int32)) ((1 : Int32)).toNatClampNeg (2 : Int32)) ((2 : Int32)).toNatClampNeg (2 : Int32)) ((3 : Int32)).toNatClampNeg (2 : Int32)))), (a2, .inl (cI, 8, .inl (fun _ => 0)))] H _ := Y
  refine ipF S hK Y hin fX5_15 fpX5 rfl rfl 0 (fs := [.ref a1, .null, .null, .null, .null, .null, .null, .null, .null, .int 0, .int 0, .int 0, .int 0, .int 0, .int 0, .int 0]) rfl rfl rfl (Nat.le_of_ble_eq_true rfl) (ws' := [(q0, .inr (2, [.ref a1, .ref a2, .null, .null, .null, .null, .null, .null, .null, .int 0, .int 0, .int 0, .int 0, .int 0, .int 0, .int 0])), (a1, .inl (cI, 4, .inl (upd (upd (upd (upd (fun _ => 0) ((0 : Int32)).toNatClampNeg (1 : Int32)) ((1 : Int32)).toNatClampNeg (2 : Int32)) ((2 : Int32)).toNatClampNeg (2 : Int32)) ((3 : Int32)).toNatClampNeg (2 : Int32)))), (a2, .inl (cI, 8, .inl (fun _ => 0)))]) rfl dX5_init_32 (fun H locs Y => ?_)
  refine lv_aload_n hx hb dX5_init_35 rfl (lv_at hl 0 rfl) ?_
  refine lv_bipush (v := (8 : Int32)) hx hb dX5_init_36 (by decide) ?_
  refine inwi S hK hA Y 0 rfl (uw_in 121 rfl rfl) (N' := 8) (by decide) (by decide) (Nat.le_of_ble_eq_true rfl) (Nat.le_of_ble_eq_true rfl) (Nat.le_of_ble_eq_true rfl) dX5_init_38 (fun a3 H Y => ?_)
  have Y : dy_ D A s [(q0, .inr (2, [.ref a1, .ref a2, .null, .null, .null, .null, .null, .null, .null, .int 0, .int 0, .int 0, .int 0, .int 0, .int 0, .int 0])), (a1, .inl (cI, 4, .inl (upd (upd (upd (upd (fun _ => 0) ((0 : Int32)).toNatClampNeg (1 : Int32)) ((1 : Int32)).toNatClampNeg (2 : Int32)) ((2 : Int32)).toNatClampNeg (2 : Int32)) ((3 : Int32)).toNatClampNeg (2 : Int32)))), (a2, .inl (cI, 8, .inl (fun _ => 0))), (a3, .inl (cI, 8, .inl (fun _ => 0)))] H locs := Y
  have Y : dy_ D A s [(q0, .inr (2, [.ref a1, .ref a2, .null, .null, .null, .null, .null, .null, .null, .int 0, .int 0, .int 0, .int 0, .int 0, .int 0, .int 0])), (a1, .inl (cI, 4, .inl (upd (upd (upd (upd (fun _ => 0) ((0 : Int32)).toNatClampNeg (1 : Int32)) ((1 : Int32)).toNatClampNeg (2 : Int32)) ((2 : Int32)).toNatClampNeg (2 : Int32)) ((3 : Int32)).toNatClampNeg (2 : Int32)))), (a2, .inl (cI, 8, .inl (fun _ => 0))), (a3, .inl (cI, 8, .inl (fun _ => 0)))] H _ := Y
  refine ipF S hK Y hin fX5_18 fpX5 rfl rfl 0 (fs := [.ref a1, .ref a2, .null, .null, .null, .null, .null, .null, .null, .int 0, .int 0, .int 0, .int 0, .int 0, .int 0, .int 0]) rfl rfl rfl (Nat.le_of_ble_eq_true rfl) (ws' := [(q0, .inr (2, [.ref a1, .ref a2, .ref a3, .null, .null, .null, .null, .null, .null, .int 0, .int 0, .int 0, .int 0, .int 0, .int 0, .int 0])), (a1, .inl (cI, 4, .inl (upd (upd (upd (upd (fun _ => 0) ((0 : Int32)).toNatClampNeg (1 : Int32)) ((1 : Int32)).toNatClampNeg (2 : Int32)) ((2 : Int32)).toNatClampNeg (2 : Int32)) ((3 : Int32)).toNatClampNeg (2 : Int32)))), (a2, .inl (cI, 8, .inl (fun _ => 0))), (a3, .inl (cI, 8, .inl (fun _ => 0)))]) rfl dX5_init_40 (fun H locs Y => ?_)
  refine lv_aload_n hx hb dX5_init_43 rfl (lv_at hl 0 rfl) ?_
  refine lv_bipush (v := (8 : Int32)) hx hb dX5_init_44 (by decide) ?_
  refine inwi S hK hA Y 0 rfl (uw_in 121 rfl rfl) (N' := 8) (by decide) (by decide) (Nat.le_of_ble_eq_true rfl) (Nat.le_of_ble_eq_true rfl) (Nat.le_of_ble_eq_true rfl) dX5_init_46 (fun a4 H Y => ?_)
  have Y : dy_ D A s [(q0, .inr (2, [.ref a1, .ref a2, .ref a3, .null, .null, .null, .null, .null, .null, .int 0, .int 0, .int 0, .int 0, .int 0, .int 0, .int 0])), (a1, .inl (cI, 4, .inl (upd (upd (upd (upd (fun _ => 0) ((0 : Int32)).toNatClampNeg (1 : Int32)) ((1 : Int32)).toNatClampNeg (2 : Int32)) ((2 : Int32)).toNatClampNeg (2 : Int32)) ((3 : Int32)).toNatClampNeg (2 : Int32)))), (a2, .inl (cI, 8, .inl (fun _ => 0))), (a3, .inl (cI, 8, .inl (fun _ => 0))), (a4, .inl (cI, 8, .inl (fun _ => 0)))] H locs := Y
  have Y : dy_ D A s [(q0, .inr (2, [.ref a1, .ref a2, .ref a3, .null, .null, .null, .null, .null, .null, .int 0, .int 0, .int 0, .int 0, .int 0, .int 0, .int 0])), (a1, .inl (cI, 4, .inl (upd (upd (upd (upd (fun _ => 0) ((0 : Int32)).toNatClampNeg (1 : Int32)) ((1 : Int32)).toNatClampNeg (2 : Int32)) ((2 : Int32)).toNatClampNeg (2 : Int32)) ((3 : Int32)).toNatClampNeg (2 : Int32)))), (a2, .inl (cI, 8, .inl (fun _ => 0))), (a3, .inl (cI, 8, .inl (fun _ => 0))), (a4, .inl (cI, 8, .inl (fun _ => 0)))] H _ := Y
  refine ipF S hK Y hin fX5_21 fpX5 rfl rfl 0 (fs := [.ref a1, .ref a2, .ref a3, .null, .null, .null, .null, .null, .null, .int 0, .int 0, .int 0, .int 0, .int 0, .int 0, .int 0]) rfl rfl rfl (Nat.le_of_ble_eq_true rfl) (ws' := [(q0, .inr (2, [.ref a1, .ref a2, .ref a3, .ref a4, .null, .null, .null, .null, .null, .int 0, .int 0, .int 0, .int 0, .int 0, .int 0, .int 0])), (a1, .inl (cI, 4, .inl (upd (upd (upd (upd (fun _ => 0) ((0 : Int32)).toNatClampNeg (1 : Int32)) ((1 : Int32)).toNatClampNeg (2 : Int32)) ((2 : Int32)).toNatClampNeg (2 : Int32)) ((3 : Int32)).toNatClampNeg (2 : Int32)))), (a2, .inl (cI, 8, .inl (fun _ => 0))), (a3, .inl (cI, 8, .inl (fun _ => 0))), (a4, .inl (cI, 8, .inl (fun _ => 0)))]) rfl dX5_init_48 (fun H locs Y => ?_)
  refine lv_aload_n hx hb dX5_init_51 rfl (lv_at hl 0 rfl) ?_
  refine lv_bipush (v := (8 : Int32)) hx hb dX5_init_52 (by decide) ?_
  refine inwi S hK hA Y 0 rfl (uw_in 121 rfl rfl) (N' := 8) (by decide) (by decide) (Nat.le_of_ble_eq_true rfl) (Nat.le_of_ble_eq_true rfl) (Nat.le_of_ble_eq_true rfl) dX5_init_54 (fun a5 H Y => ?_)
  have Y : dy_ D A s [(q0, .inr (2, [.ref a1, .ref a2, .ref a3, .ref a4, .null, .null, .null, .null, .null, .int 0, .int 0, .int 0, .int 0, .int 0, .int 0, .int 0])), (a1, .inl (cI, 4, .inl (upd (upd (upd (upd (fun _ => 0) ((0 : Int32)).toNatClampNeg (1 : Int32)) ((1 : Int32)).toNatClampNeg (2 : Int32)) ((2 : Int32)).toNatClampNeg (2 : Int32)) ((3 : Int32)).toNatClampNeg (2 : Int32)))), (a2, .inl (cI, 8, .inl (fun _ => 0))), (a3, .inl (cI, 8, .inl (fun _ => 0))), (a4, .inl (cI, 8, .inl (fun _ => 0))), (a5, .inl (cI, 8, .inl (fun _ => 0)))] H locs := Y
  have Y : dy_ D A s [(q0, .inr (2, [.ref a1, .ref a2, .ref a3, .ref a4, .null, .null, .null, .null, .null, .int 0, .int 0, .int 0, .int 0, .int 0, .int 0, .int 0])), (a1, .inl (cI, 4, .inl (upd (upd (upd (upd (fun _ => 0) ((0 : Int32)).toNatClampNeg (1 : Int32)) ((1 : Int32)).toNatClampNeg (2 : Int32)) ((2 : Int32)).toNatClampNeg (2 : Int32)) ((3 : Int32)).toNatClampNeg (2 : Int32)))), (a2, .inl (cI, 8, .inl (fun _ => 0))), (a3, .inl (cI, 8, .inl (fun _ => 0))), (a4, .inl (cI, 8, .inl (fun _ => 0))), (a5, .inl (cI, 8, .inl (fun _ => 0)))] H _ := Y
  refine ipF S hK Y hin fX5_24 fpX5 rfl rfl 0 (fs := [.ref a1, .ref a2, .ref a3, .ref a4, .null, .null, .null, .null, .null, .int 0, .int 0, .int 0, .int 0, .int 0, .int 0, .int 0]) rfl rfl rfl (Nat.le_of_ble_eq_true rfl) (ws' := [(q0, .inr (2, [.ref a1, .ref a2, .ref a3, .ref a4, .ref a5, .null, .null, .null, .null, .int 0, .int 0, .int 0, .int 0, .int 0, .int 0, .int 0])), (a1, .inl (cI, 4, .inl (upd (upd (upd (upd (fun _ => 0) ((0 : Int32)).toNatClampNeg (1 : Int32)) ((1 : Int32)).toNatClampNeg (2 : Int32)) ((2 : Int32)).toNatClampNeg (2 : Int32)) ((3 : Int32)).toNatClampNeg (2 : Int32)))), (a2, .inl (cI, 8, .inl (fun _ => 0))), (a3, .inl (cI, 8, .inl (fun _ => 0))), (a4, .inl (cI, 8, .inl (fun _ => 0))), (a5, .inl (cI, 8, .inl (fun _ => 0)))]) rfl dX5_init_56 (fun H locs Y => ?_)
  refine lv_aload_n hx hb dX5_init_59 rfl (lv_at hl 0 rfl) ?_
  refine lv_bipush (v := (8 : Int32)) hx hb dX5_init_60 (by decide) ?_
  refine inwi S hK hA Y 0 rfl (uw_in 121 rfl rfl) (N' := 8) (by decide) (by decide) (Nat.le_of_ble_eq_true rfl) (Nat.le_of_ble_eq_true rfl) (Nat.le_of_ble_eq_true rfl) dX5_init_62 (fun a6 H Y => ?_)
  have Y : dy_ D A s [(q0, .inr (2, [.ref a1, .ref a2, .ref a3, .ref a4, .ref a5, .null, .null, .null, .null, .int 0, .int 0, .int 0, .int 0, .int 0, .int 0, .int 0])), (a1, .inl (cI, 4, .inl (upd (upd (upd (upd (fun _ => 0) ((0 : Int32)).toNatClampNeg (1 : Int32)) ((1 : Int32)).toNatClampNeg (2 : Int32)) ((2 : Int32)).toNatClampNeg (2 : Int32)) ((3 : Int32)).toNatClampNeg (2 : Int32)))), (a2, .inl (cI, 8, .inl (fun _ => 0))), (a3, .inl (cI, 8, .inl (fun _ => 0))), (a4, .inl (cI, 8, .inl (fun _ => 0))), (a5, .inl (cI, 8, .inl (fun _ => 0))), (a6, .inl (cI, 8, .inl (fun _ => 0)))] H locs := Y
  have Y : dy_ D A s [(q0, .inr (2, [.ref a1, .ref a2, .ref a3, .ref a4, .ref a5, .null, .null, .null, .null, .int 0, .int 0, .int 0, .int 0, .int 0, .int 0, .int 0])), (a1, .inl (cI, 4, .inl (upd (upd (upd (upd (fun _ => 0) ((0 : Int32)).toNatClampNeg (1 : Int32)) ((1 : Int32)).toNatClampNeg (2 : Int32)) ((2 : Int32)).toNatClampNeg (2 : Int32)) ((3 : Int32)).toNatClampNeg (2 : Int32)))), (a2, .inl (cI, 8, .inl (fun _ => 0))), (a3, .inl (cI, 8, .inl (fun _ => 0))), (a4, .inl (cI, 8, .inl (fun _ => 0))), (a5, .inl (cI, 8, .inl (fun _ => 0))), (a6, .inl (cI, 8, .inl (fun _ => 0)))] H _ := Y
  refine ipF S hK Y hin fX5_27 fpX5 rfl rfl 0 (fs := [.ref a1, .ref a2, .ref a3, .ref a4, .ref a5, .null, .null, .null, .null, .int 0, .int 0, .int 0, .int 0, .int 0, .int 0, .int 0]) rfl rfl rfl (Nat.le_of_ble_eq_true rfl) (ws' := [(q0, .inr (2, [.ref a1, .ref a2, .ref a3, .ref a4, .ref a5, .ref a6, .null, .null, .null, .int 0, .int 0, .int 0, .int 0, .int 0, .int 0, .int 0])), (a1, .inl (cI, 4, .inl (upd (upd (upd (upd (fun _ => 0) ((0 : Int32)).toNatClampNeg (1 : Int32)) ((1 : Int32)).toNatClampNeg (2 : Int32)) ((2 : Int32)).toNatClampNeg (2 : Int32)) ((3 : Int32)).toNatClampNeg (2 : Int32)))), (a2, .inl (cI, 8, .inl (fun _ => 0))), (a3, .inl (cI, 8, .inl (fun _ => 0))), (a4, .inl (cI, 8, .inl (fun _ => 0))), (a5, .inl (cI, 8, .inl (fun _ => 0))), (a6, .inl (cI, 8, .inl (fun _ => 0)))]) rfl dX5_init_64 (fun H locs Y => ?_)
  refine lv_aload_n hx hb dX5_init_67 rfl (lv_at hl 0 rfl) ?_
  refine lv_bipush (v := (8 : Int32)) hx hb dX5_init_68 (by decide) ?_
  refine inwi S hK hA Y 0 rfl (uw_in 121 rfl rfl) (N' := 8) (by decide) (by decide) (Nat.le_of_ble_eq_true rfl) (Nat.le_of_ble_eq_true rfl) (Nat.le_of_ble_eq_true rfl) dX5_init_70 (fun a7 H Y => ?_)
  have Y : dy_ D A s [(q0, .inr (2, [.ref a1, .ref a2, .ref a3, .ref a4, .ref a5, .ref a6, .null, .null, .null, .int 0, .int 0, .int 0, .int 0, .int 0, .int 0, .int 0])), (a1, .inl (cI, 4, .inl (upd (upd (upd (upd (fun _ => 0) ((0 : Int32)).toNatClampNeg (1 : Int32)) ((1 : Int32)).toNatClampNeg (2 : Int32)) ((2 : Int32)).toNatClampNeg (2 : Int32)) ((3 : Int32)).toNatClampNeg (2 : Int32)))), (a2, .inl (cI, 8, .inl (fun _ => 0))), (a3, .inl (cI, 8, .inl (fun _ => 0))), (a4, .inl (cI, 8, .inl (fun _ => 0))), (a5, .inl (cI, 8, .inl (fun _ => 0))), (a6, .inl (cI, 8, .inl (fun _ => 0))), (a7, .inl (cI, 8, .inl (fun _ => 0)))] H locs := Y
  have Y : dy_ D A s [(q0, .inr (2, [.ref a1, .ref a2, .ref a3, .ref a4, .ref a5, .ref a6, .null, .null, .null, .int 0, .int 0, .int 0, .int 0, .int 0, .int 0, .int 0])), (a1, .inl (cI, 4, .inl (upd (upd (upd (upd (fun _ => 0) ((0 : Int32)).toNatClampNeg (1 : Int32)) ((1 : Int32)).toNatClampNeg (2 : Int32)) ((2 : Int32)).toNatClampNeg (2 : Int32)) ((3 : Int32)).toNatClampNeg (2 : Int32)))), (a2, .inl (cI, 8, .inl (fun _ => 0))), (a3, .inl (cI, 8, .inl (fun _ => 0))), (a4, .inl (cI, 8, .inl (fun _ => 0))), (a5, .inl (cI, 8, .inl (fun _ => 0))), (a6, .inl (cI, 8, .inl (fun _ => 0))), (a7, .inl (cI, 8, .inl (fun _ => 0)))] H _ := Y
  refine ipF S hK Y hin fX5_30 fpX5 rfl rfl 0 (fs := [.ref a1, .ref a2, .ref a3, .ref a4, .ref a5, .ref a6, .null, .null, .null, .int 0, .int 0, .int 0, .int 0, .int 0, .int 0, .int 0]) rfl rfl rfl (Nat.le_of_ble_eq_true rfl) (ws' := [(q0, .inr (2, [.ref a1, .ref a2, .ref a3, .ref a4, .ref a5, .ref a6, .ref a7, .null, .null, .int 0, .int 0, .int 0, .int 0, .int 0, .int 0, .int 0])), (a1, .inl (cI, 4, .inl (upd (upd (upd (upd (fun _ => 0) ((0 : Int32)).toNatClampNeg (1 : Int32)) ((1 : Int32)).toNatClampNeg (2 : Int32)) ((2 : Int32)).toNatClampNeg (2 : Int32)) ((3 : Int32)).toNatClampNeg (2 : Int32)))), (a2, .inl (cI, 8, .inl (fun _ => 0))), (a3, .inl (cI, 8, .inl (fun _ => 0))), (a4, .inl (cI, 8, .inl (fun _ => 0))), (a5, .inl (cI, 8, .inl (fun _ => 0))), (a6, .inl (cI, 8, .inl (fun _ => 0))), (a7, .inl (cI, 8, .inl (fun _ => 0)))]) rfl dX5_init_72 (fun H locs Y => ?_)
  refine lv_aload_n hx hb dX5_init_75 rfl (lv_at hl 0 rfl) ?_
  refine lv_bipush (v := (16 : Int32)) hx hb dX5_init_76 (by decide) ?_
  refine inwi S hK hA Y 0 rfl (uw_in 121 rfl rfl) (N' := 16) (by decide) (by decide) (Nat.le_of_ble_eq_true rfl) (Nat.le_of_ble_eq_true rfl) (Nat.le_of_ble_eq_true rfl) dX5_init_78 (fun a8 H Y => ?_)
  have Y : dy_ D A s [(q0, .inr (2, [.ref a1, .ref a2, .ref a3, .ref a4, .ref a5, .ref a6, .ref a7, .null, .null, .int 0, .int 0, .int 0, .int 0, .int 0, .int 0, .int 0])), (a1, .inl (cI, 4, .inl (upd (upd (upd (upd (fun _ => 0) ((0 : Int32)).toNatClampNeg (1 : Int32)) ((1 : Int32)).toNatClampNeg (2 : Int32)) ((2 : Int32)).toNatClampNeg (2 : Int32)) ((3 : Int32)).toNatClampNeg (2 : Int32)))), (a2, .inl (cI, 8, .inl (fun _ => 0))), (a3, .inl (cI, 8, .inl (fun _ => 0))), (a4, .inl (cI, 8, .inl (fun _ => 0))), (a5, .inl (cI, 8, .inl (fun _ => 0))), (a6, .inl (cI, 8, .inl (fun _ => 0))), (a7, .inl (cI, 8, .inl (fun _ => 0))), (a8, .inl (cI, 16, .inl (fun _ => 0)))] H locs := Y
  have Y : dy_ D A s [(q0, .inr (2, [.ref a1, .ref a2, .ref a3, .ref a4, .ref a5, .ref a6, .ref a7, .null, .null, .int 0, .int 0, .int 0, .int 0, .int 0, .int 0, .int 0])), (a1, .inl (cI, 4, .inl (upd (upd (upd (upd (fun _ => 0) ((0 : Int32)).toNatClampNeg (1 : Int32)) ((1 : Int32)).toNatClampNeg (2 : Int32)) ((2 : Int32)).toNatClampNeg (2 : Int32)) ((3 : Int32)).toNatClampNeg (2 : Int32)))), (a2, .inl (cI, 8, .inl (fun _ => 0))), (a3, .inl (cI, 8, .inl (fun _ => 0))), (a4, .inl (cI, 8, .inl (fun _ => 0))), (a5, .inl (cI, 8, .inl (fun _ => 0))), (a6, .inl (cI, 8, .inl (fun _ => 0))), (a7, .inl (cI, 8, .inl (fun _ => 0))), (a8, .inl (cI, 16, .inl (fun _ => 0)))] H _ := Y
  refine ipF S hK Y hin fX5_35 fpX5 rfl rfl 0 (fs := [.ref a1, .ref a2, .ref a3, .ref a4, .ref a5, .ref a6, .ref a7, .null, .null, .int 0, .int 0, .int 0, .int 0, .int 0, .int 0, .int 0]) rfl rfl rfl (Nat.le_of_ble_eq_true rfl) (ws' := [(q0, .inr (2, [.ref a1, .ref a2, .ref a3, .ref a4, .ref a5, .ref a6, .ref a7, .ref a8, .null, .int 0, .int 0, .int 0, .int 0, .int 0, .int 0, .int 0])), (a1, .inl (cI, 4, .inl (upd (upd (upd (upd (fun _ => 0) ((0 : Int32)).toNatClampNeg (1 : Int32)) ((1 : Int32)).toNatClampNeg (2 : Int32)) ((2 : Int32)).toNatClampNeg (2 : Int32)) ((3 : Int32)).toNatClampNeg (2 : Int32)))), (a2, .inl (cI, 8, .inl (fun _ => 0))), (a3, .inl (cI, 8, .inl (fun _ => 0))), (a4, .inl (cI, 8, .inl (fun _ => 0))), (a5, .inl (cI, 8, .inl (fun _ => 0))), (a6, .inl (cI, 8, .inl (fun _ => 0))), (a7, .inl (cI, 8, .inl (fun _ => 0))), (a8, .inl (cI, 16, .inl (fun _ => 0)))]) rfl dX5_init_80 (fun H locs Y => ?_)
  refine lv_aload_n hx hb dX5_init_83 rfl (lv_at hl 0 rfl) ?_
  refine lv_bipush (v := (16 : Int32)) hx hb dX5_init_84 (by decide) ?_
  refine inwi S hK hA Y 0 rfl (uw_in 121 rfl rfl) (N' := 16) (by decide) (by decide) (Nat.le_of_ble_eq_true rfl) (Nat.le_of_ble_eq_true rfl) (Nat.le_of_ble_eq_true rfl) dX5_init_86 (fun a9 H Y => ?_)
  have Y : dy_ D A s [(q0, .inr (2, [.ref a1, .ref a2, .ref a3, .ref a4, .ref a5, .ref a6, .ref a7, .ref a8, .null, .int 0, .int 0, .int 0, .int 0, .int 0, .int 0, .int 0])), (a1, .inl (cI, 4, .inl (upd (upd (upd (upd (fun _ => 0) ((0 : Int32)).toNatClampNeg (1 : Int32)) ((1 : Int32)).toNatClampNeg (2 : Int32)) ((2 : Int32)).toNatClampNeg (2 : Int32)) ((3 : Int32)).toNatClampNeg (2 : Int32)))), (a2, .inl (cI, 8, .inl (fun _ => 0))), (a3, .inl (cI, 8, .inl (fun _ => 0))), (a4, .inl (cI, 8, .inl (fun _ => 0))), (a5, .inl (cI, 8, .inl (fun _ => 0))), (a6, .inl (cI, 8, .inl (fun _ => 0))), (a7, .inl (cI, 8, .inl (fun _ => 0))), (a8, .inl (cI, 16, .inl (fun _ => 0))), (a9, .inl (cI, 16, .inl (fun _ => 0)))] H locs := Y
  have Y : dy_ D A s [(q0, .inr (2, [.ref a1, .ref a2, .ref a3, .ref a4, .ref a5, .ref a6, .ref a7, .ref a8, .null, .int 0, .int 0, .int 0, .int 0, .int 0, .int 0, .int 0])), (a1, .inl (cI, 4, .inl (upd (upd (upd (upd (fun _ => 0) ((0 : Int32)).toNatClampNeg (1 : Int32)) ((1 : Int32)).toNatClampNeg (2 : Int32)) ((2 : Int32)).toNatClampNeg (2 : Int32)) ((3 : Int32)).toNatClampNeg (2 : Int32)))), (a2, .inl (cI, 8, .inl (fun _ => 0))), (a3, .inl (cI, 8, .inl (fun _ => 0))), (a4, .inl (cI, 8, .inl (fun _ => 0))), (a5, .inl (cI, 8, .inl (fun _ => 0))), (a6, .inl (cI, 8, .inl (fun _ => 0))), (a7, .inl (cI, 8, .inl (fun _ => 0))), (a8, .inl (cI, 16, .inl (fun _ => 0))), (a9, .inl (cI, 16, .inl (fun _ => 0)))] H _ := Y
  refine ipF S hK Y hin fX5_38 fpX5 rfl rfl 0 (fs := [.ref a1, .ref a2, .ref a3, .ref a4, .ref a5, .ref a6, .ref a7, .ref a8, .null, .int 0, .int 0, .int 0, .int 0, .int 0, .int 0, .int 0]) rfl rfl rfl (Nat.le_of_ble_eq_true rfl) (ws' := [(q0, .inr (2, [.ref a1, .ref a2, .ref a3, .ref a4, .ref a5, .ref a6, .ref a7, .ref a8, .ref a9, .int 0, .int 0, .int 0, .int 0, .int 0, .int 0, .int 0])), (a1, .inl (cI, 4, .inl (upd (upd (upd (upd (fun _ => 0) ((0 : Int32)).toNatClampNeg (1 : Int32)) ((1 : Int32)).toNatClampNeg (2 : Int32)) ((2 : Int32)).toNatClampNeg (2 : Int32)) ((3 : Int32)).toNatClampNeg (2 : Int32)))), (a2, .inl (cI, 8, .inl (fun _ => 0))), (a3, .inl (cI, 8, .inl (fun _ => 0))), (a4, .inl (cI, 8, .inl (fun _ => 0))), (a5, .inl (cI, 8, .inl (fun _ => 0))), (a6, .inl (cI, 8, .inl (fun _ => 0))), (a7, .inl (cI, 8, .inl (fun _ => 0))), (a8, .inl (cI, 16, .inl (fun _ => 0))), (a9, .inl (cI, 16, .inl (fun _ => 0)))]) rfl dX5_init_88 (fun H locs Y => ?_)
  refine lv_aload_n hx hb dX5_init_91 rfl (lv_at hl 0 rfl) ?_
  refine lv_iconst (v := (0 : Int32)) hx hb dX5_init_92 (by decide) ?_
  refine ip S hK Y fX5_41 fpX5 rfl 0 (fs := [.ref a1, .ref a2, .ref a3, .ref a4, .ref a5, .ref a6, .ref a7, .ref a8, .ref a9, .int 0, .int 0, .int 0, .int 0, .int 0, .int 0, .int 0]) rfl rfl rfl (Nat.le_of_ble_eq_true rfl) (ws' := [(q0, .inr (2, [.ref a1, .ref a2, .ref a3, .ref a4, .ref a5, .ref a6, .ref a7, .ref a8, .ref a9, .int (0 : Int32), .int 0, .int 0, .int 0, .int 0, .int 0, .int 0])), (a1, .inl (cI, 4, .inl (upd (upd (upd (upd (fun _ => 0) ((0 : Int32)).toNatClampNeg (1 : Int32)) ((1 : Int32)).toNatClampNeg (2 : Int32)) ((2 : Int32)).toNatClampNeg (2 : Int32)) ((3 : Int32)).toNatClampNeg (2 : Int32)))), (a2, .inl (cI, 8, .inl (fun _ => 0))), (a3, .inl (cI, 8, .inl (fun _ => 0))), (a4, .inl (cI, 8, .inl (fun _ => 0))), (a5, .inl (cI, 8, .inl (fun _ => 0))), (a6, .inl (cI, 8, .inl (fun _ => 0))), (a7, .inl (cI, 8, .inl (fun _ => 0))), (a8, .inl (cI, 16, .inl (fun _ => 0))), (a9, .inl (cI, 16, .inl (fun _ => 0)))]) rfl dX5_init_93 (fun H locs Y => ?_)
  refine lv_aload_n hx hb dX5_init_96 rfl (lv_at hl 0 rfl) ?_
  refine lv_iconst (v := (0 : Int32)) hx hb dX5_init_97 (by decide) ?_
  refine ip S hK Y fX5_45 fpX5 rfl 0 (fs := [.ref a1, .ref a2, .ref a3, .ref a4, .ref a5, .ref a6, .ref a7, .ref a8, .ref a9, .int (0 : Int32), .int 0, .int 0, .int 0, .int 0, .int 0, .int 0]) rfl rfl rfl (Nat.le_of_ble_eq_true rfl) (ws' := [(q0, .inr (2, [.ref a1, .ref a2, .ref a3, .ref a4, .ref a5, .ref a6, .ref a7, .ref a8, .ref a9, .int (0 : Int32), .int (0 : Int32), .int 0, .int 0, .int 0, .int 0, .int 0])), (a1, .inl (cI, 4, .inl (upd (upd (upd (upd (fun _ => 0) ((0 : Int32)).toNatClampNeg (1 : Int32)) ((1 : Int32)).toNatClampNeg (2 : Int32)) ((2 : Int32)).toNatClampNeg (2 : Int32)) ((3 : Int32)).toNatClampNeg (2 : Int32)))), (a2, .inl (cI, 8, .inl (fun _ => 0))), (a3, .inl (cI, 8, .inl (fun _ => 0))), (a4, .inl (cI, 8, .inl (fun _ => 0))), (a5, .inl (cI, 8, .inl (fun _ => 0))), (a6, .inl (cI, 8, .inl (fun _ => 0))), (a7, .inl (cI, 8, .inl (fun _ => 0))), (a8, .inl (cI, 16, .inl (fun _ => 0))), (a9, .inl (cI, 16, .inl (fun _ => 0)))]) rfl dX5_init_98 (fun H locs Y => ?_)
  refine lv_aload_n hx hb dX5_init_101 rfl (lv_at hl 0 rfl) ?_
  refine lv_iconst (v := (0 : Int32)) hx hb dX5_init_102 (by decide) ?_
  refine ip S hK Y fX5_48 fpX5 rfl 0 (fs := [.ref a1, .ref a2, .ref a3, .ref a4, .ref a5, .ref a6, .ref a7, .ref a8, .ref a9, .int (0 : Int32), .int (0 : Int32), .int 0, .int 0, .int 0, .int 0, .int 0]) rfl rfl rfl (Nat.le_of_ble_eq_true rfl) (ws' := [(q0, .inr (2, [.ref a1, .ref a2, .ref a3, .ref a4, .ref a5, .ref a6, .ref a7, .ref a8, .ref a9, .int (0 : Int32), .int (0 : Int32), .int (0 : Int32), .int 0, .int 0, .int 0, .int 0])), (a1, .inl (cI, 4, .inl (upd (upd (upd (upd (fun _ => 0) ((0 : Int32)).toNatClampNeg (1 : Int32)) ((1 : Int32)).toNatClampNeg (2 : Int32)) ((2 : Int32)).toNatClampNeg (2 : Int32)) ((3 : Int32)).toNatClampNeg (2 : Int32)))), (a2, .inl (cI, 8, .inl (fun _ => 0))), (a3, .inl (cI, 8, .inl (fun _ => 0))), (a4, .inl (cI, 8, .inl (fun _ => 0))), (a5, .inl (cI, 8, .inl (fun _ => 0))), (a6, .inl (cI, 8, .inl (fun _ => 0))), (a7, .inl (cI, 8, .inl (fun _ => 0))), (a8, .inl (cI, 16, .inl (fun _ => 0))), (a9, .inl (cI, 16, .inl (fun _ => 0)))]) rfl dX5_init_103 (fun H locs Y => ?_)
  refine lv_aload_n hx hb dX5_init_106 rfl (lv_at hl 0 rfl) ?_
  refine lv_sipush (v := (-10006 : Int32)) hx hb dX5_init_107 (by decide) ?_
  refine ip S hK Y fX5_51 fpX5 rfl 0 (fs := [.ref a1, .ref a2, .ref a3, .ref a4, .ref a5, .ref a6, .ref a7, .ref a8, .ref a9, .int (0 : Int32), .int (0 : Int32), .int (0 : Int32), .int 0, .int 0, .int 0, .int 0]) rfl rfl rfl (Nat.le_of_ble_eq_true rfl) (ws' := [(q0, .inr (2, [.ref a1, .ref a2, .ref a3, .ref a4, .ref a5, .ref a6, .ref a7, .ref a8, .ref a9, .int (0 : Int32), .int (0 : Int32), .int (0 : Int32), .int (-10006 : Int32), .int 0, .int 0, .int 0])), (a1, .inl (cI, 4, .inl (upd (upd (upd (upd (fun _ => 0) ((0 : Int32)).toNatClampNeg (1 : Int32)) ((1 : Int32)).toNatClampNeg (2 : Int32)) ((2 : Int32)).toNatClampNeg (2 : Int32)) ((3 : Int32)).toNatClampNeg (2 : Int32)))), (a2, .inl (cI, 8, .inl (fun _ => 0))), (a3, .inl (cI, 8, .inl (fun _ => 0))), (a4, .inl (cI, 8, .inl (fun _ => 0))), (a5, .inl (cI, 8, .inl (fun _ => 0))), (a6, .inl (cI, 8, .inl (fun _ => 0))), (a7, .inl (cI, 8, .inl (fun _ => 0))), (a8, .inl (cI, 16, .inl (fun _ => 0))), (a9, .inl (cI, 16, .inl (fun _ => 0)))]) rfl dX5_init_110 (fun H locs Y => ?_)
  refine lv_aload_n hx hb dX5_init_113 rfl (lv_at hl 0 rfl) ?_
  refine lv_sipush (v := (-10006 : Int32)) hx hb dX5_init_114 (by decide) ?_
  refine ip S hK Y fX5_54 fpX5 rfl 0 (fs := [.ref a1, .ref a2, .ref a3, .ref a4, .ref a5, .ref a6, .ref a7, .ref a8, .ref a9, .int (0 : Int32), .int (0 : Int32), .int (0 : Int32), .int (-10006 : Int32), .int 0, .int 0, .int 0]) rfl rfl rfl (Nat.le_of_ble_eq_true rfl) (ws' := [(q0, .inr (2, [.ref a1, .ref a2, .ref a3, .ref a4, .ref a5, .ref a6, .ref a7, .ref a8, .ref a9, .int (0 : Int32), .int (0 : Int32), .int (0 : Int32), .int (-10006 : Int32), .int (-10006 : Int32), .int 0, .int 0])), (a1, .inl (cI, 4, .inl (upd (upd (upd (upd (fun _ => 0) ((0 : Int32)).toNatClampNeg (1 : Int32)) ((1 : Int32)).toNatClampNeg (2 : Int32)) ((2 : Int32)).toNatClampNeg (2 : Int32)) ((3 : Int32)).toNatClampNeg (2 : Int32)))), (a2, .inl (cI, 8, .inl (fun _ => 0))), (a3, .inl (cI, 8, .inl (fun _ => 0))), (a4, .inl (cI, 8, .inl (fun _ => 0))), (a5, .inl (cI, 8, .inl (fun _ => 0))), (a6, .inl (cI, 8, .inl (fun _ => 0))), (a7, .inl (cI, 8, .inl (fun _ => 0))), (a8, .inl (cI, 16, .inl (fun _ => 0))), (a9, .inl (cI, 16, .inl (fun _ => 0)))]) rfl dX5_init_117 (fun H locs Y => ?_)
  refine lv_aload_n hx hb dX5_init_120 rfl (lv_at hl 0 rfl) ?_
  refine lv_sipush (v := (-10006 : Int32)) hx hb dX5_init_121 (by decide) ?_
  refine ip S hK Y fX5_57 fpX5 rfl 0 (fs := [.ref a1, .ref a2, .ref a3, .ref a4, .ref a5, .ref a6, .ref a7, .ref a8, .ref a9, .int (0 : Int32), .int (0 : Int32), .int (0 : Int32), .int (-10006 : Int32), .int (-10006 : Int32), .int 0, .int 0]) rfl rfl rfl (Nat.le_of_ble_eq_true rfl) (ws' := [(q0, .inr (2, [.ref a1, .ref a2, .ref a3, .ref a4, .ref a5, .ref a6, .ref a7, .ref a8, .ref a9, .int (0 : Int32), .int (0 : Int32), .int (0 : Int32), .int (-10006 : Int32), .int (-10006 : Int32), .int (-10006 : Int32), .int 0])), (a1, .inl (cI, 4, .inl (upd (upd (upd (upd (fun _ => 0) ((0 : Int32)).toNatClampNeg (1 : Int32)) ((1 : Int32)).toNatClampNeg (2 : Int32)) ((2 : Int32)).toNatClampNeg (2 : Int32)) ((3 : Int32)).toNatClampNeg (2 : Int32)))), (a2, .inl (cI, 8, .inl (fun _ => 0))), (a3, .inl (cI, 8, .inl (fun _ => 0))), (a4, .inl (cI, 8, .inl (fun _ => 0))), (a5, .inl (cI, 8, .inl (fun _ => 0))), (a6, .inl (cI, 8, .inl (fun _ => 0))), (a7, .inl (cI, 8, .inl (fun _ => 0))), (a8, .inl (cI, 16, .inl (fun _ => 0))), (a9, .inl (cI, 16, .inl (fun _ => 0)))]) rfl dX5_init_124 (fun H locs Y => ?_)
  refine lv_aload_n hx hb dX5_init_127 rfl (lv_at hl 0 rfl) ?_
  refine lv_iconst (v := (0 : Int32)) hx hb dX5_init_128 (by decide) ?_
  refine ip S hK Y fX5_60 fpX5 rfl 0 (fs := [.ref a1, .ref a2, .ref a3, .ref a4, .ref a5, .ref a6, .ref a7, .ref a8, .ref a9, .int (0 : Int32), .int (0 : Int32), .int (0 : Int32), .int (-10006 : Int32), .int (-10006 : Int32), .int (-10006 : Int32), .int 0]) rfl rfl rfl (Nat.le_of_ble_eq_true rfl) (ws' := [(q0, .inr (2, [.ref a1, .ref a2, .ref a3, .ref a4, .ref a5, .ref a6, .ref a7, .ref a8, .ref a9, .int (0 : Int32), .int (0 : Int32), .int (0 : Int32), .int (-10006 : Int32), .int (-10006 : Int32), .int (-10006 : Int32), .int (0 : Int32)])), (a1, .inl (cI, 4, .inl (upd (upd (upd (upd (fun _ => 0) ((0 : Int32)).toNatClampNeg (1 : Int32)) ((1 : Int32)).toNatClampNeg (2 : Int32)) ((2 : Int32)).toNatClampNeg (2 : Int32)) ((3 : Int32)).toNatClampNeg (2 : Int32)))), (a2, .inl (cI, 8, .inl (fun _ => 0))), (a3, .inl (cI, 8, .inl (fun _ => 0))), (a4, .inl (cI, 8, .inl (fun _ => 0))), (a5, .inl (cI, 8, .inl (fun _ => 0))), (a6, .inl (cI, 8, .inl (fun _ => 0))), (a7, .inl (cI, 8, .inl (fun _ => 0))), (a8, .inl (cI, 16, .inl (fun _ => 0))), (a9, .inl (cI, 16, .inl (fun _ => 0)))]) rfl dX5_init_129 (fun H locs Y => ?_)
  refine lv_aload_n hx hb dX5_init_132 rfl (lv_at hl 0 rfl) ?_
  refine ig S hK Y fX5_30 0 rfl (v := .ref a7) rfl dX5_init_133 ?_
  refine lv_sipush (v := (-10006 : Int32)) hx hb dX5_init_136 (by decide) ?_
  refine cg_sv (isC := [7]) (isR := [0, 1, 2, 3, 4, 5, 6, 8, 9]) (ps := [0, 1, 2, 3, 4, 5, 6, 9, 7, 8]) (it := [0]) (wr := [(q0, .inr (2, [.ref a1, .ref a2, .ref a3, .ref a4, .ref a5, .ref a6, .ref a7, .ref a8, .ref a9, .int (0 : Int32), .int (0 : Int32), .int (0 : Int32), .int (-10006 : Int32), .int (-10006 : Int32), .int (-10006 : Int32), .int (0 : Int32)])), (a1, .inl (cI, 4, .inl (upd (upd (upd (upd (fun _ => 0) ((0 : Int32)).toNatClampNeg (1 : Int32)) ((1 : Int32)).toNatClampNeg (2 : Int32)) ((2 : Int32)).toNatClampNeg (2 : Int32)) ((3 : Int32)).toNatClampNeg (2 : Int32)))), (a2, .inl (cI, 8, .inl (fun _ => 0))), (a3, .inl (cI, 8, .inl (fun _ => 0))), (a4, .inl (cI, 8, .inl (fun _ => 0))), (a5, .inl (cI, 8, .inl (fun _ => 0))), (a6, .inl (cI, 8, .inl (fun _ => 0))), (a8, .inl (cI, 16, .inl (fun _ => 0))), (a9, .inl (cI, 16, .inl (fun _ => 0)))]) (ws2 := [(q0, .inr (2, [.ref a1, .ref a2, .ref a3, .ref a4, .ref a5, .ref a6, .ref a7, .ref a8, .ref a9, .int (0 : Int32), .int (0 : Int32), .int (0 : Int32), .int (-10006 : Int32), .int (-10006 : Int32), .int (-10006 : Int32), .int (0 : Int32)])), (a1, .inl (cI, 4, .inl (upd (upd (upd (upd (fun _ => 0) ((0 : Int32)).toNatClampNeg (1 : Int32)) ((1 : Int32)).toNatClampNeg (2 : Int32)) ((2 : Int32)).toNatClampNeg (2 : Int32)) ((3 : Int32)).toNatClampNeg (2 : Int32)))), (a2, .inl (cI, 8, .inl (fun _ => 0))), (a3, .inl (cI, 8, .inl (fun _ => 0))), (a4, .inl (cI, 8, .inl (fun _ => 0))), (a5, .inl (cI, 8, .inl (fun _ => 0))), (a6, .inl (cI, 8, .inl (fun _ => 0))), (a7, .inl (cI, 8, .inl (fil_ (fun _ => 0) (-10006 : Int32) 8))), (a8, .inl (cI, 16, .inl (fun _ => 0))), (a9, .inl (cI, 16, .inl (fun _ => 0)))]) (As := [.ref a7, .int (-10006 : Int32)]) (rest := []) S hK hA hZ Y hl.1 (mJ7_fill_53178 l D cI 8 (by decide) a7 (fun _ => 0) (-10006 : Int32)) rfl rfl rfl (by decide +kernel) (by decide +kernel) rfl (by decide +kernel) rfl kX5_63 ⟨Nat.le_of_ble_eq_true rfl, Nat.le_of_ble_eq_true rfl⟩ rfl rfl (Nat.le_of_ble_eq_true rfl) ⟨Nat.le_of_ble_eq_true rfl, Nat.le_of_ble_eq_true rfl⟩ dX5_init_139 (fun H locs Y => ?_)
  refine lv_aload_n hx hb dX5_init_142 rfl (lv_at hl 0 rfl) ?_
  refine ig S hK Y fX5_38 0 rfl (v := .ref a9) rfl dX5_init_143 ?_
  refine lv_iconst (v := (-1 : Int32)) hx hb dX5_init_146 (by decide) ?_
  refine cg_sv (isC := [9]) (isR := [0, 1, 2, 3, 4, 5, 6, 7, 8]) (ps := [0, 1, 2, 3, 4, 5, 6, 7, 8, 9]) (it := [0]) (wr := [(q0, .inr (2, [.ref a1, .ref a2, .ref a3, .ref a4, .ref a5, .ref a6, .ref a7, .ref a8, .ref a9, .int (0 : Int32), .int (0 : Int32), .int (0 : Int32), .int (-10006 : Int32), .int (-10006 : Int32), .int (-10006 : Int32), .int (0 : Int32)])), (a1, .inl (cI, 4, .inl (upd (upd (upd (upd (fun _ => 0) ((0 : Int32)).toNatClampNeg (1 : Int32)) ((1 : Int32)).toNatClampNeg (2 : Int32)) ((2 : Int32)).toNatClampNeg (2 : Int32)) ((3 : Int32)).toNatClampNeg (2 : Int32)))), (a2, .inl (cI, 8, .inl (fun _ => 0))), (a3, .inl (cI, 8, .inl (fun _ => 0))), (a4, .inl (cI, 8, .inl (fun _ => 0))), (a5, .inl (cI, 8, .inl (fun _ => 0))), (a6, .inl (cI, 8, .inl (fun _ => 0))), (a7, .inl (cI, 8, .inl (fil_ (fun _ => 0) (-10006 : Int32) 8))), (a8, .inl (cI, 16, .inl (fun _ => 0)))]) (ws2 := [(q0, .inr (2, [.ref a1, .ref a2, .ref a3, .ref a4, .ref a5, .ref a6, .ref a7, .ref a8, .ref a9, .int (0 : Int32), .int (0 : Int32), .int (0 : Int32), .int (-10006 : Int32), .int (-10006 : Int32), .int (-10006 : Int32), .int (0 : Int32)])), (a1, .inl (cI, 4, .inl (upd (upd (upd (upd (fun _ => 0) ((0 : Int32)).toNatClampNeg (1 : Int32)) ((1 : Int32)).toNatClampNeg (2 : Int32)) ((2 : Int32)).toNatClampNeg (2 : Int32)) ((3 : Int32)).toNatClampNeg (2 : Int32)))), (a2, .inl (cI, 8, .inl (fun _ => 0))), (a3, .inl (cI, 8, .inl (fun _ => 0))), (a4, .inl (cI, 8, .inl (fun _ => 0))), (a5, .inl (cI, 8, .inl (fun _ => 0))), (a6, .inl (cI, 8, .inl (fun _ => 0))), (a7, .inl (cI, 8, .inl (fil_ (fun _ => 0) (-10006 : Int32) 8))), (a8, .inl (cI, 16, .inl (fun _ => 0))), (a9, .inl (cI, 16, .inl (fil_ (fun _ => 0) (-1 : Int32) 16)))]) (As := [.ref a9, .int (-1 : Int32)]) (rest := []) S hK hA hZ Y hl.1 (mJ7_fill_53178 l D cI 16 (by decide) a9 (fun _ => 0) (-1 : Int32)) rfl rfl rfl (by decide +kernel) (by decide +kernel) rfl (by decide +kernel) rfl kX5_63 ⟨Nat.le_of_ble_eq_true rfl, Nat.le_of_ble_eq_true rfl⟩ rfl rfl (Nat.le_of_ble_eq_true rfl) ⟨Nat.le_of_ble_eq_true rfl, Nat.le_of_ble_eq_true rfl⟩ dX5_init_147 (fun H locs Y => ?_)
  exact me_rc (fun i => [q0, a1, a2, a3, a4, a5, a6, a7, a8, a9].getD i 0) rfl rfl S hK Y hr hlk dX5_init_150
def gT0 : sg_T := fun j => match j with
  | 0 => fun k => match k with
    | 0 => (0 : Int32)
    | _ => 0
  | 1 => (fun _ => 0)
  | _ => fun _ => 0
set_option maxRecDepth 100000 in
set_option maxHeartbeats 4000000 in
theorem mX1_init (l : Launch) (D : va_G) (cI : ClassId) (q0 : Nat) : me_C l D (tT cI) yX1_init cX1_init 1 1 12 1 60 [(q0, .inr (0, [.null, .int 0]))] [.ref q0] (fun u : Nat → Nat => u 0 = q0) (fun u => wT cI u gT0) := by
  refine me_ofC (plainFor_of_name (by decide)) (Nat.le_of_ble_eq_true rfl) rfl ?_
  intro p e s m args below meth c A ls S hK Y hA hl hr hlk hZ hin
  have hx := S.1
  have hb := S.2.1
  have hl : lv_has ls 1 [(0, .ref q0)] := hl
  refine lv_aload_n hx hb dX1_init_0 rfl (lv_at hl 0 rfl) ?_
  refine ioi S (uw_in 143 rfl rfl) (uw_in 20 rfl rfl) (uw_in 21 rfl rfl) hl.1 (Nat.le_of_ble_eq_true rfl) (Nat.le_of_ble_eq_true rfl) dX1_init_1 ?_
  refine lv_aload_n hx hb dX1_init_4 rfl (lv_at hl 0 rfl) ?_
  refine lv_bipush (v := (60 : Int32)) hx hb dX1_init_5 (by decide) ?_
  refine inwi S hK hA Y 0 rfl (uw_in 121 rfl rfl) (N' := 60) (by decide) (by decide) (Nat.le_of_ble_eq_true rfl) (Nat.le_of_ble_eq_true rfl) (Nat.le_of_ble_eq_true rfl) dX1_init_7 (fun a1 H Y => ?_)
  have Y := Y
  have Y : dy_ D A s [(q0, .inr (0, [.null, .int 0])), (a1, .inl (cI, 60, .inl (fun _ => 0)))] H _ := Y
  refine ipF S hK Y hin fX1_9 fpX1 rfl rfl 0 (fs := [.null, .int 0]) rfl rfl rfl (Nat.le_of_ble_eq_true rfl) (ws' := [(q0, .inr (0, [.ref a1, .int 0])), (a1, .inl (cI, 60, .inl (fun _ => 0)))]) rfl dX1_init_9 (fun H locs Y => ?_)
  refine lv_aload_n hx hb dX1_init_12 rfl (lv_at hl 0 rfl) ?_
  refine lv_iconst (v := (0 : Int32)) hx hb dX1_init_13 (by decide) ?_
  refine ip S hK Y fX1_15 fpX1 rfl 0 (fs := [.ref a1, .int 0]) rfl rfl rfl (Nat.le_of_ble_eq_true rfl) (ws' := [(q0, .inr (0, [.ref a1, .int (0 : Int32)])), (a1, .inl (cI, 60, .inl (fun _ => 0)))]) rfl dX1_init_14 (fun H locs Y => ?_)
  exact me_rc (fun i => [q0, a1].getD i 0) rfl rfl S hK Y hr hlk dX1_init_17
theorem arq_cg {cA : ClassId} {n : Nat} {f g : Nat → Option Nat} (h : ∀ k, k < n → f k = g k) : vp_cell cA (n, .inr (.inr (.inr (.inr f)))) = vp_cell cA (n, .inr (.inr (.inr (.inr g)))) := by
  rw [vp_cell_q, vp_cell_q]
  unfold arrV
  congr 2
  funext k
  exact congrArg va_rf (h k.val k.isLt)
theorem dy_q1 {D : va_G} {A : Nat → Prop} {s : State} {H : Heap} {locs : List Loc} {c0 : Nat × va_E} {a n : Nat} {cS : ClassId} {f g : Nat → Option Nat} {rest : va_W} (h : ∀ k, k < n → f k = g k) (Y : dy_ D A s (c0 :: (a, .inl (cS, n, .inr (.inr (.inr (.inr f))))) :: rest) H locs) : dy_ D A s (c0 :: (a, .inl (cS, n, .inr (.inr (.inr (.inr g))))) :: rest) H locs := by
  refine dy_r (w1 := c0 :: (a, .inl (cS, n, .inr (.inr (.inr (.inr f))))) :: rest) (w2 := c0 :: (a, .inl (cS, n, .inr (.inr (.inr (.inr g))))) :: rest) rfl ?_ Y
  intro k p q hp hq
  match k, hp, hq with
  | 0, hp, hq => cases hp; cases hq; exact ⟨rfl, fun z => z⟩
  | 1, hp, hq => cases hp; cases hq; exact ⟨rfl, fun z => by have e := arq_cg (cA := cS) h; show H[_]? = some (vp_cell cS _); rw [← e]; exact z⟩
  | k + 2, hp, hq =>
    have e : p = q := Option.some.inj (hp.symm.trans hq)
    subst e
    exact ⟨rfl, fun z => z⟩
theorem dy_q2 {D : va_G} {A : Nat → Prop} {s : State} {H : Heap} {locs : List Loc} {c0 c1 : Nat × va_E} {a n : Nat} {cS : ClassId} {f g : Nat → Option Nat} {rest : va_W} (h : ∀ k, k < n → f k = g k) (Y : dy_ D A s (c0 :: c1 :: (a, .inl (cS, n, .inr (.inr (.inr (.inr f))))) :: rest) H locs) : dy_ D A s (c0 :: c1 :: (a, .inl (cS, n, .inr (.inr (.inr (.inr g))))) :: rest) H locs := by
  refine dy_r (w1 := c0 :: c1 :: (a, .inl (cS, n, .inr (.inr (.inr (.inr f))))) :: rest) (w2 := c0 :: c1 :: (a, .inl (cS, n, .inr (.inr (.inr (.inr g))))) :: rest) rfl ?_ Y
  intro k p q hp hq
  match k, hp, hq with
  | 0, hp, hq => cases hp; cases hq; exact ⟨rfl, fun z => z⟩
  | 1, hp, hq => cases hp; cases hq; exact ⟨rfl, fun z => z⟩
  | 2, hp, hq => cases hp; cases hq; exact ⟨rfl, fun z => by have e := arq_cg (cA := cS) h; show H[_]? = some (vp_cell cS _); rw [← e]; exact z⟩
  | k + 3, hp, hq =>
    have e : p = q := Option.some.inj (hp.symm.trans hq)
    subst e
    exact ⟨rfl, fun z => z⟩
def pi0 : Nat → Nat := fun k => k + 2
def wPs (cI cS : ClassId) (g : Nat → Nat → Nat) : va_W := (((((([(g 8 1, .inr (1, [.ref (g 8 2), .int 0])), (g 8 2, .inl (cS, 6, .inr (.inr (.inr (.inr (rL g pi0))))))] ++ wS cI (g 2) gS0) ++ wS cI (g 3) gS0) ++ wS cI (g 4) gS0) ++ wS cI (g 5) gS0) ++ wS cI (g 6) gS0) ++ wS cI (g 7) gS0)
set_option maxRecDepth 100000 in
set_option maxHeartbeats 4000000 in
theorem mX3_init (l : Launch) (D : va_G) (cI cS : ClassId) (q0 : Nat) : me_C l D (tL cI cS) yX3_init cX3_init 2 2 43 61 606 [(q0, .inr (1, [.null, .int 0]))] [.ref q0] (fun g : Nat → Nat → Nat => g 8 1 = q0) (fun g => wPs cI cS g) := by
  refine me_ofC (plainFor_of_name (by decide)) (Nat.le_of_ble_eq_true rfl) rfl ?_
  intro p e s m args below meth c A ls S hK Y hA hl hr hlk hZ hin
  have hx := S.1
  have hb := S.2.1
  have hl : lv_has ls 2 [(0, .ref q0)] := hl
  refine lv_aload_n hx hb dX3_init_0 rfl (lv_at hl 0 rfl) ?_
  refine ioi S (uw_in 127 rfl rfl) (uw_in 20 rfl rfl) (uw_in 21 rfl rfl) hl.1 (Nat.le_of_ble_eq_true rfl) (Nat.le_of_ble_eq_true rfl) dX3_init_1 ?_
  refine lv_aload_n hx hb dX3_init_4 rfl (lv_at hl 0 rfl) ?_
  refine lv_bipush (v := (6 : Int32)) hx hb dX3_init_5 (by decide) ?_
  refine inwo S hK hA hZ Y 1 rfl (uw_in 128 rfl rfl) (N' := 6) (by decide) (by decide) (Nat.le_of_ble_eq_true rfl) (Nat.le_of_ble_eq_true rfl) (Nat.le_of_ble_eq_true rfl) dX3_init_7 (fun a1 H Y => ?_)
  have Y : dy_ D A s [(q0, .inr (1, [.null, .int 0])), (a1, .inl (cS, 6, .inr (.inr (.inr (.inr (fun _ => none))))))] H _ := Y
  refine ipF S hK Y hin fX3_11 fpX3 rfl rfl 0 (fs := [.null, .int 0]) rfl rfl rfl (Nat.le_of_ble_eq_true rfl) (ws' := [(q0, .inr (1, [.ref a1, .int 0])), (a1, .inl (cS, 6, .inr (.inr (.inr (.inr (fun _ => none))))))]) rfl dX3_init_10 (fun H locs Y => ?_)
  refine lv_aload_n hx hb dX3_init_13 rfl (lv_at hl 0 rfl) ?_
  refine lv_iconst (v := (0 : Int32)) hx hb dX3_init_14 (by decide) ?_
  refine ip S hK Y fX3_17 fpX3 rfl 0 (fs := [.ref a1, .int 0]) rfl rfl rfl (Nat.le_of_ble_eq_true rfl) (ws' := [(q0, .inr (1, [.ref a1, .int (0 : Int32)])), (a1, .inl (cS, 6, .inr (.inr (.inr (.inr (fun _ => none))))))]) rfl dX3_init_15 (fun H locs Y => ?_)
  refine lv_iconst (v := (0 : Int32)) hx hb dX3_init_18 (by decide) ?_
  refine lv_istore_n (lv' := [(1, .int (0 : Int32)), (0, .ref q0)]) hx hb dX3_init_19 rfl hl (Nat.le_of_ble_eq_true rfl) rfl (fun ls hl => ?_)
  refine lv_iload_n hx hb dX3_init_20 rfl (lv_at hl 0 rfl) ?_
  refine lv_aload_n hx hb dX3_init_21 rfl (lv_at hl 1 rfl) ?_
  refine ig S hK Y fX3_11 0 rfl (v := .ref a1) rfl dX3_init_22 ?_
  refine va_alen (v := (6 : Int32)) hx hb hK Y.1 1 1 rfl rfl rfl dX3_init_25 ?_
  refine lv_icmp_ge (tgt := 48) hx hb dX3_init_26 (by decide) (fun q1 => absurd q1 (by decide)) (fun _ => ?_)
  refine lv_aload_n hx hb dX3_init_29 rfl (lv_at hl 1 rfl) ?_
  refine ig S hK Y fX3_11 0 rfl (v := .ref a1) rfl dX3_init_30 ?_
  refine lv_iload_n hx hb dX3_init_33 rfl (lv_at hl 0 rfl) ?_
  refine ino S hK hA Y (C := RX5) (T := TX5) (N := 16) (ci := 2) (fs := [.null, .null, .null, .null, .null, .null, .null, .null, .null, .int 0, .int 0, .int 0, .int 0, .int 0, .int 0, .int 0]) (uw_in 128 rfl rfl) (uw_in 23 rfl rfl) (uw_in 3 rfl rfl) iuX5 fpX5 rfl (by decide +kernel) (Nat.le_of_ble_eq_true rfl) (Nat.le_of_ble_eq_true rfl) dX3_init_34 (fun a2 H Y => ?_)
  refine lv_dup hx hb dX3_init_37 rfl ?_
  refine cgi (isC := [2]) (isR := [0, 1]) (it := [0]) (wr := [(q0, .inr (1, [.ref a1, .int (0 : Int32)])), (a1, .inl (cS, 6, .inr (.inr (.inr (.inr (fun _ => none))))))]) (As := []) (rest := [.ref a2, .int (0 : Int32), .ref a1]) S hK hA hZ Y hl.1 (mX5_init l D cI a2) rfl rfl rfl (by decide +kernel) (by decide +kernel) rfl (uw_in 130 rfl rfl) (uw_in 25 rfl rfl) (uw_in 3 rfl rfl) (uw_in 26 rfl rfl) ⟨by decide, by decide, by decide +kernel⟩ rfl ⟨Nat.le_of_ble_eq_true rfl, Nat.le_of_ble_eq_true rfl⟩ rfl rfl (Nat.le_of_ble_eq_true rfl) ⟨Nat.le_of_ble_eq_true rfl, Nat.le_of_ble_eq_true rfl⟩ dX3_init_38 (fun u2 H locs u2p Yn => ?_)
  subst u2p
  have Y : dy_ D A s ([(q0, .inr (1, [.ref a1, .int (0 : Int32)])), (a1, .inl (cS, 6, .inr (.inr (.inr (.inr (fun _ => none))))))] ++ wS cI u2 gS0) H locs := Yn
  refine iwq (r := (RX5, TX5, 16)) S hK Y 1 1 2 2 (f := (fun _ => none)) rfl rfl (vs := vS u2 (gS0 0)) rfl rfl (show ¬ ((0 : Int32) < 0 ∨ 6 ≤ ((0 : Int32)).toNatClampNeg) by decide) (ws' := ([(q0, .inr (1, [.ref a1, .int (0 : Int32)])), (a1, .inl (cS, 6, .inr (.inr (.inr (.inr (va_up (fun _ => none) 0 (some ((u2 0)))))))))] ++ wS cI u2 gS0)) rfl dX3_init_41 (fun H locs Y => ?_)
  refine lv_iinc (v := (1 : Int32)) (lv' := [(1, .int (1 : Int32)), (0, .ref q0)]) hx hb dX3_init_42 hl (k := 0) rfl (by decide) (Nat.le_of_ble_eq_true rfl) rfl (fun ls hl => ?_)
  refine lv_goto (tgt := 20) hx hb dX3_init_45 (by decide) ?_
  refine lv_iload_n hx hb dX3_init_20 rfl (lv_at hl 0 rfl) ?_
  refine lv_aload_n hx hb dX3_init_21 rfl (lv_at hl 1 rfl) ?_
  refine ig S hK Y fX3_11 0 rfl (v := .ref a1) rfl dX3_init_22 ?_
  refine va_alen (v := (6 : Int32)) hx hb hK Y.1 1 1 rfl rfl rfl dX3_init_25 ?_
  refine lv_icmp_ge (tgt := 48) hx hb dX3_init_26 (by decide) (fun q1 => absurd q1 (by decide)) (fun _ => ?_)
  refine lv_aload_n hx hb dX3_init_29 rfl (lv_at hl 1 rfl) ?_
  refine ig S hK Y fX3_11 0 rfl (v := .ref a1) rfl dX3_init_30 ?_
  refine lv_iload_n hx hb dX3_init_33 rfl (lv_at hl 0 rfl) ?_
  refine ino S hK hA Y (C := RX5) (T := TX5) (N := 16) (ci := 2) (fs := [.null, .null, .null, .null, .null, .null, .null, .null, .null, .int 0, .int 0, .int 0, .int 0, .int 0, .int 0, .int 0]) (uw_in 128 rfl rfl) (uw_in 23 rfl rfl) (uw_in 3 rfl rfl) iuX5 fpX5 rfl (by decide +kernel) (Nat.le_of_ble_eq_true rfl) (Nat.le_of_ble_eq_true rfl) dX3_init_34 (fun a3 H Y => ?_)
  refine lv_dup hx hb dX3_init_37 rfl ?_
  refine cgi (isC := [12]) (isR := [0, 1, 2, 3, 4, 5, 6, 7, 8, 9, 10, 11]) (it := [0]) (wr := ([(q0, .inr (1, [.ref a1, .int (0 : Int32)])), (a1, .inl (cS, 6, .inr (.inr (.inr (.inr (va_up (fun _ => none) 0 (some ((u2 0)))))))))] ++ wS cI u2 gS0)) (As := []) (rest := [.ref a3, .int (1 : Int32), .ref a1]) S hK hA hZ Y hl.1 (mX5_init l D cI a3) rfl rfl rfl (by decide +kernel) (by decide +kernel) rfl (uw_in 130 rfl rfl) (uw_in 25 rfl rfl) (uw_in 3 rfl rfl) (uw_in 26 rfl rfl) ⟨by decide, by decide, by decide +kernel⟩ rfl ⟨Nat.le_of_ble_eq_true rfl, Nat.le_of_ble_eq_true rfl⟩ rfl rfl (Nat.le_of_ble_eq_true rfl) ⟨Nat.le_of_ble_eq_true rfl, Nat.le_of_ble_eq_true rfl⟩ dX3_init_38 (fun u3 H locs u3p Yn => ?_)
  subst u3p
  have Y : dy_ D A s (([(q0, .inr (1, [.ref a1, .int (0 : Int32)])), (a1, .inl (cS, 6, .inr (.inr (.inr (.inr (va_up (fun _ => none) 0 (some ((u2 0)))))))))] ++ wS cI u2 gS0) ++ wS cI u3 gS0) H locs := Yn
  refine iwq (r := (RX5, TX5, 16)) S hK Y 1 1 12 2 (f := (va_up (fun _ => none) 0 (some ((u2 0))))) rfl rfl (vs := vS u3 (gS0 0)) rfl rfl (show ¬ ((1 : Int32) < 0 ∨ 6 ≤ ((1 : Int32)).toNatClampNeg) by decide) (ws' := (([(q0, .inr (1, [.ref a1, .int (0 : Int32)])), (a1, .inl (cS, 6, .inr (.inr (.inr (.inr (va_up (va_up (fun _ => none) 0 (some ((u2 0)))) 1 (some ((u3 0)))))))))] ++ wS cI u2 gS0) ++ wS cI u3 gS0)) rfl dX3_init_41 (fun H locs Y => ?_)
  refine lv_iinc (v := (2 : Int32)) (lv' := [(1, .int (2 : Int32)), (0, .ref q0)]) hx hb dX3_init_42 hl (k := 0) rfl (by decide) (Nat.le_of_ble_eq_true rfl) rfl (fun ls hl => ?_)
  refine lv_goto (tgt := 20) hx hb dX3_init_45 (by decide) ?_
  refine lv_iload_n hx hb dX3_init_20 rfl (lv_at hl 0 rfl) ?_
  refine lv_aload_n hx hb dX3_init_21 rfl (lv_at hl 1 rfl) ?_
  refine ig S hK Y fX3_11 0 rfl (v := .ref a1) rfl dX3_init_22 ?_
  refine va_alen (v := (6 : Int32)) hx hb hK Y.1 1 1 rfl rfl rfl dX3_init_25 ?_
  refine lv_icmp_ge (tgt := 48) hx hb dX3_init_26 (by decide) (fun q1 => absurd q1 (by decide)) (fun _ => ?_)
  refine lv_aload_n hx hb dX3_init_29 rfl (lv_at hl 1 rfl) ?_
  refine ig S hK Y fX3_11 0 rfl (v := .ref a1) rfl dX3_init_30 ?_
  refine lv_iload_n hx hb dX3_init_33 rfl (lv_at hl 0 rfl) ?_
  refine ino S hK hA Y (C := RX5) (T := TX5) (N := 16) (ci := 2) (fs := [.null, .null, .null, .null, .null, .null, .null, .null, .null, .int 0, .int 0, .int 0, .int 0, .int 0, .int 0, .int 0]) (uw_in 128 rfl rfl) (uw_in 23 rfl rfl) (uw_in 3 rfl rfl) iuX5 fpX5 rfl (by decide +kernel) (Nat.le_of_ble_eq_true rfl) (Nat.le_of_ble_eq_true rfl) dX3_init_34 (fun a4 H Y => ?_)
  refine lv_dup hx hb dX3_init_37 rfl ?_
  refine cgi (isC := [22]) (isR := [0, 1, 2, 3, 4, 5, 6, 7, 8, 9, 10, 11, 12, 13, 14, 15, 16, 17, 18, 19, 20, 21]) (it := [0]) (wr := (([(q0, .inr (1, [.ref a1, .int (0 : Int32)])), (a1, .inl (cS, 6, .inr (.inr (.inr (.inr (va_up (va_up (fun _ => none) 0 (some ((u2 0)))) 1 (some ((u3 0)))))))))] ++ wS cI u2 gS0) ++ wS cI u3 gS0)) (As := []) (rest := [.ref a4, .int (2 : Int32), .ref a1]) S hK hA hZ Y hl.1 (mX5_init l D cI a4) rfl rfl rfl (by decide +kernel) (by decide +kernel) rfl (uw_in 130 rfl rfl) (uw_in 25 rfl rfl) (uw_in 3 rfl rfl) (uw_in 26 rfl rfl) ⟨by decide, by decide, by decide +kernel⟩ rfl ⟨Nat.le_of_ble_eq_true rfl, Nat.le_of_ble_eq_true rfl⟩ rfl rfl (Nat.le_of_ble_eq_true rfl) ⟨Nat.le_of_ble_eq_true rfl, Nat.le_of_ble_eq_true rfl⟩ dX3_init_38 (fun u4 H locs u4p Yn => ?_)
  subst u4p
  have Y : dy_ D A s ((([(q0, .inr (1, [.ref a1, .int (0 : Int32)])), (a1, .inl (cS, 6, .inr (.inr (.inr (.inr (va_up (va_up (fun _ => none) 0 (some ((u2 0)))) 1 (some ((u3 0)))))))))] ++ wS cI u2 gS0) ++ wS cI u3 gS0) ++ wS cI u4 gS0) H locs := Yn
  refine iwq (r := (RX5, TX5, 16)) S hK Y 1 1 22 2 (f := (va_up (va_up (fun _ => none) 0 (some ((u2 0)))) 1 (some ((u3 0))))) rfl rfl (vs := vS u4 (gS0 0)) rfl rfl (show ¬ ((2 : Int32) < 0 ∨ 6 ≤ ((2 : Int32)).toNatClampNeg) by decide) (ws' := ((([(q0, .inr (1, [.ref a1, .int (0 : Int32)])), (a1, .inl (cS, 6, .inr (.inr (.inr (.inr (va_up (va_up (va_up (fun _ => none) 0 (some ((u2 0)))) 1 (some ((u3 0)))) 2 (some ((u4 0)))))))))] ++ wS cI u2 gS0) ++ wS cI u3 gS0) ++ wS cI u4 gS0)) rfl dX3_init_41 (fun H locs Y => ?_)
  refine lv_iinc (v := (3 : Int32)) (lv' := [(1, .int (3 : Int32)), (0, .ref q0)]) hx hb dX3_init_42 hl (k := 0) rfl (by decide) (Nat.le_of_ble_eq_true rfl) rfl (fun ls hl => ?_)
  refine lv_goto (tgt := 20) hx hb dX3_init_45 (by decide) ?_
  refine lv_iload_n hx hb dX3_init_20 rfl (lv_at hl 0 rfl) ?_
  refine lv_aload_n hx hb dX3_init_21 rfl (lv_at hl 1 rfl) ?_
  refine ig S hK Y fX3_11 0 rfl (v := .ref a1) rfl dX3_init_22 ?_
  refine va_alen (v := (6 : Int32)) hx hb hK Y.1 1 1 rfl rfl rfl dX3_init_25 ?_
  refine lv_icmp_ge (tgt := 48) hx hb dX3_init_26 (by decide) (fun q1 => absurd q1 (by decide)) (fun _ => ?_)
  refine lv_aload_n hx hb dX3_init_29 rfl (lv_at hl 1 rfl) ?_
  refine ig S hK Y fX3_11 0 rfl (v := .ref a1) rfl dX3_init_30 ?_
  refine lv_iload_n hx hb dX3_init_33 rfl (lv_at hl 0 rfl) ?_
  refine ino S hK hA Y (C := RX5) (T := TX5) (N := 16) (ci := 2) (fs := [.null, .null, .null, .null, .null, .null, .null, .null, .null, .int 0, .int 0, .int 0, .int 0, .int 0, .int 0, .int 0]) (uw_in 128 rfl rfl) (uw_in 23 rfl rfl) (uw_in 3 rfl rfl) iuX5 fpX5 rfl (by decide +kernel) (Nat.le_of_ble_eq_true rfl) (Nat.le_of_ble_eq_true rfl) dX3_init_34 (fun a5 H Y => ?_)
  refine lv_dup hx hb dX3_init_37 rfl ?_
  refine cgi (isC := [32]) (isR := [0, 1, 2, 3, 4, 5, 6, 7, 8, 9, 10, 11, 12, 13, 14, 15, 16, 17, 18, 19, 20, 21, 22, 23, 24, 25, 26, 27, 28, 29, 30, 31]) (it := [0]) (wr := ((([(q0, .inr (1, [.ref a1, .int (0 : Int32)])), (a1, .inl (cS, 6, .inr (.inr (.inr (.inr (va_up (va_up (va_up (fun _ => none) 0 (some ((u2 0)))) 1 (some ((u3 0)))) 2 (some ((u4 0)))))))))] ++ wS cI u2 gS0) ++ wS cI u3 gS0) ++ wS cI u4 gS0)) (As := []) (rest := [.ref a5, .int (3 : Int32), .ref a1]) S hK hA hZ Y hl.1 (mX5_init l D cI a5) rfl rfl rfl (by decide +kernel) (by decide +kernel) rfl (uw_in 130 rfl rfl) (uw_in 25 rfl rfl) (uw_in 3 rfl rfl) (uw_in 26 rfl rfl) ⟨by decide, by decide, by decide +kernel⟩ rfl ⟨Nat.le_of_ble_eq_true rfl, Nat.le_of_ble_eq_true rfl⟩ rfl rfl (Nat.le_of_ble_eq_true rfl) ⟨Nat.le_of_ble_eq_true rfl, Nat.le_of_ble_eq_true rfl⟩ dX3_init_38 (fun u5 H locs u5p Yn => ?_)
  subst u5p
  have Y : dy_ D A s (((([(q0, .inr (1, [.ref a1, .int (0 : Int32)])), (a1, .inl (cS, 6, .inr (.inr (.inr (.inr (va_up (va_up (va_up (fun _ => none) 0 (some ((u2 0)))) 1 (some ((u3 0)))) 2 (some ((u4 0)))))))))] ++ wS cI u2 gS0) ++ wS cI u3 gS0) ++ wS cI u4 gS0) ++ wS cI u5 gS0) H locs := Yn
  refine iwq (r := (RX5, TX5, 16)) S hK Y 1 1 32 2 (f := (va_up (va_up (va_up (fun _ => none) 0 (some ((u2 0)))) 1 (some ((u3 0)))) 2 (some ((u4 0))))) rfl rfl (vs := vS u5 (gS0 0)) rfl rfl (show ¬ ((3 : Int32) < 0 ∨ 6 ≤ ((3 : Int32)).toNatClampNeg) by decide) (ws' := (((([(q0, .inr (1, [.ref a1, .int (0 : Int32)])), (a1, .inl (cS, 6, .inr (.inr (.inr (.inr (va_up (va_up (va_up (va_up (fun _ => none) 0 (some ((u2 0)))) 1 (some ((u3 0)))) 2 (some ((u4 0)))) 3 (some ((u5 0)))))))))] ++ wS cI u2 gS0) ++ wS cI u3 gS0) ++ wS cI u4 gS0) ++ wS cI u5 gS0)) rfl dX3_init_41 (fun H locs Y => ?_)
  refine lv_iinc (v := (4 : Int32)) (lv' := [(1, .int (4 : Int32)), (0, .ref q0)]) hx hb dX3_init_42 hl (k := 0) rfl (by decide) (Nat.le_of_ble_eq_true rfl) rfl (fun ls hl => ?_)
  refine lv_goto (tgt := 20) hx hb dX3_init_45 (by decide) ?_
  refine lv_iload_n hx hb dX3_init_20 rfl (lv_at hl 0 rfl) ?_
  refine lv_aload_n hx hb dX3_init_21 rfl (lv_at hl 1 rfl) ?_
  refine ig S hK Y fX3_11 0 rfl (v := .ref a1) rfl dX3_init_22 ?_
  refine va_alen (v := (6 : Int32)) hx hb hK Y.1 1 1 rfl rfl rfl dX3_init_25 ?_
  refine lv_icmp_ge (tgt := 48) hx hb dX3_init_26 (by decide) (fun q1 => absurd q1 (by decide)) (fun _ => ?_)
  refine lv_aload_n hx hb dX3_init_29 rfl (lv_at hl 1 rfl) ?_
  refine ig S hK Y fX3_11 0 rfl (v := .ref a1) rfl dX3_init_30 ?_
  refine lv_iload_n hx hb dX3_init_33 rfl (lv_at hl 0 rfl) ?_
  refine ino S hK hA Y (C := RX5) (T := TX5) (N := 16) (ci := 2) (fs := [.null, .null, .null, .null, .null, .null, .null, .null, .null, .int 0, .int 0, .int 0, .int 0, .int 0, .int 0, .int 0]) (uw_in 128 rfl rfl) (uw_in 23 rfl rfl) (uw_in 3 rfl rfl) iuX5 fpX5 rfl (by decide +kernel) (Nat.le_of_ble_eq_true rfl) (Nat.le_of_ble_eq_true rfl) dX3_init_34 (fun a6 H Y => ?_)
  refine lv_dup hx hb dX3_init_37 rfl ?_
  refine cgi (isC := [42]) (isR := [0, 1, 2, 3, 4, 5, 6, 7, 8, 9, 10, 11, 12, 13, 14, 15, 16, 17, 18, 19, 20, 21, 22, 23, 24, 25, 26, 27, 28, 29, 30, 31, 32, 33, 34, 35, 36, 37, 38, 39, 40, 41]) (it := [0]) (wr := (((([(q0, .inr (1, [.ref a1, .int (0 : Int32)])), (a1, .inl (cS, 6, .inr (.inr (.inr (.inr (va_up (va_up (va_up (va_up (fun _ => none) 0 (some ((u2 0)))) 1 (some ((u3 0)))) 2 (some ((u4 0)))) 3 (some ((u5 0)))))))))] ++ wS cI u2 gS0) ++ wS cI u3 gS0) ++ wS cI u4 gS0) ++ wS cI u5 gS0)) (As := []) (rest := [.ref a6, .int (4 : Int32), .ref a1]) S hK hA hZ Y hl.1 (mX5_init l D cI a6) rfl rfl rfl (by decide +kernel) (by decide +kernel) rfl (uw_in 130 rfl rfl) (uw_in 25 rfl rfl) (uw_in 3 rfl rfl) (uw_in 26 rfl rfl) ⟨by decide, by decide, by decide +kernel⟩ rfl ⟨Nat.le_of_ble_eq_true rfl, Nat.le_of_ble_eq_true rfl⟩ rfl rfl (Nat.le_of_ble_eq_true rfl) ⟨Nat.le_of_ble_eq_true rfl, Nat.le_of_ble_eq_true rfl⟩ dX3_init_38 (fun u6 H locs u6p Yn => ?_)
  subst u6p
  have Y : dy_ D A s ((((([(q0, .inr (1, [.ref a1, .int (0 : Int32)])), (a1, .inl (cS, 6, .inr (.inr (.inr (.inr (va_up (va_up (va_up (va_up (fun _ => none) 0 (some ((u2 0)))) 1 (some ((u3 0)))) 2 (some ((u4 0)))) 3 (some ((u5 0)))))))))] ++ wS cI u2 gS0) ++ wS cI u3 gS0) ++ wS cI u4 gS0) ++ wS cI u5 gS0) ++ wS cI u6 gS0) H locs := Yn
  refine iwq (r := (RX5, TX5, 16)) S hK Y 1 1 42 2 (f := (va_up (va_up (va_up (va_up (fun _ => none) 0 (some ((u2 0)))) 1 (some ((u3 0)))) 2 (some ((u4 0)))) 3 (some ((u5 0))))) rfl rfl (vs := vS u6 (gS0 0)) rfl rfl (show ¬ ((4 : Int32) < 0 ∨ 6 ≤ ((4 : Int32)).toNatClampNeg) by decide) (ws' := ((((([(q0, .inr (1, [.ref a1, .int (0 : Int32)])), (a1, .inl (cS, 6, .inr (.inr (.inr (.inr (va_up (va_up (va_up (va_up (va_up (fun _ => none) 0 (some ((u2 0)))) 1 (some ((u3 0)))) 2 (some ((u4 0)))) 3 (some ((u5 0)))) 4 (some ((u6 0)))))))))] ++ wS cI u2 gS0) ++ wS cI u3 gS0) ++ wS cI u4 gS0) ++ wS cI u5 gS0) ++ wS cI u6 gS0)) rfl dX3_init_41 (fun H locs Y => ?_)
  refine lv_iinc (v := (5 : Int32)) (lv' := [(1, .int (5 : Int32)), (0, .ref q0)]) hx hb dX3_init_42 hl (k := 0) rfl (by decide) (Nat.le_of_ble_eq_true rfl) rfl (fun ls hl => ?_)
  refine lv_goto (tgt := 20) hx hb dX3_init_45 (by decide) ?_
  refine lv_iload_n hx hb dX3_init_20 rfl (lv_at hl 0 rfl) ?_
  refine lv_aload_n hx hb dX3_init_21 rfl (lv_at hl 1 rfl) ?_
  refine ig S hK Y fX3_11 0 rfl (v := .ref a1) rfl dX3_init_22 ?_
  refine va_alen (v := (6 : Int32)) hx hb hK Y.1 1 1 rfl rfl rfl dX3_init_25 ?_
  refine lv_icmp_ge (tgt := 48) hx hb dX3_init_26 (by decide) (fun q1 => absurd q1 (by decide)) (fun _ => ?_)
  refine lv_aload_n hx hb dX3_init_29 rfl (lv_at hl 1 rfl) ?_
  refine ig S hK Y fX3_11 0 rfl (v := .ref a1) rfl dX3_init_30 ?_
  refine lv_iload_n hx hb dX3_init_33 rfl (lv_at hl 0 rfl) ?_
  refine ino S hK hA Y (C := RX5) (T := TX5) (N := 16) (ci := 2) (fs := [.null, .null, .null, .null, .null, .null, .null, .null, .null, .int 0, .int 0, .int 0, .int 0, .int 0, .int 0, .int 0]) (uw_in 128 rfl rfl) (uw_in 23 rfl rfl) (uw_in 3 rfl rfl) iuX5 fpX5 rfl (by decide +kernel) (Nat.le_of_ble_eq_true rfl) (Nat.le_of_ble_eq_true rfl) dX3_init_34 (fun a7 H Y => ?_)
  refine lv_dup hx hb dX3_init_37 rfl ?_
  refine cgi (isC := [52]) (isR := [0, 1, 2, 3, 4, 5, 6, 7, 8, 9, 10, 11, 12, 13, 14, 15, 16, 17, 18, 19, 20, 21, 22, 23, 24, 25, 26, 27, 28, 29, 30, 31, 32, 33, 34, 35, 36, 37, 38, 39, 40, 41, 42, 43, 44, 45, 46, 47, 48, 49, 50, 51]) (it := [0]) (wr := ((((([(q0, .inr (1, [.ref a1, .int (0 : Int32)])), (a1, .inl (cS, 6, .inr (.inr (.inr (.inr (va_up (va_up (va_up (va_up (va_up (fun _ => none) 0 (some ((u2 0)))) 1 (some ((u3 0)))) 2 (some ((u4 0)))) 3 (some ((u5 0)))) 4 (some ((u6 0)))))))))] ++ wS cI u2 gS0) ++ wS cI u3 gS0) ++ wS cI u4 gS0) ++ wS cI u5 gS0) ++ wS cI u6 gS0)) (As := []) (rest := [.ref a7, .int (5 : Int32), .ref a1]) S hK hA hZ Y hl.1 (mX5_init l D cI a7) rfl rfl rfl (by decide +kernel) (by decide +kernel) rfl (uw_in 130 rfl rfl) (uw_in 25 rfl rfl) (uw_in 3 rfl rfl) (uw_in 26 rfl rfl) ⟨by decide, by decide, by decide +kernel⟩ rfl ⟨Nat.le_of_ble_eq_true rfl, Nat.le_of_ble_eq_true rfl⟩ rfl rfl (Nat.le_of_ble_eq_true rfl) ⟨Nat.le_of_ble_eq_true rfl, Nat.le_of_ble_eq_true rfl⟩ dX3_init_38 (fun u7 H locs u7p Yn => ?_)
  subst u7p
  have Y : dy_ D A s (((((([(q0, .inr (1, [.ref a1, .int (0 : Int32)])), (a1, .inl (cS, 6, .inr (.inr (.inr (.inr (va_up (va_up (va_up (va_up (va_up (fun _ => none) 0 (some ((u2 0)))) 1 (some ((u3 0)))) 2 (some ((u4 0)))) 3 (some ((u5 0)))) 4 (some ((u6 0)))))))))] ++ wS cI u2 gS0) ++ wS cI u3 gS0) ++ wS cI u4 gS0) ++ wS cI u5 gS0) ++ wS cI u6 gS0) ++ wS cI u7 gS0) H locs := Yn
  refine iwq (r := (RX5, TX5, 16)) S hK Y 1 1 52 2 (f := (va_up (va_up (va_up (va_up (va_up (fun _ => none) 0 (some ((u2 0)))) 1 (some ((u3 0)))) 2 (some ((u4 0)))) 3 (some ((u5 0)))) 4 (some ((u6 0))))) rfl rfl (vs := vS u7 (gS0 0)) rfl rfl (show ¬ ((5 : Int32) < 0 ∨ 6 ≤ ((5 : Int32)).toNatClampNeg) by decide) (ws' := (((((([(q0, .inr (1, [.ref a1, .int (0 : Int32)])), (a1, .inl (cS, 6, .inr (.inr (.inr (.inr (va_up (va_up (va_up (va_up (va_up (va_up (fun _ => none) 0 (some ((u2 0)))) 1 (some ((u3 0)))) 2 (some ((u4 0)))) 3 (some ((u5 0)))) 4 (some ((u6 0)))) 5 (some ((u7 0)))))))))] ++ wS cI u2 gS0) ++ wS cI u3 gS0) ++ wS cI u4 gS0) ++ wS cI u5 gS0) ++ wS cI u6 gS0) ++ wS cI u7 gS0)) rfl dX3_init_41 (fun H locs Y => ?_)
  refine lv_iinc (v := (6 : Int32)) (lv' := [(1, .int (6 : Int32)), (0, .ref q0)]) hx hb dX3_init_42 hl (k := 0) rfl (by decide) (Nat.le_of_ble_eq_true rfl) rfl (fun ls hl => ?_)
  refine lv_goto (tgt := 20) hx hb dX3_init_45 (by decide) ?_
  refine lv_iload_n hx hb dX3_init_20 rfl (lv_at hl 0 rfl) ?_
  refine lv_aload_n hx hb dX3_init_21 rfl (lv_at hl 1 rfl) ?_
  refine ig S hK Y fX3_11 0 rfl (v := .ref a1) rfl dX3_init_22 ?_
  refine va_alen (v := (6 : Int32)) hx hb hK Y.1 1 1 rfl rfl rfl dX3_init_25 ?_
  refine lv_icmp_ge (tgt := 48) hx hb dX3_init_26 (by decide) (fun _ => ?_) (fun q1 => absurd (by decide) q1)
  have Y := dy_q1 (g := rL (fun j => match j with | 8 => (fun i => match i with | 1 => q0 | _ => a1) | 2 => u2 | 3 => u3 | 4 => u4 | 5 => u5 | 6 => u6 | _ => u7) pi0) (rest := (((((wS cI u2 gS0 ++ wS cI u3 gS0) ++ wS cI u4 gS0) ++ wS cI u5 gS0) ++ wS cI u6 gS0) ++ wS cI u7 gS0)) (fun k hk => by rcases (show k = 0 ∨ k = 1 ∨ k = 2 ∨ k = 3 ∨ k = 4 ∨ k = 5 by omega) with rfl | rfl | rfl | rfl | rfl | rfl <;> rfl) Y
  exact me_rc (fun j => match j with | 8 => (fun i => match i with | 1 => q0 | _ => a1) | 2 => u2 | 3 => u3 | 4 => u4 | 5 => u5 | 6 => u6 | _ => u7) rfl rfl S hK Y hr hlk dX3_init_48
def gL0 : s3_T := fun j => match j with
  | 8 => fun _ _ => 0
  | 9 => gT0
  | _ => gS0
set_option maxRecDepth 100000 in
set_option maxHeartbeats 4000000 in
theorem mX7_init (l : Launch) (D : va_G) (cI cS : ClassId) (q0 : Nat) : me_C l D (tL cI cS) yX7_init cX7_init 1 3 64 84 870 [(q0, .inr (3, [.null, .null, .null, .null, .int 0]))] [.ref q0] (fun h : Nat → Nat → Nat => h 8 0 = q0) (fun h => wL cI cS h gL0 pi0) := by
  refine me_ofC (plainFor_of_name (by decide)) (Nat.le_of_ble_eq_true rfl) rfl ?_
  intro p e s m args below meth c A ls S hK Y hA hl hr hlk hZ hin
  have hx := S.1
  have hb := S.2.1
  have hl : lv_has ls 1 [(0, .ref q0)] := hl
  refine lv_aload_n hx hb dX7_init_0 rfl (lv_at hl 0 rfl) ?_
  refine ioi S (uw_in 19 rfl rfl) (uw_in 20 rfl rfl) (uw_in 21 rfl rfl) hl.1 (Nat.le_of_ble_eq_true rfl) (Nat.le_of_ble_eq_true rfl) dX7_init_1 ?_
  refine lv_aload_n hx hb dX7_init_4 rfl (lv_at hl 0 rfl) ?_
  refine ino S hK hA Y (C := RX5) (T := TX5) (N := 16) (ci := 2) (fs := [.null, .null, .null, .null, .null, .null, .null, .null, .null, .int 0, .int 0, .int 0, .int 0, .int 0, .int 0, .int 0]) (uw_in 22 rfl rfl) (uw_in 23 rfl rfl) (uw_in 3 rfl rfl) iuX5 fpX5 rfl (by decide +kernel) (Nat.le_of_ble_eq_true rfl) (Nat.le_of_ble_eq_true rfl) dX7_init_5 (fun a1 H Y => ?_)
  refine lv_dup hx hb dX7_init_8 rfl ?_
  refine cgi (isC := [1]) (isR := [0]) (it := [0]) (wr := [(q0, .inr (3, [.null, .null, .null, .null, .int 0]))]) (As := []) (rest := [.ref a1, .ref q0]) S hK hA hZ Y hl.1 (mX5_init l D cI a1) rfl rfl rfl (by decide +kernel) (by decide +kernel) rfl (uw_in 24 rfl rfl) (uw_in 25 rfl rfl) (uw_in 3 rfl rfl) (uw_in 26 rfl rfl) ⟨by decide, by decide, by decide +kernel⟩ rfl ⟨Nat.le_of_ble_eq_true rfl, Nat.le_of_ble_eq_true rfl⟩ rfl rfl (Nat.le_of_ble_eq_true rfl) ⟨Nat.le_of_ble_eq_true rfl, Nat.le_of_ble_eq_true rfl⟩ dX7_init_9 (fun u1 H locs u1p Yn => ?_)
  subst u1p
  have Y : dy_ D A s ([(q0, .inr (3, [.null, .null, .null, .null, .int 0]))] ++ wS cI u1 gS0) H locs := Yn
  refine ipF S hK Y hin fX7_10 fpX7 rfl rfl 0 (fs := [.null, .null, .null, .null, .int 0]) rfl rfl rfl (Nat.le_of_ble_eq_true rfl) (ws' := ([(q0, .inr (3, [.ref (u1 0), .null, .null, .null, .int 0]))] ++ wS cI u1 gS0)) rfl dX7_init_12 (fun H locs Y => ?_)
  refine lv_aload_n hx hb dX7_init_15 rfl (lv_at hl 0 rfl) ?_
  refine ino S hK hA Y (C := RX5) (T := TX5) (N := 16) (ci := 2) (fs := [.null, .null, .null, .null, .null, .null, .null, .null, .null, .int 0, .int 0, .int 0, .int 0, .int 0, .int 0, .int 0]) (uw_in 22 rfl rfl) (uw_in 23 rfl rfl) (uw_in 3 rfl rfl) iuX5 fpX5 rfl (by decide +kernel) (Nat.le_of_ble_eq_true rfl) (Nat.le_of_ble_eq_true rfl) dX7_init_16 (fun a2 H Y => ?_)
  refine lv_dup hx hb dX7_init_19 rfl ?_
  refine cgi (isC := [11]) (isR := [0, 1, 2, 3, 4, 5, 6, 7, 8, 9, 10]) (it := [0]) (wr := ([(q0, .inr (3, [.ref (u1 0), .null, .null, .null, .int 0]))] ++ wS cI u1 gS0)) (As := []) (rest := [.ref a2, .ref q0]) S hK hA hZ Y hl.1 (mX5_init l D cI a2) rfl rfl rfl (by decide +kernel) (by decide +kernel) rfl (uw_in 24 rfl rfl) (uw_in 25 rfl rfl) (uw_in 3 rfl rfl) (uw_in 26 rfl rfl) ⟨by decide, by decide, by decide +kernel⟩ rfl ⟨Nat.le_of_ble_eq_true rfl, Nat.le_of_ble_eq_true rfl⟩ rfl rfl (Nat.le_of_ble_eq_true rfl) ⟨Nat.le_of_ble_eq_true rfl, Nat.le_of_ble_eq_true rfl⟩ dX7_init_20 (fun u2 H locs u2p Yn => ?_)
  subst u2p
  have Y : dy_ D A s (([(q0, .inr (3, [.ref (u1 0), .null, .null, .null, .int 0]))] ++ wS cI u1 gS0) ++ wS cI u2 gS0) H locs := Yn
  refine ipF S hK Y hin fX7_16 fpX7 rfl rfl 0 (fs := [.ref (u1 0), .null, .null, .null, .int 0]) rfl rfl rfl (Nat.le_of_ble_eq_true rfl) (ws' := (([(q0, .inr (3, [.ref (u1 0), .ref (u2 0), .null, .null, .int 0]))] ++ wS cI u1 gS0) ++ wS cI u2 gS0)) rfl dX7_init_23 (fun H locs Y => ?_)
  refine lv_aload_n hx hb dX7_init_26 rfl (lv_at hl 0 rfl) ?_
  refine ino S hK hA Y (C := RX3) (T := TX3) (N := 2) (ci := 1) (fs := [.null, .int 0]) (uw_in 122 rfl rfl) (uw_in 123 rfl rfl) (uw_in 5 rfl rfl) iuX3 fpX3 rfl (by decide +kernel) (Nat.le_of_ble_eq_true rfl) (Nat.le_of_ble_eq_true rfl) dX7_init_27 (fun a3 H Y => ?_)
  refine lv_dup hx hb dX7_init_30 rfl ?_
  refine cgi (isC := [21]) (isR := [0, 1, 2, 3, 4, 5, 6, 7, 8, 9, 10, 11, 12, 13, 14, 15, 16, 17, 18, 19, 20]) (it := [0, 1]) (wr := (([(q0, .inr (3, [.ref (u1 0), .ref (u2 0), .null, .null, .int 0]))] ++ wS cI u1 gS0) ++ wS cI u2 gS0)) (As := []) (rest := [.ref a3, .ref q0]) S hK hA hZ Y hl.1 (mX3_init l D cI cS a3) rfl rfl rfl (by decide +kernel) (by decide +kernel) rfl (uw_in 124 rfl rfl) (uw_in 125 rfl rfl) (uw_in 5 rfl rfl) (uw_in 126 rfl rfl) ⟨by decide, by decide, by decide +kernel⟩ rfl ⟨Nat.le_of_ble_eq_true rfl, Nat.le_of_ble_eq_true rfl⟩ rfl rfl (Nat.le_of_ble_eq_true rfl) ⟨Nat.le_of_ble_eq_true rfl, Nat.le_of_ble_eq_true rfl⟩ dX7_init_31 (fun u3 H locs u3p Yn => ?_)
  subst u3p
  have Y : dy_ D A s ((([(q0, .inr (3, [.ref (u1 0), .ref (u2 0), .null, .null, .int 0]))] ++ wS cI u1 gS0) ++ wS cI u2 gS0) ++ wPs cI cS u3) H locs := Yn
  refine ipF S hK Y hin fX7_22 fpX7 rfl rfl 0 (fs := [.ref (u1 0), .ref (u2 0), .null, .null, .int 0]) rfl rfl rfl (Nat.le_of_ble_eq_true rfl) (ws' := ((([(q0, .inr (3, [.ref (u1 0), .ref (u2 0), .ref (u3 8 1), .null, .int 0]))] ++ wS cI u1 gS0) ++ wS cI u2 gS0) ++ wPs cI cS u3)) rfl dX7_init_34 (fun H locs Y => ?_)
  refine lv_aload_n hx hb dX7_init_37 rfl (lv_at hl 0 rfl) ?_
  refine ino S hK hA Y (C := RX1) (T := TX1) (N := 2) (ci := 0) (fs := [.null, .int 0]) (uw_in 138 rfl rfl) (uw_in 139 rfl rfl) (uw_in 6 rfl rfl) iuX1 fpX1 rfl (by decide +kernel) (Nat.le_of_ble_eq_true rfl) (Nat.le_of_ble_eq_true rfl) dX7_init_38 (fun a4 H Y => ?_)
  refine lv_dup hx hb dX7_init_41 rfl ?_
  refine cgi (isC := [83]) (isR := [0, 1, 2, 3, 4, 5, 6, 7, 8, 9, 10, 11, 12, 13, 14, 15, 16, 17, 18, 19, 20, 21, 22, 23, 24, 25, 26, 27, 28, 29, 30, 31, 32, 33, 34, 35, 36, 37, 38, 39, 40, 41, 42, 43, 44, 45, 46, 47, 48, 49, 50, 51, 52, 53, 54, 55, 56, 57, 58, 59, 60, 61, 62, 63, 64, 65, 66, 67, 68, 69, 70, 71, 72, 73, 74, 75, 76, 77, 78, 79, 80, 81, 82]) (it := [0]) (wr := ((([(q0, .inr (3, [.ref (u1 0), .ref (u2 0), .ref (u3 8 1), .null, .int 0]))] ++ wS cI u1 gS0) ++ wS cI u2 gS0) ++ wPs cI cS u3)) (As := []) (rest := [.ref a4, .ref q0]) S hK hA hZ Y hl.1 (mX1_init l D cI a4) rfl rfl rfl (by decide +kernel) (by decide +kernel) rfl (uw_in 140 rfl rfl) (uw_in 141 rfl rfl) (uw_in 6 rfl rfl) (uw_in 142 rfl rfl) ⟨by decide, by decide, by decide +kernel⟩ rfl ⟨Nat.le_of_ble_eq_true rfl, Nat.le_of_ble_eq_true rfl⟩ rfl rfl (Nat.le_of_ble_eq_true rfl) ⟨Nat.le_of_ble_eq_true rfl, Nat.le_of_ble_eq_true rfl⟩ dX7_init_42 (fun u4 H locs u4p Yn => ?_)
  subst u4p
  have Y : dy_ D A s (((([(q0, .inr (3, [.ref (u1 0), .ref (u2 0), .ref (u3 8 1), .null, .int 0]))] ++ wS cI u1 gS0) ++ wS cI u2 gS0) ++ wPs cI cS u3) ++ wT cI u4 gT0) H locs := Yn
  refine ipF S hK Y hin fX7_29 fpX7 rfl rfl 0 (fs := [.ref (u1 0), .ref (u2 0), .ref (u3 8 1), .null, .int 0]) rfl rfl rfl (Nat.le_of_ble_eq_true rfl) (ws' := (((([(q0, .inr (3, [.ref (u1 0), .ref (u2 0), .ref (u3 8 1), .ref (u4 0), .int 0]))] ++ wS cI u1 gS0) ++ wS cI u2 gS0) ++ wPs cI cS u3) ++ wT cI u4 gT0)) rfl dX7_init_45 (fun H locs Y => ?_)
  refine lv_aload_n hx hb dX7_init_48 rfl (lv_at hl 0 rfl) ?_
  refine lv_iconst (v := (0 : Int32)) hx hb dX7_init_49 (by decide) ?_
  refine ip S hK Y fX7_33 fpX7 rfl 0 (fs := [.ref (u1 0), .ref (u2 0), .ref (u3 8 1), .ref (u4 0), .int 0]) rfl rfl rfl (Nat.le_of_ble_eq_true rfl) (ws' := (((([(q0, .inr (3, [.ref (u1 0), .ref (u2 0), .ref (u3 8 1), .ref (u4 0), .int (0 : Int32)]))] ++ wS cI u1 gS0) ++ wS cI u2 gS0) ++ wPs cI cS u3) ++ wT cI u4 gT0)) rfl dX7_init_50 (fun H locs Y => ?_)
  have hps : ([0, 21, 22, 83, 84, 1, 2, 3, 4, 5, 6, 7, 8, 9, 10, 11, 12, 13, 14, 15, 16, 17, 18, 19, 20, 23, 24, 25, 26, 27, 28, 29, 30, 31, 32, 33, 34, 35, 36, 37, 38, 39, 40, 41, 42, 43, 44, 45, 46, 47, 48, 49, 50, 51, 52, 53, 54, 55, 56, 57, 58, 59, 60, 61, 62, 63, 64, 65, 66, 67, 68, 69, 70, 71, 72, 73, 74, 75, 76, 77, 78, 79, 80, 81, 82] : List Nat).map (fun i => ((((([(q0, .inr (3, [.ref (u1 0), .ref (u2 0), .ref (u3 8 1), .ref (u4 0), .int (0 : Int32)]))] ++ wS cI u1 gS0) ++ wS cI u2 gS0) ++ wPs cI cS u3) ++ wT cI u4 gT0))[i]?) = (wLr cI cS (fun j => match j with | 0 => u1 | 1 => u2 | 8 => (fun i => match i with | 0 => q0 | 1 => u3 8 1 | _ => u3 8 2) | 9 => u4 | j => u3 j) gL0 (rL u3 pi0)).map some := rfl
  have Y : dy_ D A s (wLr cI cS (fun j => match j with | 0 => u1 | 1 => u2 | 8 => (fun i => match i with | 0 => q0 | 1 => u3 8 1 | _ => u3 8 2) | 9 => u4 | j => u3 j) gL0 (rL u3 pi0)) H locs := ⟨Y.1.sub _ (cg_f hps), Y.2.1.sub _ (by decide +kernel) hps, Y.2.2⟩
  have Y := dy_q2 (g := rL (fun j => match j with | 0 => u1 | 1 => u2 | 8 => (fun i => match i with | 0 => q0 | 1 => u3 8 1 | _ => u3 8 2) | 9 => u4 | j => u3 j) pi0) (fun k hk => by rcases (show k = 0 ∨ k = 1 ∨ k = 2 ∨ k = 3 ∨ k = 4 ∨ k = 5 by omega) with rfl | rfl | rfl | rfl | rfl | rfl <;> rfl) Y
  exact me_rc (fun j => match j with | 0 => u1 | 1 => u2 | 8 => (fun i => match i with | 0 => q0 | 1 => u3 8 1 | _ => u3 8 2) | 9 => u4 | j => u3 j) rfl rfl S hK Y hr hlk dX7_init_53
