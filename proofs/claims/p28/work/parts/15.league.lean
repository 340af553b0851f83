def fX7_setting (p1 : Int32) (Λ : s3_T) (π : Nat → Nat) : Option (Int32) := ((fX5_isSetting p1).bind fun r_1 => (if r_1 = 0 then (some (-10002 : Int32)) else (o_x p1 4 (some (((Λ 0) 1) (p1).toNatClampNeg)))))
set_option maxRecDepth 100000 in
set_option maxHeartbeats 4000000 in
theorem mX7_setting (l : Launch) (D : va_G) (cI cS : ClassId) (h : Nat → Nat → Nat) (Λ : s3_T) (π : Nat → Nat) (p1 : Int32) (r : Int32) (hrun : fX7_setting p1 Λ π = some r) : me_I l D (tL cI cS) yX7_setting cX7_setting 2 .int 1 20 (wL cI cS h Λ π) [.ref (h 8 0), .int p1] r (wL cI cS h Λ π) := by
  refine me_ofI (plainFor_of_name (by decide)) (Nat.le_of_ble_eq_true rfl) ?_
  intro p e s m args below meth c A ls S hK Y hA hl hr hlk hZ
  have hx := S.1
  have hb := S.2.1
  have hl : lv_has ls 2 [(0, .ref (h 8 0)), (1, .int p1)] := hl
  unfold fX7_setting at hrun
  refine lv_iload_n hx hb dX7_setting_0 rfl (lv_at hl 1 rfl) ?_
  obtain ⟨r_1, e_2, hrun⟩ := o_bh hrun
  refine cp_s (As := [.int p1]) (rest := []) S hK hA hZ Y hl.1 (mX5_isSetting l D p1 r_1 e_2) kX7_51 ⟨Nat.le_of_ble_eq_true rfl, Nat.le_of_ble_eq_true rfl⟩ rfl rfl (Nat.le_of_ble_eq_true rfl) ⟨Nat.le_of_ble_eq_true rfl, Nat.le_of_ble_eq_true rfl⟩ dX7_setting_1 (fun H locs Y => ?_)
  refine lv_if_ne (tgt := 11) hx hb dX7_setting_4 (by decide) (fun c_3 => ?_) (fun c_3 => ?_)
  · have hrun := o_f hrun c_3
    refine lv_aload_n hx hb dX7_setting_11 rfl (lv_at hl 0 rfl) ?_
    refine ig S hK Y fX7_10 0 rfl (v := .ref (h 0 0)) rfl dX7_setting_12 ?_
    refine ig S hK Y fX7_55 5 rfl (v := .ref (h 0 1)) rfl dX7_setting_15 ?_
    refine lv_iload_n hx hb dX7_setting_18 rfl (lv_at hl 1 rfl) ?_
    obtain ⟨b_4, hrun⟩ := o_xh hrun
    refine ia S hK Y 6 0 (f := ((Λ 0) 1)) rfl rfl b_4 dX7_setting_19 ?_
    cases hrun
    exact me_ri S hK Y hr hlk rfl dX7_setting_20
  · have hrun := o_t hrun c_3
    refine lv_sipush (v := (-10002 : Int32)) hx hb dX7_setting_7 (by decide) ?_
    cases hrun
    exact me_ri S hK Y hr hlk rfl dX7_setting_10
def fX7_player (p1 p2 : Int32) (Λ : s3_T) (π : Nat → Nat) : Option (Int32) := ((fX5_isPlayer p1 (Λ 0)).bind fun r_1 => (if r_1 = 0 then (some (-10001 : Int32)) else (if p2 = (0 : Int32) then (o_x p1 8 (some (((Λ 0) 2) (p1).toNatClampNeg))) else (if p2 = (1 : Int32) then (o_x p1 8 (some (((Λ 0) 3) (p1).toNatClampNeg))) else (if p2 = (2 : Int32) then (o_x p1 8 (some (((Λ 0) 4) (p1).toNatClampNeg))) else (if p2 = (3 : Int32) then (o_x p1 8 (some (((Λ 0) 5) (p1).toNatClampNeg))) else (if p2 = (4 : Int32) then (o_x p1 8 (some (((Λ 0) 6) (p1).toNatClampNeg))) else (if p2 = (5 : Int32) then ((fX4_placeOf p1 (Λ 0)).bind fun r_15 => (some r_15)) else (if p2 = (6 : Int32) then (o_x p1 8 (some (((Λ 0) 7) (p1).toNatClampNeg))) else (some (-10002 : Int32)))))))))))
set_option maxRecDepth 100000 in
set_option maxHeartbeats 4000000 in
theorem mX7_player (l : Launch) (D : va_G) (cI cS : ClassId) (h : Nat → Nat → Nat) (Λ : s3_T) (π : Nat → Nat) (p1 p2 : Int32) (r : Int32) (hrun : fX7_player p1 p2 Λ π = some r) : me_I l D (tL cI cS) yX7_player cX7_player 3 .int 2 45 (wL cI cS h Λ π) [.ref (h 8 0), .int p1, .int p2] r (wL cI cS h Λ π) := by
  refine me_ofI (plainFor_of_name (by decide)) (Nat.le_of_ble_eq_true rfl) ?_
  intro p e s m args below meth c A ls S hK Y hA hl hr hlk hZ
  have hx := S.1
  have hb := S.2.1
  have hl : lv_has ls 3 [(0, .ref (h 8 0)), (1, .int p1), (2, .int p2)] := hl
  unfold fX7_player at hrun
  refine lv_aload_n hx hb dX7_player_0 rfl (lv_at hl 0 rfl) ?_
  refine ig S hK Y fX7_10 0 rfl (v := .ref (h 0 0)) rfl dX7_player_1 ?_
  refine lv_iload_n hx hb dX7_player_4 rfl (lv_at hl 1 rfl) ?_
  obtain ⟨r_1, e_2, hrun⟩ := o_bh hrun
  refine cg_v (ws2 := (wLr cI cS h (sg_3 Λ 0 (Λ 0)) (rL h π))) (it := [0]) (As := [.int p1]) (rest := []) S hK hA hZ Y hl.1 (mX5_isPlayer l D cI (h 0) (Λ 0) p1 r_1 e_2) (cNC h Λ (rL h π)) (cNR h Λ (rL h π)) nNC nNR dN_ (cNP h Λ (rL h π) (Λ 0)) nNP rfl kX7_82 (T := TX5) (N := 16) rfl (q0 := 5) rfl ⟨Nat.le_of_ble_eq_true rfl, Nat.le_of_ble_eq_true rfl⟩ rfl rfl (Nat.le_of_ble_eq_true rfl) ⟨Nat.le_of_ble_eq_true rfl, Nat.le_of_ble_eq_true rfl⟩ dX7_player_5 (fun H locs Y => ?_)
  have Y : dy_ D A s (wLr cI cS h Λ (rL h π)) H locs := Y
  refine lv_if_ne (tgt := 15) hx hb dX7_player_8 (by decide) (fun c_3 => ?_) (fun c_3 => ?_)
  · have hrun := o_f hrun c_3
    refine lv_iload_n hx hb dX7_player_15 rfl (lv_at hl 2 rfl) ?_
    rcases Decidable.em (p2 = (0 : Int32)) with c_4 | c_4
    · have hrun := o_t hrun c_4
      refine lv_tableIn (off := 44) (tgt := 60) hx hb dX7_player_16 (by rw [c_4]; decide) (by rw [c_4]; decide) (by rw [c_4]; rfl) (by decide) ?_
      refine lv_aload_n hx hb dX7_player_60 rfl (lv_at hl 0 rfl) ?_
      refine ig S hK Y fX7_10 0 rfl (v := .ref (h 0 0)) rfl dX7_player_61 ?_
      refine ig S hK Y fX7_85 5 rfl (v := .ref (h 0 2)) rfl dX7_player_64 ?_
      refine lv_iload_n hx hb dX7_player_67 rfl (lv_at hl 1 rfl) ?_
      obtain ⟨b_5, hrun⟩ := o_xh hrun
      refine ia S hK Y 7 0 (f := ((Λ 0) 2)) rfl rfl b_5 dX7_player_68 ?_
      cases hrun
      exact me_ri S hK Y hr hlk rfl dX7_player_69
    · have hrun := o_f hrun c_4
      rcases Decidable.em (p2 = (1 : Int32)) with c_6 | c_6
      · have hrun := o_t hrun c_6
        refine lv_tableIn (off := 54) (tgt := 70) hx hb dX7_player_16 (by rw [c_6]; decide) (by rw [c_6]; decide) (by rw [c_6]; rfl) (by decide) ?_
        refine lv_aload_n hx hb dX7_player_70 rfl (lv_at hl 0 rfl) ?_
        refine ig S hK Y fX7_10 0 rfl (v := .ref (h 0 0)) rfl dX7_player_71 ?_
        refine ig S hK Y fX7_88 5 rfl (v := .ref (h 0 3)) rfl dX7_player_74 ?_
        refine lv_iload_n hx hb dX7_player_77 rfl (lv_at hl 1 rfl) ?_
        obtain ⟨b_7, hrun⟩ := o_xh hrun
        refine ia S hK Y 8 0 (f := ((Λ 0) 3)) rfl rfl b_7 dX7_player_78 ?_
        cases hrun
        exact me_ri S hK Y hr hlk rfl dX7_player_79
      · have hrun := o_f hrun c_6
        rcases Decidable.em (p2 = (2 : Int32)) with c_8 | c_8
        · have hrun := o_t hrun c_8
          refine lv_tableIn (off := 64) (tgt := 80) hx hb dX7_player_16 (by rw [c_8]; decide) (by rw [c_8]; decide) (by rw [c_8]; rfl) (by decide) ?_
          refine lv_aload_n hx hb dX7_player_80 rfl (lv_at hl 0 rfl) ?_
          refine ig S hK Y fX7_10 0 rfl (v := .ref (h 0 0)) rfl dX7_player_81 ?_
          refine ig S hK Y fX7_91 5 rfl (v := .ref (h 0 4)) rfl dX7_player_84 ?_
          refine lv_iload_n hx hb dX7_player_87 rfl (lv_at hl 1 rfl) ?_
          obtain ⟨b_9, hrun⟩ := o_xh hrun
          refine ia S hK Y 9 0 (f := ((Λ 0) 4)) rfl rfl b_9 dX7_player_88 ?_
          cases hrun
          exact me_ri S hK Y hr hlk rfl dX7_player_89
        · have hrun := o_f hrun c_8
          rcases Decidable.em (p2 = (3 : Int32)) with c_10 | c_10
          · have hrun := o_t hrun c_10
            refine lv_tableIn (off := 74) (tgt := 90) hx hb dX7_player_16 (by rw [c_10]; decide) (by rw [c_10]; decide) (by rw [c_10]; rfl) (by decide) ?_
            refine lv_aload_n hx hb dX7_player_90 rfl (lv_at hl 0 rfl) ?_
            refine ig S hK Y fX7_10 0 rfl (v := .ref (h 0 0)) rfl dX7_player_91 ?_
            refine ig S hK Y fX7_94 5 rfl (v := .ref (h 0 5)) rfl dX7_player_94 ?_
            refine lv_iload_n hx hb dX7_player_97 rfl (lv_at hl 1 rfl) ?_
            obtain ⟨b_11, hrun⟩ := o_xh hrun
            refine ia S hK Y 10 0 (f := ((Λ 0) 5)) rfl rfl b_11 dX7_player_98 ?_
            cases hrun
            exact me_ri S hK Y hr hlk rfl dX7_player_99
          · have hrun := o_f hrun c_10
            rcases Decidable.em (p2 = (4 : Int32)) with c_12 | c_12
            · have hrun := o_t hrun c_12
              refine lv_tableIn (off := 84) (tgt := 100) hx hb dX7_player_16 (by rw [c_12]; decide) (by rw [c_12]; decide) (by rw [c_12]; rfl) (by decide) ?_
              refine lv_aload_n hx hb dX7_player_100 rfl (lv_at hl 0 rfl) ?_
              refine ig S hK Y fX7_10 0 rfl (v := .ref (h 0 0)) rfl dX7_player_101 ?_
              refine ig S hK Y fX7_97 5 rfl (v := .ref (h 0 6)) rfl dX7_player_104 ?_
              refine lv_iload_n hx hb dX7_player_107 rfl (lv_at hl 1 rfl) ?_
              obtain ⟨b_13, hrun⟩ := o_xh hrun
              refine ia S hK Y 11 0 (f := ((Λ 0) 6)) rfl rfl b_13 dX7_player_108 ?_
              cases hrun
              exact me_ri S hK Y hr hlk rfl dX7_player_109
            · have hrun := o_f hrun c_12
              rcases Decidable.em (p2 = (5 : Int32)) with c_14 | c_14
              · have hrun := o_t hrun c_14
                refine lv_tableIn (off := 94) (tgt := 110) hx hb dX7_player_16 (by rw [c_14]; decide) (by rw [c_14]; decide) (by rw [c_14]; rfl) (by decide) ?_
                refine lv_aload_n hx hb dX7_player_110 rfl (lv_at hl 0 rfl) ?_
                refine ig S hK Y fX7_10 0 rfl (v := .ref (h 0 0)) rfl dX7_player_111 ?_
                refine lv_iload_n hx hb dX7_player_114 rfl (lv_at hl 1 rfl) ?_
                obtain ⟨r_15, e_16, hrun⟩ := o_bh hrun
                refine cg_s (ws2 := (wLr cI cS h (sg_3 Λ 0 (Λ 0)) (rL h π))) (it := [0]) (As := [.ref (h 0 0), .int p1]) (rest := []) S hK hA hZ Y hl.1 (mX4_placeOf l D cI (h 0) (Λ 0) p1 r_15 e_16) (cNC h Λ (rL h π)) (cNR h Λ (rL h π)) nNC nNR dN_ (cNP h Λ (rL h π) (Λ 0)) nNP rfl kX7_100 ⟨Nat.le_of_ble_eq_true rfl, Nat.le_of_ble_eq_true rfl⟩ rfl rfl (Nat.le_of_ble_eq_true rfl) ⟨Nat.le_of_ble_eq_true rfl, Nat.le_of_ble_eq_true rfl⟩ dX7_player_115 (fun H locs Y => ?_)
                have Y : dy_ D A s (wLr cI cS h Λ (rL h π)) H locs := Y
                cases hrun
                exact me_ri S hK Y hr hlk rfl dX7_player_118
              · have hrun := o_f hrun c_14
                rcases Decidable.em (p2 = (6 : Int32)) with c_17 | c_17
                · have hrun := o_t hrun c_17
                  refine lv_tableIn (off := 103) (tgt := 119) hx hb dX7_player_16 (by rw [c_17]; decide) (by rw [c_17]; decide) (by rw [c_17]; rfl) (by decide) ?_
                  refine lv_aload_n hx hb dX7_player_119 rfl (lv_at hl 0 rfl) ?_
                  refine ig S hK Y fX7_10 0 rfl (v := .ref (h 0 0)) rfl dX7_player_120 ?_
                  refine ig S hK Y fX7_105 5 rfl (v := .ref (h 0 7)) rfl dX7_player_123 ?_
                  refine lv_iload_n hx hb dX7_player_126 rfl (lv_at hl 1 rfl) ?_
                  obtain ⟨b_18, hrun⟩ := o_xh hrun
                  refine ia S hK Y 12 0 (f := ((Λ 0) 7)) rfl rfl b_18 dX7_player_127 ?_
                  cases hrun
                  exact me_ri S hK Y hr hlk rfl dX7_player_128
                · have hrun := o_f hrun c_17
                  have tc_4 := lv_neT c_4 (show ((0 : Int32)).toInt = 0 by decide)
                  have tc_6 := lv_neT c_6 (show ((1 : Int32)).toInt = 1 by decide)
                  have tc_8 := lv_neT c_8 (show ((2 : Int32)).toInt = 2 by decide)
                  have tc_10 := lv_neT c_10 (show ((3 : Int32)).toInt = 3 by decide)
                  have tc_12 := lv_neT c_12 (show ((4 : Int32)).toInt = 4 by decide)
                  have tc_14 := lv_neT c_14 (show ((5 : Int32)).toInt = 5 by decide)
                  have tc_17 := lv_neT c_17 (show ((6 : Int32)).toInt = 6 by decide)
                  refine lv_tableOut (tgt := 129) hx hb dX7_player_16 (by omega) (by decide) ?_
                  refine lv_sipush (v := (-10002 : Int32)) hx hb dX7_player_129 (by decide) ?_
                  cases hrun
                  exact me_ri S hK Y hr hlk rfl dX7_player_132
  · have hrun := o_t hrun c_3
    refine lv_sipush (v := (-10001 : Int32)) hx hb dX7_player_11 (by decide) ?_
    cases hrun
    exact me_ri S hK Y hr hlk rfl dX7_player_14
def fX7_spot (p1 p2 : Int32) (Λ : s3_T) (π : Nat → Nat) : Option (Int32) := ((fX6_isSpot p1).bind fun r_1 => (if r_1 = 0 then (some (-10001 : Int32)) else (if p2 = (0 : Int32) then ((fX6_fromBase p1).bind fun r_5 => (some r_5)) else (if p2 = (1 : Int32) then (o_x p1 16 (some (((Λ 0) 8) (p1).toNatClampNeg))) else (if p2 = (2 : Int32) then ((fX5_isRetired p1 (Λ 0)).bind fun r_10 => (if r_10 = 0 then (some (0 : Int32)) else (some (1 : Int32)))) else (if p2 = (3 : Int32) then ((fX5_hidersAt p1 (Λ 0)).bind fun r_14 => (some r_14)) else (some (-10002 : Int32))))))))
set_option maxRecDepth 100000 in
set_option maxHeartbeats 4000000 in
theorem mX7_spot (l : Launch) (D : va_G) (cI cS : ClassId) (h : Nat → Nat → Nat) (Λ : s3_T) (π : Nat → Nat) (p1 p2 : Int32) (r : Int32) (hrun : fX7_spot p1 p2 Λ π = some r) : me_I l D (tL cI cS) yX7_spot cX7_spot 3 .int 3 63 (wL cI cS h Λ π) [.ref (h 8 0), .int p1, .int p2] r (wL cI cS h Λ π) := by
  refine me_ofI (plainFor_of_name (by decide)) (Nat.le_of_ble_eq_true rfl) ?_
  intro p e s m args below meth c A ls S hK Y hA hl hr hlk hZ
  have hx := S.1
  have hb := S.2.1
  have hl : lv_has ls 3 [(0, .ref (h 8 0)), (1, .int p1), (2, .int p2)] := hl
  unfold fX7_spot at hrun
  refine lv_iload_n hx hb dX7_spot_0 rfl (lv_at hl 1 rfl) ?_
  obtain ⟨r_1, e_2, hrun⟩ := o_bh hrun
  refine cp_s (As := [.int p1]) (rest := []) S hK hA hZ Y hl.1 (mX6_isSpot l D p1 r_1 e_2) kX7_108 ⟨Nat.le_of_ble_eq_true rfl, Nat.le_of_ble_eq_true rfl⟩ rfl rfl (Nat.le_of_ble_eq_true rfl) ⟨Nat.le_of_ble_eq_true rfl, Nat.le_of_ble_eq_true rfl⟩ dX7_spot_1 (fun H locs Y => ?_)
  refine lv_if_ne (tgt := 11) hx hb dX7_spot_4 (by decide) (fun c_3 => ?_) (fun c_3 => ?_)
  · have hrun := o_f hrun c_3
    refine lv_iload_n hx hb dX7_spot_11 rfl (lv_at hl 2 rfl) ?_
    rcases Decidable.em (p2 = (0 : Int32)) with c_4 | c_4
    · have hrun := o_t hrun c_4
      refine lv_tableIn (off := 32) (tgt := 44) hx hb dX7_spot_12 (by rw [c_4]; decide) (by rw [c_4]; decide) (by rw [c_4]; rfl) (by decide) ?_
      refine lv_iload_n hx hb dX7_spot_44 rfl (lv_at hl 1 rfl) ?_
      obtain ⟨r_5, e_6, hrun⟩ := o_bh hrun
      refine cp_s (As := [.int p1]) (rest := []) S hK hA hZ Y hl.1 (mX6_fromBase l D p1 r_5 e_6) kX7_113 ⟨Nat.le_of_ble_eq_true rfl, Nat.le_of_ble_eq_true rfl⟩ rfl rfl (Nat.le_of_ble_eq_true rfl) ⟨Nat.le_of_ble_eq_true rfl, Nat.le_of_ble_eq_true rfl⟩ dX7_spot_45 (fun H locs Y => ?_)
      cases hrun
      exact me_ri S hK Y hr hlk rfl dX7_spot_48
    · have hrun := o_f hrun c_4
      rcases Decidable.em (p2 = (1 : Int32)) with c_7 | c_7
      · have hrun := o_t hrun c_7
        refine lv_tableIn (off := 37) (tgt := 49) hx hb dX7_spot_12 (by rw [c_7]; decide) (by rw [c_7]; decide) (by rw [c_7]; rfl) (by decide) ?_
        refine lv_aload_n hx hb dX7_spot_49 rfl (lv_at hl 0 rfl) ?_
        refine ig S hK Y fX7_10 0 rfl (v := .ref (h 0 0)) rfl dX7_spot_50 ?_
        refine ig S hK Y fX7_116 5 rfl (v := .ref (h 0 8)) rfl dX7_spot_53 ?_
        refine lv_iload_n hx hb dX7_spot_56 rfl (lv_at hl 1 rfl) ?_
        obtain ⟨b_8, hrun⟩ := o_xh hrun
        refine ia S hK Y 13 0 (f := ((Λ 0) 8)) rfl rfl b_8 dX7_spot_57 ?_
        cases hrun
        exact me_ri S hK Y hr hlk rfl dX7_spot_58
      · have hrun := o_f hrun c_7
        rcases Decidable.em (p2 = (2 : Int32)) with c_9 | c_9
        · have hrun := o_t hrun c_9
          refine lv_tableIn (off := 47) (tgt := 59) hx hb dX7_spot_12 (by rw [c_9]; decide) (by rw [c_9]; decide) (by rw [c_9]; rfl) (by decide) ?_
          refine lv_aload_n hx hb dX7_spot_59 rfl (lv_at hl 0 rfl) ?_
          refine ig S hK Y fX7_10 0 rfl (v := .ref (h 0 0)) rfl dX7_spot_60 ?_
          refine lv_iload_n hx hb dX7_spot_63 rfl (lv_at hl 1 rfl) ?_
          obtain ⟨r_10, e_11, hrun⟩ := o_bh hrun
          refine cg_v (ws2 := (wLr cI cS h (sg_3 Λ 0 (Λ 0)) (rL h π))) (it := [0]) (As := [.int p1]) (rest := []) S hK hA hZ Y hl.1 (mX5_isRetired l D cI (h 0) (Λ 0) p1 r_10 e_11) (cNC h Λ (rL h π)) (cNR h Λ (rL h π)) nNC nNR dN_ (cNP h Λ (rL h π) (Λ 0)) nNP rfl kX7_119 (T := TX5) (N := 16) rfl (q0 := 5) rfl ⟨Nat.le_of_ble_eq_true rfl, Nat.le_of_ble_eq_true rfl⟩ rfl rfl (Nat.le_of_ble_eq_true rfl) ⟨Nat.le_of_ble_eq_true rfl, Nat.le_of_ble_eq_true rfl⟩ dX7_spot_64 (fun H locs Y => ?_)
          have Y : dy_ D A s (wLr cI cS h Λ (rL h π)) H locs := Y
          refine lv_if_eq (tgt := 74) hx hb dX7_spot_67 (by decide) (fun c_12 => ?_) (fun c_12 => ?_)
          · have hrun := o_t hrun c_12
            refine lv_iconst (v := (0 : Int32)) hx hb dX7_spot_74 (by decide) ?_
            cases hrun
            exact me_ri S hK Y hr hlk rfl dX7_spot_75
          · have hrun := o_f hrun c_12
            refine lv_iconst (v := (1 : Int32)) hx hb dX7_spot_70 (by decide) ?_
            refine lv_goto (tgt := 75) hx hb dX7_spot_71 (by decide) ?_
            cases hrun
            exact me_ri S hK Y hr hlk rfl dX7_spot_75
        · have hrun := o_f hrun c_9
          rcases Decidable.em (p2 = (3 : Int32)) with c_13 | c_13
          · have hrun := o_t hrun c_13
            refine lv_tableIn (off := 64) (tgt := 76) hx hb dX7_spot_12 (by rw [c_13]; decide) (by rw [c_13]; decide) (by rw [c_13]; rfl) (by decide) ?_
            refine lv_aload_n hx hb dX7_spot_76 rfl (lv_at hl 0 rfl) ?_
            refine ig S hK Y fX7_10 0 rfl (v := .ref (h 0 0)) rfl dX7_spot_77 ?_
            refine lv_iload_n hx hb dX7_spot_80 rfl (lv_at hl 1 rfl) ?_
            obtain ⟨r_14, e_15, hrun⟩ := o_bh hrun
            refine cg_v (ws2 := (wLr cI cS h (sg_3 Λ 0 (Λ 0)) (rL h π))) (it := [0]) (As := [.int p1]) (rest := []) S hK hA hZ Y hl.1 (mX5_hidersAt l D cI (h 0) (Λ 0) p1 r_14 e_15) (cNC h Λ (rL h π)) (cNR h Λ (rL h π)) nNC nNR dN_ (cNP h Λ (rL h π) (Λ 0)) nNP rfl kX7_122 (T := TX5) (N := 16) rfl (q0 := 5) rfl ⟨Nat.le_of_ble_eq_true rfl, Nat.le_of_ble_eq_true rfl⟩ rfl rfl (Nat.le_of_ble_eq_true rfl) ⟨Nat.le_of_ble_eq_true rfl, Nat.le_of_ble_eq_true rfl⟩ dX7_spot_81 (fun H locs Y => ?_)
            have Y : dy_ D A s (wLr cI cS h Λ (rL h π)) H locs := Y
            cases hrun
            exact me_ri S hK Y hr hlk rfl dX7_spot_84
          · have hrun := o_f hrun c_13
            have tc_4 := lv_neT c_4 (show ((0 : Int32)).toInt = 0 by decide)
            have tc_7 := lv_neT c_7 (show ((1 : Int32)).toInt = 1 by decide)
            have tc_9 := lv_neT c_9 (show ((2 : Int32)).toInt = 2 by decide)
            have tc_13 := lv_neT c_13 (show ((3 : Int32)).toInt = 3 by decide)
            refine lv_tableOut (tgt := 85) hx hb dX7_spot_12 (by omega) (by decide) ?_
            refine lv_sipush (v := (-10002 : Int32)) hx hb dX7_spot_85 (by decide) ?_
            cases hrun
            exact me_ri S hK Y hr hlk rfl dX7_spot_88
  · have hrun := o_t hrun c_3
    refine lv_sipush (v := (-10001 : Int32)) hx hb dX7_spot_7 (by decide) ?_
    cases hrun
    exact me_ri S hK Y hr hlk rfl dX7_spot_10
def fX7_ranked (p1 : Int32) (Λ : s3_T) (π : Nat → Nat) : Option (Int32) := ((fX4_playerAt p1 (Λ 0)).bind fun r_1 => (some r_1))
set_option maxRecDepth 100000 in
set_option maxHeartbeats 4000000 in
theorem mX7_ranked (l : Launch) (D : va_G) (cI cS : ClassId) (h : Nat → Nat → Nat) (Λ : s3_T) (π : Nat → Nat) (p1 : Int32) (r : Int32) (hrun : fX7_ranked p1 Λ π = some r) : me_I l D (tL cI cS) yX7_ranked cX7_ranked 2 .int 3 67 (wL cI cS h Λ π) [.ref (h 8 0), .int p1] r (wL cI cS h Λ π) := by
  refine me_ofI (plainFor_of_name (by decide)) (Nat.le_of_ble_eq_true rfl) ?_
  intro p e s m args below meth c A ls S hK Y hA hl hr hlk hZ
  have hx := S.1
  have hb := S.2.1
  have hl : lv_has ls 2 [(0, .ref (h 8 0)), (1, .int p1)] := hl
  unfold fX7_ranked at hrun
  refine lv_aload_n hx hb dX7_ranked_0 rfl (lv_at hl 0 rfl) ?_
  refine ig S hK Y fX7_10 0 rfl (v := .ref (h 0 0)) rfl dX7_ranked_1 ?_
  refine lv_iload_n hx hb dX7_ranked_4 rfl (lv_at hl 1 rfl) ?_
  obtain ⟨r_1, e_2, hrun⟩ := o_bh hrun
  refine cg_s (ws2 := (wLr cI cS h (sg_3 Λ 0 (Λ 0)) (rL h π))) (it := [0]) (As := [.ref (h 0 0), .int p1]) (rest := []) S hK hA hZ Y hl.1 (mX4_playerAt l D cI (h 0) (Λ 0) p1 r_1 e_2) (cNC h Λ (rL h π)) (cNR h Λ (rL h π)) nNC nNR dN_ (cNP h Λ (rL h π) (Λ 0)) nNP rfl kX7_125 ⟨Nat.le_of_ble_eq_true rfl, Nat.le_of_ble_eq_true rfl⟩ rfl rfl (Nat.le_of_ble_eq_true rfl) ⟨Nat.le_of_ble_eq_true rfl, Nat.le_of_ble_eq_true rfl⟩ dX7_ranked_5 (fun H locs Y => ?_)
  have Y : dy_ D A s (wLr cI cS h Λ (rL h π)) H locs := Y
  cases hrun
  exact me_ri S hK Y hr hlk rfl dX7_ranked_8
def fX7_nextSeeker (Λ : s3_T) (π : Nat → Nat) : Option (Int32) := ((fX4_seekerOfNextRound (Λ 0)).bind fun r_1 => (some r_1))
set_option maxRecDepth 100000 in
set_option maxHeartbeats 4000000 in
theorem mX7_nextSeeker (l : Launch) (D : va_G) (cI cS : ClassId) (h : Nat → Nat → Nat) (Λ : s3_T) (π : Nat → Nat) (r : Int32) (hrun : fX7_nextSeeker Λ π = some r) : me_I l D (tL cI cS) yX7_nextSeeker cX7_nextSeeker 1 .int 3 66 (wL cI cS h Λ π) [.ref (h 8 0)] r (wL cI cS h Λ π) := by
  refine me_ofI (plainFor_of_name (by decide)) (Nat.le_of_ble_eq_true rfl) ?_
  intro p e s m args below meth c A ls S hK Y hA hl hr hlk hZ
  have hx := S.1
  have hb := S.2.1
  have hl : lv_has ls 1 [(0, .ref (h 8 0))] := hl
  unfold fX7_nextSeeker at hrun
  refine lv_aload_n hx hb dX7_nextSeeker_0 rfl (lv_at hl 0 rfl) ?_
  refine ig S hK Y fX7_10 0 rfl (v := .ref (h 0 0)) rfl dX7_nextSeeker_1 ?_
  obtain ⟨r_1, e_2, hrun⟩ := o_bh hrun
  refine cg_s (ws2 := (wLr cI cS h (sg_3 Λ 0 (Λ 0)) (rL h π))) (it := [0]) (As := [.ref (h 0 0)]) (rest := []) S hK hA hZ Y hl.1 (mX4_seekerOfNextRound l D cI (h 0) (Λ 0) r_1 e_2) (cNC h Λ (rL h π)) (cNR h Λ (rL h π)) nNC nNR dN_ (cNP h Λ (rL h π) (Λ 0)) nNP rfl kX7_128 ⟨Nat.le_of_ble_eq_true rfl, Nat.le_of_ble_eq_true rfl⟩ rfl rfl (Nat.le_of_ble_eq_true rfl) ⟨Nat.le_of_ble_eq_true rfl, Nat.le_of_ble_eq_true rfl⟩ dX7_nextSeeker_4 (fun H locs Y => ?_)
  have Y : dy_ D A s (wLr cI cS h Λ (rL h π)) H locs := Y
  cases hrun
  exact me_ri S hK Y hr hlk rfl dX7_nextSeeker_7
def fX7_total (p1 : Int32) (Λ : s3_T) (π : Nat → Nat) : Option (Int32) := (if p1 = (0 : Int32) then (some ((Λ 0) 0 0)) else (if p1 = (1 : Int32) then (some ((Λ 0) 0 1)) else (if p1 = (2 : Int32) then (some ((Λ 0) 0 2)) else (if p1 = (3 : Int32) then (some ((Λ 0) 0 3)) else (if p1 = (4 : Int32) then (some ((Λ 0) 0 4)) else (if p1 = (5 : Int32) then (some ((Λ 0) 0 5)) else (if p1 = (6 : Int32) then (some ((Λ 0) 0 6)) else (if p1 = (7 : Int32) then ((fX5_hiddenCount (Λ 0)).bind fun r_9 => (some r_9)) else (if p1 = (8 : Int32) then ((fX5_retiredCount (Λ 0)).bind fun r_12 => (some r_12)) else (if p1 = (9 : Int32) then ((fX5_sumOfPoints (Λ 0)).bind fun r_15 => (some r_15)) else (some (-10002 : Int32))))))))))))
set_option maxRecDepth 100000 in
set_option maxHeartbeats 4000000 in
theorem mX7_total (l : Launch) (D : va_G) (cI cS : ClassId) (h : Nat → Nat → Nat) (Λ : s3_T) (π : Nat → Nat) (p1 : Int32) (r : Int32) (hrun : fX7_total p1 Λ π = some r) : me_I l D (tL cI cS) yX7_total cX7_total 2 .int 3 64 (wL cI cS h Λ π) [.ref (h 8 0), .int p1] r (wL cI cS h Λ π) := by
  refine me_ofI (plainFor_of_name (by decide)) (Nat.le_of_ble_eq_true rfl) ?_
  intro p e s m args below meth c A ls S hK Y hA hl hr hlk hZ
  have hx := S.1
  have hb := S.2.1
  have hl : lv_has ls 2 [(0, .ref (h 8 0)), (1, .int p1)] := hl
  unfold fX7_total at hrun
  refine lv_iload_n hx hb dX7_total_0 rfl (lv_at hl 1 rfl) ?_
  rcases Decidable.em (p1 = (0 : Int32)) with c_1 | c_1
  · have hrun := o_t hrun c_1
    refine lv_tableIn (off := 55) (tgt := 56) hx hb dX7_total_1 (by rw [c_1]; decide) (by rw [c_1]; decide) (by rw [c_1]; rfl) (by decide) ?_
    refine lv_aload_n hx hb dX7_total_56 rfl (lv_at hl 0 rfl) ?_
    refine ig S hK Y fX7_10 0 rfl (v := .ref (h 0 0)) rfl dX7_total_57 ?_
    refine ig S hK Y fX7_131 5 rfl (v := .int ((Λ 0) 0 0)) rfl dX7_total_60 ?_
    cases hrun
    exact me_ri S hK Y hr hlk rfl dX7_total_63
  · have hrun := o_f hrun c_1
    rcases Decidable.em (p1 = (1 : Int32)) with c_2 | c_2
    · have hrun := o_t hrun c_2
      refine lv_tableIn (off := 63) (tgt := 64) hx hb dX7_total_1 (by rw [c_2]; decide) (by rw [c_2]; decide) (by rw [c_2]; rfl) (by decide) ?_
      refine lv_aload_n hx hb dX7_total_64 rfl (lv_at hl 0 rfl) ?_
      refine ig S hK Y fX7_10 0 rfl (v := .ref (h 0 0)) rfl dX7_total_65 ?_
      refine ig S hK Y fX7_135 5 rfl (v := .int ((Λ 0) 0 1)) rfl dX7_total_68 ?_
      cases hrun
      exact me_ri S hK Y hr hlk rfl dX7_total_71
    · have hrun := o_f hrun c_2
      rcases Decidable.em (p1 = (2 : Int32)) with c_3 | c_3
      · have hrun := o_t hrun c_3
        refine lv_tableIn (off := 71) (tgt := 72) hx hb dX7_total_1 (by rw [c_3]; decide) (by rw [c_3]; decide) (by rw [c_3]; rfl) (by decide) ?_
        refine lv_aload_n hx hb dX7_total_72 rfl (lv_at hl 0 rfl) ?_
        refine ig S hK Y fX7_10 0 rfl (v := .ref (h 0 0)) rfl dX7_total_73 ?_
        refine ig S hK Y fX7_138 5 rfl (v := .int ((Λ 0) 0 2)) rfl dX7_total_76 ?_
        cases hrun
        exact me_ri S hK Y hr hlk rfl dX7_total_79
      · have hrun := o_f hrun c_3
        rcases Decidable.em (p1 = (3 : Int32)) with c_4 | c_4
        · have hrun := o_t hrun c_4
          refine lv_tableIn (off := 79) (tgt := 80) hx hb dX7_total_1 (by rw [c_4]; decide) (by rw [c_4]; decide) (by rw [c_4]; rfl) (by decide) ?_
          refine lv_aload_n hx hb dX7_total_80 rfl (lv_at hl 0 rfl) ?_
          refine ig S hK Y fX7_10 0 rfl (v := .ref (h 0 0)) rfl dX7_total_81 ?_
          refine ig S hK Y fX7_141 5 rfl (v := .int ((Λ 0) 0 3)) rfl dX7_total_84 ?_
          cases hrun
          exact me_ri S hK Y hr hlk rfl dX7_total_87
        · have hrun := o_f hrun c_4
          rcases Decidable.em (p1 = (4 : Int32)) with c_5 | c_5
          · have hrun := o_t hrun c_5
            refine lv_tableIn (off := 87) (tgt := 88) hx hb dX7_total_1 (by rw [c_5]; decide) (by rw [c_5]; decide) (by rw [c_5]; rfl) (by decide) ?_
            refine lv_aload_n hx hb dX7_total_88 rfl (lv_at hl 0 rfl) ?_
            refine ig S hK Y fX7_10 0 rfl (v := .ref (h 0 0)) rfl dX7_total_89 ?_
            refine ig S hK Y fX7_144 5 rfl (v := .int ((Λ 0) 0 4)) rfl dX7_total_92 ?_
            cases hrun
            exact me_ri S hK Y hr hlk rfl dX7_total_95
          · have hrun := o_f hrun c_5
            rcases Decidable.em (p1 = (5 : Int32)) with c_6 | c_6
            · have hrun := o_t hrun c_6
              refine lv_tableIn (off := 95) (tgt := 96) hx hb dX7_total_1 (by rw [c_6]; decide) (by rw [c_6]; decide) (by rw [c_6]; rfl) (by decide) ?_
              refine lv_aload_n hx hb dX7_total_96 rfl (lv_at hl 0 rfl) ?_
              refine ig S hK Y fX7_10 0 rfl (v := .ref (h 0 0)) rfl dX7_total_97 ?_
              refine ig S hK Y fX7_147 5 rfl (v := .int ((Λ 0) 0 5)) rfl dX7_total_100 ?_
              cases hrun
              exact me_ri S hK Y hr hlk rfl dX7_total_103
            · have hrun := o_f hrun c_6
              rcases Decidable.em (p1 = (6 : Int32)) with c_7 | c_7
              · have hrun := o_t hrun c_7
                refine lv_tableIn (off := 103) (tgt := 104) hx hb dX7_total_1 (by rw [c_7]; decide) (by rw [c_7]; decide) (by rw [c_7]; rfl) (by decide) ?_
                refine lv_aload_n hx hb dX7_total_104 rfl (lv_at hl 0 rfl) ?_
                refine ig S hK Y fX7_10 0 rfl (v := .ref (h 0 0)) rfl dX7_total_105 ?_
                refine ig S hK Y fX7_150 5 rfl (v := .int ((Λ 0) 0 6)) rfl dX7_total_108 ?_
                cases hrun
                exact me_ri S hK Y hr hlk rfl dX7_total_111
              · have hrun := o_f hrun c_7
                rcases Decidable.em (p1 = (7 : Int32)) with c_8 | c_8
                · have hrun := o_t hrun c_8
                  refine lv_tableIn (off := 111) (tgt := 112) hx hb dX7_total_1 (by rw [c_8]; decide) (by rw [c_8]; decide) (by rw [c_8]; rfl) (by decide) ?_
                  refine lv_aload_n hx hb dX7_total_112 rfl (lv_at hl 0 rfl) ?_
                  refine ig S hK Y fX7_10 0 rfl (v := .ref (h 0 0)) rfl dX7_total_113 ?_
                  obtain ⟨r_9, e_10, hrun⟩ := o_bh hrun
                  refine cg_v (ws2 := (wLr cI cS h (sg_3 Λ 0 (Λ 0)) (rL h π))) (it := [0]) (As := []) (rest := []) S hK hA hZ Y hl.1 (mX5_hiddenCount l D cI (h 0) (Λ 0) r_9 e_10) (cNC h Λ (rL h π)) (cNR h Λ (rL h π)) nNC nNR dN_ (cNP h Λ (rL h π) (Λ 0)) nNP rfl kX7_153 (T := TX5) (N := 16) rfl (q0 := 5) rfl ⟨Nat.le_of_ble_eq_true rfl, Nat.le_of_ble_eq_true rfl⟩ rfl rfl (Nat.le_of_ble_eq_true rfl) ⟨Nat.le_of_ble_eq_true rfl, Nat.le_of_ble_eq_true rfl⟩ dX7_total_116 (fun H locs Y => ?_)
                  have Y : dy_ D A s (wLr cI cS h Λ (rL h π)) H locs := Y
                  cases hrun
                  exact me_ri S hK Y hr hlk rfl dX7_total_119
                · have hrun := o_f hrun c_8
                  rcases Decidable.em (p1 = (8 : Int32)) with c_11 | c_11
                  · have hrun := o_t hrun c_11
                    refine lv_tableIn (off := 119) (tgt := 120) hx hb dX7_total_1 (by rw [c_11]; decide) (by rw [c_11]; decide) (by rw [c_11]; rfl) (by decide) ?_
                    refine lv_aload_n hx hb dX7_total_120 rfl (lv_at hl 0 rfl) ?_
                    refine ig S hK Y fX7_10 0 rfl (v := .ref (h 0 0)) rfl dX7_total_121 ?_
                    obtain ⟨r_12, e_13, hrun⟩ := o_bh hrun
                    refine cg_v (ws2 := (wLr cI cS h (sg_3 Λ 0 (Λ 0)) (rL h π))) (it := [0]) (As := []) (rest := []) S hK hA hZ Y hl.1 (mX5_retiredCount l D cI (h 0) (Λ 0) r_12 e_13) (cNC h Λ (rL h π)) (cNR h Λ (rL h π)) nNC nNR dN_ (cNP h Λ (rL h π) (Λ 0)) nNP rfl kX7_157 (T := TX5) (N := 16) rfl (q0 := 5) rfl ⟨Nat.le_of_ble_eq_true rfl, Nat.le_of_ble_eq_true rfl⟩ rfl rfl (Nat.le_of_ble_eq_true rfl) ⟨Nat.le_of_ble_eq_true rfl, Nat.le_of_ble_eq_true rfl⟩ dX7_total_124 (fun H locs Y => ?_)
                    have Y : dy_ D A s (wLr cI cS h Λ (rL h π)) H locs := Y
                    cases hrun
                    exact me_ri S hK Y hr hlk rfl dX7_total_127
                  · have hrun := o_f hrun c_11
                    rcases Decidable.em (p1 = (9 : Int32)) with c_14 | c_14
                    · have hrun := o_t hrun c_14
                      refine lv_tableIn (off := 127) (tgt := 128) hx hb dX7_total_1 (by rw [c_14]; decide) (by rw [c_14]; decide) (by rw [c_14]; rfl) (by decide) ?_
                      refine lv_aload_n hx hb dX7_total_128 rfl (lv_at hl 0 rfl) ?_
                      refine ig S hK Y fX7_10 0 rfl (v := .ref (h 0 0)) rfl dX7_total_129 ?_
                      obtain ⟨r_15, e_16, hrun⟩ := o_bh hrun
                      refine cg_v (ws2 := (wLr cI cS h (sg_3 Λ 0 (Λ 0)) (rL h π))) (it := [0]) (As := []) (rest := []) S hK hA hZ Y hl.1 (mX5_sumOfPoints l D cI (h 0) (Λ 0) r_15 e_16) (cNC h Λ (rL h π)) (cNR h Λ (rL h π)) nNC nNR dN_ (cNP h Λ (rL h π) (Λ 0)) nNP rfl kX7_160 (T := TX5) (N := 16) rfl (q0 := 5) rfl ⟨Nat.le_of_ble_eq_true rfl, Nat.le_of_ble_eq_true rfl⟩ rfl rfl (Nat.le_of_ble_eq_true rfl) ⟨Nat.le_of_ble_eq_true rfl, Nat.le_of_ble_eq_true rfl⟩ dX7_total_132 (fun H locs Y => ?_)
                      have Y : dy_ D A s (wLr cI cS h Λ (rL h π)) H locs := Y
                      cases hrun
                      exact me_ri S hK Y hr hlk rfl dX7_total_135
                    · have hrun := o_f hrun c_14
                      have tc_1 := lv_neT c_1 (show ((0 : Int32)).toInt = 0 by decide)
                      have tc_2 := lv_neT c_2 (show ((1 : Int32)).toInt = 1 by decide)
                      have tc_3 := lv_neT c_3 (show ((2 : Int32)).toInt = 2 by decide)
                      have tc_4 := lv_neT c_4 (show ((3 : Int32)).toInt = 3 by decide)
                      have tc_5 := lv_neT c_5 (show ((4 : Int32)).toInt = 4 by decide)
                      have tc_6 := lv_neT c_6 (show ((5 : Int32)).toInt = 5 by decide)
                      have tc_7 := lv_neT c_7 (show ((6 : Int32)).toInt = 6 by decide)
                      have tc_8 := lv_neT c_8 (show ((7 : Int32)).toInt = 7 by decide)
                      have tc_11 := lv_neT c_11 (show ((8 : Int32)).toInt = 8 by decide)
                      have tc_14 := lv_neT c_14 (show ((9 : Int32)).toInt = 9 by decide)
                      refine lv_tableOut (tgt := 136) hx hb dX7_total_1 (by omega) (by decide) ?_
                      refine lv_sipush (v := (-10002 : Int32)) hx hb dX7_total_136 (by decide) ?_
                      cases hrun
                      exact me_ri S hK Y hr hlk rfl dX7_total_139
def fX7_inSight (Λ : s3_T) (π : Nat → Nat) : Option (Int32) := ((fX0_spotsInSight (Λ 0)).bind fun r_1 => (some r_1))
set_option maxRecDepth 100000 in
set_option maxHeartbeats 4000000 in
theorem mX7_inSight (l : Launch) (D : va_G) (cI cS : ClassId) (h : Nat → Nat → Nat) (Λ : s3_T) (π : Nat → Nat) (r : Int32) (hrun : fX7_inSight Λ π = some r) : me_I l D (tL cI cS) yX7_inSight cX7_inSight 1 .int 5 107 (wL cI cS h Λ π) [.ref (h 8 0)] r (wL cI cS h Λ π) := by
  refine me_ofI (plainFor_of_name (by decide)) (Nat.le_of_ble_eq_true rfl) ?_
  intro p e s m args below meth c A ls S hK Y hA hl hr hlk hZ
  have hx := S.1
  have hb := S.2.1
  have hl : lv_has ls 1 [(0, .ref (h 8 0))] := hl
  unfold fX7_inSight at hrun
  refine lv_aload_n hx hb dX7_inSight_0 rfl (lv_at hl 0 rfl) ?_
  refine ig S hK Y fX7_10 0 rfl (v := .ref (h 0 0)) rfl dX7_inSight_1 ?_
  obtain ⟨r_1, e_2, hrun⟩ := o_bh hrun
  refine cg_s (ws2 := (wLr cI cS h (sg_3 Λ 0 (Λ 0)) (rL h π))) (it := [0]) (As := [.ref (h 0 0)]) (rest := []) S hK hA hZ Y hl.1 (mX0_spotsInSight l D cI (h 0) (Λ 0) r_1 e_2) (cNC h Λ (rL h π)) (cNR h Λ (rL h π)) nNC nNR dN_ (cNP h Λ (rL h π) (Λ 0)) nNP rfl kX7_163 ⟨Nat.le_of_ble_eq_true rfl, Nat.le_of_ble_eq_true rfl⟩ rfl rfl (Nat.le_of_ble_eq_true rfl) ⟨Nat.le_of_ble_eq_true rfl, Nat.le_of_ble_eq_true rfl⟩ dX7_inSight_4 (fun H locs Y => ?_)
  have Y : dy_ D A s (wLr cI cS h Λ (rL h π)) H locs := Y
  cases hrun
  exact me_ri S hK Y hr hlk rfl dX7_inSight_7
def fX7_couldDash (Λ : s3_T) (π : Nat → Nat) : Option (Int32) := ((fX0_playersWhoWouldEscape (Λ 0)).bind fun r_1 => (some r_1))
set_option maxRecDepth 100000 in
set_option maxHeartbeats 4000000 in
theorem mX7_couldDash (l : Launch) (D : va_G) (cI cS : ClassId) (h : Nat → Nat → Nat) (Λ : s3_T) (π : Nat → Nat) (r : Int32) (hrun : fX7_couldDash Λ π = some r) : me_I l D (tL cI cS) yX7_couldDash cX7_couldDash 1 .int 5 106 (wL cI cS h Λ π) [.ref (h 8 0)] r (wL cI cS h Λ π) := by
  refine me_ofI (plainFor_of_name (by decide)) (Nat.le_of_ble_eq_true rfl) ?_
  intro p e s m args below meth c A ls S hK Y hA hl hr hlk hZ
  have hx := S.1
  have hb := S.2.1
  have hl : lv_has ls 1 [(0, .ref (h 8 0))] := hl
  unfold fX7_couldDash at hrun
  refine lv_aload_n hx hb dX7_couldDash_0 rfl (lv_at hl 0 rfl) ?_
  refine ig S hK Y fX7_10 0 rfl (v := .ref (h 0 0)) rfl dX7_couldDash_1 ?_
  obtain ⟨r_1, e_2, hrun⟩ := o_bh hrun
  refine cg_s (ws2 := (wLr cI cS h (sg_3 Λ 0 (Λ 0)) (rL h π))) (it := [0]) (As := [.ref (h 0 0)]) (rest := []) S hK hA hZ Y hl.1 (mX0_playersWhoWouldEscape l D cI (h 0) (Λ 0) r_1 e_2) (cNC h Λ (rL h π)) (cNR h Λ (rL h π)) nNC nNR dN_ (cNP h Λ (rL h π) (Λ 0)) nNP rfl kX7_168 ⟨Nat.le_of_ble_eq_true rfl, Nat.le_of_ble_eq_true rfl⟩ rfl rfl (Nat.le_of_ble_eq_true rfl) ⟨Nat.le_of_ble_eq_true rfl, Nat.le_of_ble_eq_true rfl⟩ dX7_couldDash_4 (fun H locs Y => ?_)
  have Y : dy_ D A s (wLr cI cS h Λ (rL h π)) H locs := Y
  cases hrun
  exact me_ri S hK Y hr hlk rfl dX7_couldDash_7
def fX7_bestSpot (Λ : s3_T) (π : Nat → Nat) : Option (Int32) := ((fX0_bestHidingSpot (Λ 0)).bind fun r_1 => (some r_1))
set_option maxRecDepth 100000 in
set_option maxHeartbeats 4000000 in
theorem mX7_bestSpot (l : Launch) (D : va_G) (cI cS : ClassId) (h : Nat → Nat → Nat) (Λ : s3_T) (π : Nat → Nat) (r : Int32) (hrun : fX7_bestSpot Λ π = some r) : me_I l D (tL cI cS) yX7_bestSpot cX7_bestSpot 1 .int 6 127 (wL cI cS h Λ π) [.ref (h 8 0)] r (wL cI cS h Λ π) := by
  refine me_ofI (plainFor_of_name (by decide)) (Nat.le_of_ble_eq_true rfl) ?_
  intro p e s m args below meth c A ls S hK Y hA hl hr hlk hZ
  have hx := S.1
  have hb := S.2.1
  have hl : lv_has ls 1 [(0, .ref (h 8 0))] := hl
  unfold fX7_bestSpot at hrun
  refine lv_aload_n hx hb dX7_bestSpot_0 rfl (lv_at hl 0 rfl) ?_
  refine ig S hK Y fX7_10 0 rfl (v := .ref (h 0 0)) rfl dX7_bestSpot_1 ?_
  obtain ⟨r_1, e_2, hrun⟩ := o_bh hrun
  refine cg_s (ws2 := (wLr cI cS h (sg_3 Λ 0 (Λ 0)) (rL h π))) (it := [0]) (As := [.ref (h 0 0)]) (rest := []) S hK hA hZ Y hl.1 (mX0_bestHidingSpot l D cI (h 0) (Λ 0) r_1 e_2) (cNC h Λ (rL h π)) (cNR h Λ (rL h π)) nNC nNR dN_ (cNP h Λ (rL h π) (Λ 0)) nNP rfl kX7_171 ⟨Nat.le_of_ble_eq_true rfl, Nat.le_of_ble_eq_true rfl⟩ rfl rfl (Nat.le_of_ble_eq_true rfl) ⟨Nat.le_of_ble_eq_true rfl, Nat.le_of_ble_eq_true rfl⟩ dX7_bestSpot_4 (fun H locs Y => ?_)
  have Y : dy_ D A s (wLr cI cS h Λ (rL h π)) H locs := Y
  cases hrun
  exact me_ri S hK Y hr hlk rfl dX7_bestSpot_7
def fX7_fewestSteps (Λ : s3_T) (π : Nat → Nat) : Option (Int32) := ((fX0_stepsToSeeAll (Λ 0)).bind fun r_1 => (some r_1))
set_option maxRecDepth 100000 in
set_option maxHeartbeats 4000000 in
theorem mX7_fewestSteps (l : Launch) (D : va_G) (cI cS : ClassId) (h : Nat → Nat → Nat) (Λ : s3_T) (π : Nat → Nat) (r : Int32) (hrun : fX7_fewestSteps Λ π = some r) : me_I l D (tL cI cS) yX7_fewestSteps cX7_fewestSteps 1 .int 6 133 (wL cI cS h Λ π) [.ref (h 8 0)] r (wL cI cS h Λ π) := by
  refine me_ofI (plainFor_of_name (by decide)) (Nat.le_of_ble_eq_true rfl) ?_
  intro p e s m args below meth c A ls S hK Y hA hl hr hlk hZ
  have hx := S.1
  have hb := S.2.1
  have hl : lv_has ls 1 [(0, .ref (h 8 0))] := hl
  unfold fX7_fewestSteps at hrun
  refine lv_aload_n hx hb dX7_fewestSteps_0 rfl (lv_at hl 0 rfl) ?_
  refine ig S hK Y fX7_10 0 rfl (v := .ref (h 0 0)) rfl dX7_fewestSteps_1 ?_
  obtain ⟨r_1, e_2, hrun⟩ := o_bh hrun
  refine cg_s (ws2 := (wLr cI cS h (sg_3 Λ 0 (Λ 0)) (rL h π))) (it := [0]) (As := [.ref (h 0 0)]) (rest := []) S hK hA hZ Y hl.1 (mX0_stepsToSeeAll l D cI (h 0) (Λ 0) r_1 e_2) (cNC h Λ (rL h π)) (cNR h Λ (rL h π)) nNC nNR dN_ (cNP h Λ (rL h π) (Λ 0)) nNP rfl kX7_174 ⟨Nat.le_of_ble_eq_true rfl, Nat.le_of_ble_eq_true rfl⟩ rfl rfl (Nat.le_of_ble_eq_true rfl) ⟨Nat.le_of_ble_eq_true rfl, Nat.le_of_ble_eq_true rfl⟩ dX7_fewestSteps_4 (fun H locs Y => ?_)
  have Y : dy_ D A s (wLr cI cS h Λ (rL h π)) H locs := Y
  cases hrun
  exact me_ri S hK Y hr hlk rfl dX7_fewestSteps_7
def fX3_draft (Λ : s3_T) (π : Nat → Nat) : Option (s3_T × (Nat → Nat)) := (o_x (Λ 8 0 1) 6 (o_k (2 ≤ π ((Λ 8 0 1)).toNatClampNeg ∧ π ((Λ 8 0 1)).toNatClampNeg < 8) (some ((sg_3 Λ (π ((Λ 8 0 1)).toNatClampNeg) (Λ (0))), π))))
set_option maxRecDepth 100000 in
set_option maxHeartbeats 4000000 in
theorem mX3_draft (l : Launch) (D : va_G) (cI cS : ClassId) (h : Nat → Nat → Nat) (Λ : s3_T) (π : Nat → Nat) (Λ' : s3_T) (π' : Nat → Nat) (hrun : fX3_draft Λ π = some (Λ', π')) : me_V l D (tL cI cS) yX3_draft cX3_draft 2 2 39 (wL cI cS h Λ π) [.ref (h 8 1), .ref (h 0 0)] (wL cI cS h Λ' π') := by
  refine me_ofV (plainFor_of_name (by decide)) (Nat.le_of_ble_eq_true rfl) ?_
  intro p e s m args below meth c A ls S hK Y hA hl hr hlk hZ
  have hx := S.1
  have hb := S.2.1
  have hl : lv_has ls 2 [(0, .ref (h 8 1)), (1, .ref (h 0 0))] := hl
  unfold fX3_draft at hrun
  refine lv_aload_n hx hb dX3_draft_0 rfl (lv_at hl 0 rfl) ?_
  refine ig S hK Y fX3_11 1 rfl (v := .ref (h 8 2)) rfl dX3_draft_1 ?_
  refine lv_aload_n hx hb dX3_draft_4 rfl (lv_at hl 0 rfl) ?_
  refine ig S hK Y fX3_17 1 rfl (v := .int (Λ 8 0 1)) rfl dX3_draft_5 ?_
  obtain ⟨b_1, hrun⟩ := o_xh hrun
  refine iaq S hK Y 2 1 (x := h (π ((Λ 8 0 1)).toNatClampNeg) 0) (f := (rL h π)) rfl rfl b_1 rfl dX3_draft_8 ?_
  refine lv_aload_n hx hb dX3_draft_9 rfl (lv_at hl 1 rfl) ?_
  obtain ⟨c_2, hrun⟩ := o_kh hrun
  obtain ⟨isC, isR, ps, wr, x1, x2, x3, x4, x5, x6, x7⟩ := ct_i cI cS h Λ (rL h π) _ c_2
  refine cg_vv (it := [0]) (As := [.ref (h 0 0)]) (rest := []) S hK hA hZ Y hl.1 (mX5_copyFrom l D cI (h (π ((Λ 8 0 1)).toNatClampNeg)) (h (0)) (Λ (π ((Λ 8 0 1)).toNatClampNeg)) (Λ (0))) x1 x2 x3 x4 x5 x6 x7 rfl kX3_22 (T := TX5) (N := 16) rfl (q0 := 5 + 10 * (π ((Λ 8 0 1)).toNatClampNeg)) (wL_st _ _ _ _ (by omega)) ⟨Nat.le_of_ble_eq_true rfl, Nat.le_of_ble_eq_true rfl⟩ rfl rfl (Nat.le_of_ble_eq_true rfl) ⟨Nat.le_of_ble_eq_true rfl, Nat.le_of_ble_eq_true rfl⟩ dX3_draft_10 (fun H locs Y => ?_)
  cases hrun
  exact me_rv S hK Y hr hlk dX3_draft_13
def fX3_discardOldest (Λ : s3_T) (π : Nat → Nat) : Option (s3_T × (Nat → Nat)) := (o_k (π 1 < 8) (o_k (π 2 < 8) (o_k (π 3 < 8) (o_k (π 4 < 8) (o_k (π 5 < 8) (o_k (π 0 < 8) (some (Λ, (dp_ π)))))))))
set_option maxRecDepth 100000 in
set_option maxHeartbeats 4000000 in
theorem mX3_discardOldest (l : Launch) (D : va_G) (cI cS : ClassId) (h : Nat → Nat → Nat) (Λ : s3_T) (π : Nat → Nat) (Λ' : s3_T) (π' : Nat → Nat) (hrun : fX3_discardOldest Λ π = some (Λ', π')) : me_V l D (tL cI cS) yX3_discardOldest cX3_discardOldest 3 0 0 (wL cI cS h Λ π) [.ref (h 8 1)] (wL cI cS h Λ' π') := by
  refine me_ofV (plainFor_of_name (by decide)) (Nat.le_of_ble_eq_true rfl) ?_
  intro p e s m args below meth c A ls S hK Y hA hl hr hlk hZ
  have hx := S.1
  have hb := S.2.1
  have hl : lv_has ls 3 [(0, .ref (h 8 1))] := hl
  unfold fX3_discardOldest at hrun
  refine lv_aload_n hx hb dX3_discardOldest_0 rfl (lv_at hl 0 rfl) ?_
  refine ig S hK Y fX3_11 1 rfl (v := .ref (h 8 2)) rfl dX3_discardOldest_1 ?_
  refine lv_iconst (v := (0 : Int32)) hx hb dX3_discardOldest_4 (by decide) ?_
  refine iaq S hK Y 2 1 (x := h (π 0) 0) (f := (rL h π)) rfl rfl (show ¬ ((0 : Int32) < 0 ∨ 6 ≤ ((0 : Int32)).toNatClampNeg) by decide) rfl dX3_discardOldest_5 ?_
  refine lv_astore_n (lv' := [(1, .ref (h (π 0) 0)), (0, .ref (h 8 1))]) hx hb dX3_discardOldest_6 rfl hl (Nat.le_of_ble_eq_true rfl) rfl (fun ls hl => ?_)
  refine lv_iconst (v := (0 : Int32)) hx hb dX3_discardOldest_7 (by decide) ?_
  refine lv_istore_n (lv' := [(2, .int (0 : Int32)), (1, .ref (h (π 0) 0)), (0, .ref (h 8 1))]) hx hb dX3_discardOldest_8 rfl hl (Nat.le_of_ble_eq_true rfl) rfl (fun ls hl => ?_)
  refine lv_iload_n hx hb dX3_discardOldest_9 rfl (lv_at hl 0 rfl) ?_
  refine lv_iconst (v := (5 : Int32)) hx hb dX3_discardOldest_10 (by decide) ?_
  refine lv_icmp_ge (tgt := 34) hx hb dX3_discardOldest_11 (by decide) (fun q => absurd q (by decide)) (fun _ => ?_)
  refine lv_aload_n hx hb dX3_discardOldest_14 rfl (lv_at hl 2 rfl) ?_
  refine ig S hK Y fX3_11 1 rfl (v := .ref (h 8 2)) rfl dX3_discardOldest_15 ?_
  refine lv_iload_n hx hb dX3_discardOldest_18 rfl (lv_at hl 0 rfl) ?_
  refine lv_aload_n hx hb dX3_discardOldest_19 rfl (lv_at hl 2 rfl) ?_
  refine ig S hK Y fX3_11 1 rfl (v := .ref (h 8 2)) rfl dX3_discardOldest_20 ?_
  refine lv_iload_n hx hb dX3_discardOldest_23 rfl (lv_at hl 0 rfl) ?_
  refine lv_iconst (v := (1 : Int32)) hx hb dX3_discardOldest_24 (by decide) ?_
  refine lv_iadd hx hb dX3_discardOldest_25 ?_
  rw [show ((0 : Int32) + (1 : Int32)) = (1 : Int32) by decide]
  refine iaq S hK Y 2 1 (x := h (π 1) 0) (f := (rL h π)) rfl rfl (show ¬ ((1 : Int32) < 0 ∨ 6 ≤ ((1 : Int32)).toNatClampNeg) by decide) rfl dX3_discardOldest_26 ?_
  obtain ⟨c_1, hrun⟩ := o_kh hrun
  refine iwq (r := (RX5, TX5, 16)) S hK Y 2 1 (5 + 10 * (π 1)) 2 (f := (rL h π)) rfl rfl (wL_st _ _ _ _ c_1) rfl (show ¬ ((0 : Int32) < 0 ∨ 6 ≤ ((0 : Int32)).toNatClampNeg) by decide) (ws' := (wLr cI cS h Λ (va_up (rL h π) 0 (some (h (π 1) 0))))) (wL_a _ _ _ _) dX3_discardOldest_27 (fun H locs Y => ?_)
  refine lv_iinc (v := (1 : Int32)) (lv' := [(2, .int (1 : Int32)), (1, .ref (h (π 0) 0)), (0, .ref (h 8 1))]) hx hb dX3_discardOldest_28 hl (k := 0) rfl (by decide) (Nat.le_of_ble_eq_true rfl) rfl (fun ls hl => ?_)
  refine lv_goto (tgt := 9) hx hb dX3_discardOldest_31 (by decide) ?_
  refine lv_iload_n hx hb dX3_discardOldest_9 rfl (lv_at hl 0 rfl) ?_
  refine lv_iconst (v := (5 : Int32)) hx hb dX3_discardOldest_10 (by decide) ?_
  refine lv_icmp_ge (tgt := 34) hx hb dX3_discardOldest_11 (by decide) (fun q => absurd q (by decide)) (fun _ => ?_)
  refine lv_aload_n hx hb dX3_discardOldest_14 rfl (lv_at hl 2 rfl) ?_
  refine ig S hK Y fX3_11 1 rfl (v := .ref (h 8 2)) rfl dX3_discardOldest_15 ?_
  refine lv_iload_n hx hb dX3_discardOldest_18 rfl (lv_at hl 0 rfl) ?_
  refine lv_aload_n hx hb dX3_discardOldest_19 rfl (lv_at hl 2 rfl) ?_
  refine ig S hK Y fX3_11 1 rfl (v := .ref (h 8 2)) rfl dX3_discardOldest_20 ?_
  refine lv_iload_n hx hb dX3_discardOldest_23 rfl (lv_at hl 0 rfl) ?_
  refine lv_iconst (v := (1 : Int32)) hx hb dX3_discardOldest_24 (by decide) ?_
  refine lv_iadd hx hb dX3_discardOldest_25 ?_
  rw [show ((1 : Int32) + (1 : Int32)) = (2 : Int32) by decide]
  refine iaq S hK Y 2 1 (x := h (π 2) 0) (f := (va_up (rL h π) 0 (some (h (π 1) 0)))) rfl rfl (show ¬ ((2 : Int32) < 0 ∨ 6 ≤ ((2 : Int32)).toNatClampNeg) by decide) rfl dX3_discardOldest_26 ?_
  obtain ⟨c_2, hrun⟩ := o_kh hrun
  refine iwq (r := (RX5, TX5, 16)) S hK Y 2 1 (5 + 10 * (π 2)) 2 (f := (va_up (rL h π) 0 (some (h (π 1) 0)))) rfl rfl (wL_st _ _ _ _ c_2) rfl (show ¬ ((1 : Int32) < 0 ∨ 6 ≤ ((1 : Int32)).toNatClampNeg) by decide) (ws' := (wLr cI cS h Λ (va_up (va_up (rL h π) 0 (some (h (π 1) 0))) 1 (some (h (π 2) 0))))) (wL_a _ _ _ _) dX3_discardOldest_27 (fun H locs Y => ?_)
  refine lv_iinc (v := (2 : Int32)) (lv' := [(2, .int (2 : Int32)), (1, .ref (h (π 0) 0)), (0, .ref (h 8 1))]) hx hb dX3_discardOldest_28 hl (k := 0) rfl (by decide) (Nat.le_of_ble_eq_true rfl) rfl (fun ls hl => ?_)
  refine lv_goto (tgt := 9) hx hb dX3_discardOldest_31 (by decide) ?_
  refine lv_iload_n hx hb dX3_discardOldest_9 rfl (lv_at hl 0 rfl) ?_
  refine lv_iconst (v := (5 : Int32)) hx hb dX3_discardOldest_10 (by decide) ?_
  refine lv_icmp_ge (tgt := 34) hx hb dX3_discardOldest_11 (by decide) (fun q => absurd q (by decide)) (fun _ => ?_)
  refine lv_aload_n hx hb dX3_discardOldest_14 rfl (lv_at hl 2 rfl) ?_
  refine ig S hK Y fX3_11 1 rfl (v := .ref (h 8 2)) rfl dX3_discardOldest_15 ?_
  refine lv_iload_n hx hb dX3_discardOldest_18 rfl (lv_at hl 0 rfl) ?_
  refine lv_aload_n hx hb dX3_discardOldest_19 rfl (lv_at hl 2 rfl) ?_
  refine ig S hK Y fX3_11 1 rfl (v := .ref (h 8 2)) rfl dX3_discardOldest_20 ?_
  refine lv_iload_n hx hb dX3_discardOldest_23 rfl (lv_at hl 0 rfl) ?_
  refine lv_iconst (v := (1 : Int32)) hx hb dX3_discardOldest_24 (by decide) ?_
  refine lv_iadd hx hb dX3_discardOldest_25 ?_
  rw [show ((2 : Int32) + (1 : Int32)) = (3 : Int32) by decide]
  refine iaq S hK Y 2 1 (x := h (π 3) 0) (f := (va_up (va_up (rL h π) 0 (some (h (π 1) 0))) 1 (some (h (π 2) 0)))) rfl rfl (show ¬ ((3 : Int32) < 0 ∨ 6 ≤ ((3 : Int32)).toNatClampNeg) by decide) rfl dX3_discardOldest_26 ?_
  obtain ⟨c_3, hrun⟩ := o_kh hrun
  refine iwq (r := (RX5, TX5, 16)) S hK Y 2 1 (5 + 10 * (π 3)) 2 (f := (va_up (va_up (rL h π) 0 (some (h (π 1) 0))) 1 (some (h (π 2) 0)))) rfl rfl (wL_st _ _ _ _ c_3) rfl (show ¬ ((2 : Int32) < 0 ∨ 6 ≤ ((2 : Int32)).toNatClampNeg) by decide) (ws' := (wLr cI cS h Λ (va_up (va_up (va_up (rL h π) 0 (some (h (π 1) 0))) 1 (some (h (π 2) 0))) 2 (some (h (π 3) 0))))) (wL_a _ _ _ _) dX3_discardOldest_27 (fun H locs Y => ?_)
  refine lv_iinc (v := (3 : Int32)) (lv' := [(2, .int (3 : Int32)), (1, .ref (h (π 0) 0)), (0, .ref (h 8 1))]) hx hb dX3_discardOldest_28 hl (k := 0) rfl (by decide) (Nat.le_of_ble_eq_true rfl) rfl (fun ls hl => ?_)
  refine lv_goto (tgt := 9) hx hb dX3_discardOldest_31 (by decide) ?_
  refine lv_iload_n hx hb dX3_discardOldest_9 rfl (lv_at hl 0 rfl) ?_
  refine lv_iconst (v := (5 : Int32)) hx hb dX3_discardOldest_10 (by decide) ?_
  refine lv_icmp_ge (tgt := 34) hx hb dX3_discardOldest_11 (by decide) (fun q => absurd q (by decide)) (fun _ => ?_)
  refine lv_aload_n hx hb dX3_discardOldest_14 rfl (lv_at hl 2 rfl) ?_
  refine ig S hK Y fX3_11 1 rfl (v := .ref (h 8 2)) rfl dX3_discardOldest_15 ?_
  refine lv_iload_n hx hb dX3_discardOldest_18 rfl (lv_at hl 0 rfl) ?_
  refine lv_aload_n hx hb dX3_discardOldest_19 rfl (lv_at hl 2 rfl) ?_
  refine ig S hK Y fX3_11 1 rfl (v := .ref (h 8 2)) rfl dX3_discardOldest_20 ?_
  refine lv_iload_n hx hb dX3_discardOldest_23 rfl (lv_at hl 0 rfl) ?_
  refine lv_iconst (v := (1 : Int32)) hx hb dX3_discardOldest_24 (by decide) ?_
  refine lv_iadd hx hb dX3_discardOldest_25 ?_
  rw [show ((3 : Int32) + (1 : Int32)) = (4 : Int32) by decide]
  refine iaq S hK Y 2 1 (x := h (π 4) 0) (f := (va_up (va_up (va_up (rL h π) 0 (some (h (π 1) 0))) 1 (some (h (π 2) 0))) 2 (some (h (π 3) 0)))) rfl rfl (show ¬ ((4 : Int32) < 0 ∨ 6 ≤ ((4 : Int32)).toNatClampNeg) by decide) rfl dX3_discardOldest_26 ?_
  obtain ⟨c_4, hrun⟩ := o_kh hrun
  refine iwq (r := (RX5, TX5, 16)) S hK Y 2 1 (5 + 10 * (π 4)) 2 (f := (va_up (va_up (va_up (rL h π) 0 (some (h (π 1) 0))) 1 (some (h (π 2) 0))) 2 (some (h (π 3) 0)))) rfl rfl (wL_st _ _ _ _ c_4) rfl (show ¬ ((3 : Int32) < 0 ∨ 6 ≤ ((3 : Int32)).toNatClampNeg) by decide) (ws' := (wLr cI cS h Λ (va_up (va_up (va_up (va_up (rL h π) 0 (some (h (π 1) 0))) 1 (some (h (π 2) 0))) 2 (some (h (π 3) 0))) 3 (some (h (π 4) 0))))) (wL_a _ _ _ _) dX3_discardOldest_27 (fun H locs Y => ?_)
  refine lv_iinc (v := (4 : Int32)) (lv' := [(2, .int (4 : Int32)), (1, .ref (h (π 0) 0)), (0, .ref (h 8 1))]) hx hb dX3_discardOldest_28 hl (k := 0) rfl (by decide) (Nat.le_of_ble_eq_true rfl) rfl (fun ls hl => ?_)
  refine lv_goto (tgt := 9) hx hb dX3_discardOldest_31 (by decide) ?_
  refine lv_iload_n hx hb dX3_discardOldest_9 rfl (lv_at hl 0 rfl) ?_
  refine lv_iconst (v := (5 : Int32)) hx hb dX3_discardOldest_10 (by decide) ?_
  refine lv_icmp_ge (tgt := 34) hx hb dX3_discardOldest_11 (by decide) (fun q => absurd q (by decide)) (fun _ => ?_)
  refine lv_aload_n hx hb dX3_discardOldest_14 rfl (lv_at hl 2 rfl) ?_
  refine ig S hK Y fX3_11 1 rfl (v := .ref (h 8 2)) rfl dX3_discardOldest_15 ?_
  refine lv_iload_n hx hb dX3_discardOldest_18 rfl (lv_at hl 0 rfl) ?_
  refine lv_aload_n hx hb dX3_discardOldest_19 rfl (lv_at hl 2 rfl) ?_
  refine ig S hK Y fX3_11 1 rfl (v := .ref (h 8 2)) rfl dX3_discardOldest_20 ?_
  refine lv_iload_n hx hb dX3_discardOldest_23 rfl (lv_at hl 0 rfl) ?_
  refine lv_iconst (v := (1 : Int32)) hx hb dX3_discardOldest_24 (by decide) ?_
  refine lv_iadd hx hb dX3_discardOldest_25 ?_
  rw [show ((4 : Int32) + (1 : Int32)) = (5 : Int32) by decide]
  refine iaq S hK Y 2 1 (x := h (π 5) 0) (f := (va_up (va_up (va_up (va_up (rL h π) 0 (some (h (π 1) 0))) 1 (some (h (π 2) 0))) 2 (some (h (π 3) 0))) 3 (some (h (π 4) 0)))) rfl rfl (show ¬ ((5 : Int32) < 0 ∨ 6 ≤ ((5 : Int32)).toNatClampNeg) by decide) rfl dX3_discardOldest_26 ?_
  obtain ⟨c_5, hrun⟩ := o_kh hrun
  refine iwq (r := (RX5, TX5, 16)) S hK Y 2 1 (5 + 10 * (π 5)) 2 (f := (va_up (va_up (va_up (va_up (rL h π) 0 (some (h (π 1) 0))) 1 (some (h (π 2) 0))) 2 (some (h (π 3) 0))) 3 (some (h (π 4) 0)))) rfl rfl (wL_st _ _ _ _ c_5) rfl (show ¬ ((4 : Int32) < 0 ∨ 6 ≤ ((4 : Int32)).toNatClampNeg) by decide) (ws' := (wLr cI cS h Λ (va_up (va_up (va_up (va_up (va_up (rL h π) 0 (some (h (π 1) 0))) 1 (some (h (π 2) 0))) 2 (some (h (π 3) 0))) 3 (some (h (π 4) 0))) 4 (some (h (π 5) 0))))) (wL_a _ _ _ _) dX3_discardOldest_27 (fun H locs Y => ?_)
  refine lv_iinc (v := (5 : Int32)) (lv' := [(2, .int (5 : Int32)), (1, .ref (h (π 0) 0)), (0, .ref (h 8 1))]) hx hb dX3_discardOldest_28 hl (k := 0) rfl (by decide) (Nat.le_of_ble_eq_true rfl) rfl (fun ls hl => ?_)
  refine lv_goto (tgt := 9) hx hb dX3_discardOldest_31 (by decide) ?_
  refine lv_iload_n hx hb dX3_discardOldest_9 rfl (lv_at hl 0 rfl) ?_
  refine lv_iconst (v := (5 : Int32)) hx hb dX3_discardOldest_10 (by decide) ?_
  refine lv_icmp_ge (tgt := 34) hx hb dX3_discardOldest_11 (by decide) (fun _ => ?_) (fun q => absurd (by decide) q)
  refine lv_aload_n hx hb dX3_discardOldest_34 rfl (lv_at hl 2 rfl) ?_
  refine ig S hK Y fX3_11 1 rfl (v := .ref (h 8 2)) rfl dX3_discardOldest_35 ?_
  refine lv_iconst (v := (5 : Int32)) hx hb dX3_discardOldest_38 (by decide) ?_
  refine lv_aload_n hx hb dX3_discardOldest_39 rfl (lv_at hl 1 rfl) ?_
  obtain ⟨c_6, hrun⟩ := o_kh hrun
  refine iwq (r := (RX5, TX5, 16)) S hK Y 2 1 (5 + 10 * (π 0)) 2 (f := (va_up (va_up (va_up (va_up (va_up (rL h π) 0 (some (h (π 1) 0))) 1 (some (h (π 2) 0))) 2 (some (h (π 3) 0))) 3 (some (h (π 4) 0))) 4 (some (h (π 5) 0)))) rfl rfl (wL_st _ _ _ _ c_6) rfl (show ¬ ((5 : Int32) < 0 ∨ 6 ≤ ((5 : Int32)).toNatClampNeg) by decide) (ws' := (wLr cI cS h Λ (va_up (va_up (va_up (va_up (va_up (va_up (rL h π) 0 (some (h (π 1) 0))) 1 (some (h (π 2) 0))) 2 (some (h (π 3) 0))) 3 (some (h (π 4) 0))) 4 (some (h (π 5) 0))) 5 (some (h (π 0) 0))))) (wL_a _ _ _ _) dX3_discardOldest_40 (fun H locs Y => ?_)
  rw [dp_eq] at Y
  cases hrun
  exact me_rv S hK Y hr hlk dX3_discardOldest_41
def fX3_keep (p1 : Int32) (Λ : s3_T) (π : Nat → Nat) : Option (Int32 × s3_T × (Nat → Nat)) := (if 0 ≤ p1 then (if (5 : Int32) ≤ (Λ 8 0 1) then ((fX3_discardOldest Λ π).bind fun q_3 => (some (p1, q_3.1, q_3.2))) else (some (p1, (sg_3 Λ 8 (sg_a (Λ 8) 0 (sg_u (Λ 8 0) 1 ((Λ 8 0 1) + (1 : Int32))))), π))) else (some (p1, Λ, π)))
set_option maxRecDepth 100000 in
set_option maxHeartbeats 4000000 in
theorem mX3_keep (l : Launch) (D : va_G) (cI cS : ClassId) (h : Nat → Nat → Nat) (Λ : s3_T) (π : Nat → Nat) (p1 : Int32) (r : Int32) (Λ' : s3_T) (π' : Nat → Nat) (hrun : fX3_keep p1 Λ π = some (r, Λ', π')) : me_I l D (tL cI cS) yX3_keep cX3_keep 2 .int 1 22 (wL cI cS h Λ π) [.ref (h 8 1), .int p1] r (wL cI cS h Λ' π') := by
  refine me_ofI (plainFor_of_name (by decide)) (Nat.le_of_ble_eq_true rfl) ?_
  intro p e s m args below meth c A ls S hK Y hA hl hr hlk hZ
  have hx := S.1
  have hb := S.2.1
  have hl : lv_has ls 2 [(0, .ref (h 8 1)), (1, .int p1)] := hl
  unfold fX3_keep at hrun
  refine lv_iload_n hx hb dX3_keep_0 rfl (lv_at hl 1 rfl) ?_
  refine lv_if_ge (tgt := 6) hx hb dX3_keep_1 (by decide) (fun c_1 => ?_) (fun c_1 => ?_)
  · have hrun := o_t hrun c_1
    refine lv_aload_n hx hb dX3_keep_6 rfl (lv_at hl 0 rfl) ?_
    refine ig S hK Y fX3_17 1 rfl (v := .int (Λ 8 0 1)) rfl dX3_keep_7 ?_
    refine lv_iconst (v := (5 : Int32)) hx hb dX3_keep_10 (by decide) ?_
    refine lv_icmp_ge (tgt := 27) hx hb dX3_keep_11 (by decide) (fun c_2 => ?_) (fun c_2 => ?_)
    · have hrun := o_t hrun c_2
      refine lv_aload_n hx hb dX3_keep_27 rfl (lv_at hl 0 rfl) ?_
      obtain ⟨q_3, e_4, hrun⟩ := o_bh hrun
      refine cf_vv (As := []) (rest := []) S hK hA hZ Y hl.1 (mX3_discardOldest l D cI cS h Λ π q_3.1 q_3.2 e_4) kX3_26 (T := TX3) (N := 2) rfl (q0 := 1) rfl ⟨Nat.le_of_ble_eq_true rfl, Nat.le_of_ble_eq_true rfl⟩ rfl rfl (Nat.le_of_ble_eq_true rfl) ⟨Nat.le_of_ble_eq_true rfl, Nat.le_of_ble_eq_true rfl⟩ dX3_keep_28 (fun H locs Y => ?_)
      refine lv_iload_n hx hb dX3_keep_31 rfl (lv_at hl 1 rfl) ?_
      cases hrun
      exact me_ri S hK Y hr hlk rfl dX3_keep_32
    · have hrun := o_f hrun c_2
      refine lv_aload_n hx hb dX3_keep_14 rfl (lv_at hl 0 rfl) ?_
      refine lv_dup hx hb dX3_keep_15 rfl ?_
      refine ig S hK Y fX3_17 1 rfl (v := .int (Λ 8 0 1)) rfl dX3_keep_16 ?_
      refine lv_iconst (v := (1 : Int32)) hx hb dX3_keep_19 (by decide) ?_
      refine lv_iadd hx hb dX3_keep_20 ?_
      refine ip S hK Y fX3_17 fpX3 rfl 1 (fs := [.ref (h 8 2), .int (Λ 8 0 1)]) rfl rfl rfl (Nat.le_of_ble_eq_true rfl) (ws' := (wLr cI cS h (sg_3 Λ 8 (sg_a (Λ 8) 0 (sg_u (Λ 8 0) 1 ((Λ 8 0 1) + (1 : Int32))))) (rL h π))) (wL_f1 _ _ _ _) dX3_keep_21 (fun H locs Y => ?_)
      refine lv_goto (tgt := 31) hx hb dX3_keep_24 (by decide) ?_
      refine lv_iload_n hx hb dX3_keep_31 rfl (lv_at hl 1 rfl) ?_
      cases hrun
      exact me_ri S hK Y hr hlk rfl dX3_keep_32
  · have hrun := o_f hrun c_1
    refine lv_iload_n hx hb dX3_keep_4 rfl (lv_at hl 1 rfl) ?_
    cases hrun
    exact me_ri S hK Y hr hlk rfl dX3_keep_5
def fX7_set (p1 p2 : Int32) (Λ : s3_T) (π : Nat → Nat) : Option (Int32 × s3_T × (Nat → Nat)) := ((fX3_draft Λ π).bind fun q_1 => ((fX2_changeSetting p1 p2 (q_1.1 0)).bind fun q_3 => ((fX3_keep q_3.1 (sg_3 q_1.1 0 q_3.2) q_1.2).bind fun q_5 => (some (q_5.1, q_5.2.1, q_5.2.2)))))
set_option maxRecDepth 100000 in
set_option maxHeartbeats 4000000 in
theorem mX7_set (l : Launch) (D : va_G) (cI cS : ClassId) (h : Nat → Nat → Nat) (Λ : s3_T) (π : Nat → Nat) (p1 p2 : Int32) (r : Int32) (Λ' : s3_T) (π' : Nat → Nat) (hrun : fX7_set p1 p2 Λ π = some (r, Λ', π')) : me_I l D (tL cI cS) yX7_set cX7_set 3 .int 3 60 (wL cI cS h Λ π) [.ref (h 8 0), .int p1, .int p2] r (wL cI cS h Λ' π') := by
  refine me_ofI (plainFor_of_name (by decide)) (Nat.le_of_ble_eq_true rfl) ?_
  intro p e s m args below meth c A ls S hK Y hA hl hr hlk hZ
  have hx := S.1
  have hb := S.2.1
  have hl : lv_has ls 3 [(0, .ref (h 8 0)), (1, .int p1), (2, .int p2)] := hl
  unfold fX7_set at hrun
  refine lv_aload_n hx hb dX7_set_0 rfl (lv_at hl 0 rfl) ?_
  refine ig S hK Y fX7_22 0 rfl (v := .ref (h 8 1)) rfl dX7_set_1 ?_
  refine lv_aload_n hx hb dX7_set_4 rfl (lv_at hl 0 rfl) ?_
  refine ig S hK Y fX7_10 0 rfl (v := .ref (h 0 0)) rfl dX7_set_5 ?_
  obtain ⟨q_1, e_2, hrun⟩ := o_bh hrun
  refine cf_vv (As := [.ref (h 0 0)]) (rest := []) S hK hA hZ Y hl.1 (mX3_draft l D cI cS h Λ π q_1.1 q_1.2 e_2) kX7_37 (T := TX3) (N := 2) rfl (q0 := 1) rfl ⟨Nat.le_of_ble_eq_true rfl, Nat.le_of_ble_eq_true rfl⟩ rfl rfl (Nat.le_of_ble_eq_true rfl) ⟨Nat.le_of_ble_eq_true rfl, Nat.le_of_ble_eq_true rfl⟩ dX7_set_8 (fun H locs Y => ?_)
  refine lv_aload_n hx hb dX7_set_11 rfl (lv_at hl 0 rfl) ?_
  refine ig S hK Y fX7_22 0 rfl (v := .ref (h 8 1)) rfl dX7_set_12 ?_
  refine lv_aload_n hx hb dX7_set_15 rfl (lv_at hl 0 rfl) ?_
  refine ig S hK Y fX7_10 0 rfl (v := .ref (h 0 0)) rfl dX7_set_16 ?_
  refine lv_iload_n hx hb dX7_set_19 rfl (lv_at hl 1 rfl) ?_
  refine lv_iload_n hx hb dX7_set_20 rfl (lv_at hl 2 rfl) ?_
  obtain ⟨q_3, e_4, hrun⟩ := o_bh hrun
  refine cg_s (ws2 := (wLr cI cS h (sg_3 q_1.1 0 q_3.2) (rL h q_1.2))) (it := [0]) (As := [.ref (h 0 0), .int p1, .int p2]) (rest := [.ref (h 8 1)]) S hK hA hZ Y hl.1 (mX2_changeSetting l D cI (h 0) (q_1.1 0) p1 p2 q_3.1 q_3.2 e_4) (cNC h q_1.1 (rL h q_1.2)) (cNR h q_1.1 (rL h q_1.2)) nNC nNR dN_ (cNP h q_1.1 (rL h q_1.2) q_3.2) nNP rfl kX7_41 ⟨Nat.le_of_ble_eq_true rfl, Nat.le_of_ble_eq_true rfl⟩ rfl rfl (Nat.le_of_ble_eq_true rfl) ⟨Nat.le_of_ble_eq_true rfl, Nat.le_of_ble_eq_true rfl⟩ dX7_set_21 (fun H locs Y => ?_)
  obtain ⟨q_5, e_6, hrun⟩ := o_bh hrun
  refine cf_v (As := [.int q_3.1]) (rest := []) S hK hA hZ Y hl.1 (mX3_keep l D cI cS h (sg_3 q_1.1 0 q_3.2) q_1.2 q_3.1 q_5.1 q_5.2.1 q_5.2.2 e_6) kX7_47 (T := TX3) (N := 2) rfl (q0 := 1) rfl ⟨Nat.le_of_ble_eq_true rfl, Nat.le_of_ble_eq_true rfl⟩ rfl rfl (Nat.le_of_ble_eq_true rfl) ⟨Nat.le_of_ble_eq_true rfl, Nat.le_of_ble_eq_true rfl⟩ dX7_set_24 (fun H locs Y => ?_)
  cases hrun
  exact me_ri S hK Y hr hlk rfl dX7_set_27
def fX7_join (Λ : s3_T) (π : Nat → Nat) : Option (Int32 × s3_T × (Nat → Nat)) := ((fX3_draft Λ π).bind fun q_1 => ((fX2_addPlayer (q_1.1 0)).bind fun q_3 => ((fX3_keep q_3.1 (sg_3 q_1.1 0 q_3.2) q_1.2).bind fun q_5 => (some (q_5.1, q_5.2.1, q_5.2.2)))))
set_option maxRecDepth 100000 in
set_option maxHeartbeats 4000000 in
theorem mX7_join (l : Launch) (D : va_G) (cI cS : ClassId) (h : Nat → Nat → Nat) (Λ : s3_T) (π : Nat → Nat) (r : Int32) (Λ' : s3_T) (π' : Nat → Nat) (hrun : fX7_join Λ π = some (r, Λ', π')) : me_I l D (tL cI cS) yX7_join cX7_join 1 .int 3 60 (wL cI cS h Λ π) [.ref (h 8 0)] r (wL cI cS h Λ' π') := by
  refine me_ofI (plainFor_of_name (by decide)) (Nat.le_of_ble_eq_true rfl) ?_
  intro p e s m args below meth c A ls S hK Y hA hl hr hlk hZ
  have hx := S.1
  have hb := S.2.1
  have hl : lv_has ls 1 [(0, .ref (h 8 0))] := hl
  unfold fX7_join at hrun
  refine lv_aload_n hx hb dX7_join_0 rfl (lv_at hl 0 rfl) ?_
  refine ig S hK Y fX7_22 0 rfl (v := .ref (h 8 1)) rfl dX7_join_1 ?_
  refine lv_aload_n hx hb dX7_join_4 rfl (lv_at hl 0 rfl) ?_
  refine ig S hK Y fX7_10 0 rfl (v := .ref (h 0 0)) rfl dX7_join_5 ?_
  obtain ⟨q_1, e_2, hrun⟩ := o_bh hrun
  refine cf_vv (As := [.ref (h 0 0)]) (rest := []) S hK hA hZ Y hl.1 (mX3_draft l D cI cS h Λ π q_1.1 q_1.2 e_2) kX7_37 (T := TX3) (N := 2) rfl (q0 := 1) rfl ⟨Nat.le_of_ble_eq_true rfl, Nat.le_of_ble_eq_true rfl⟩ rfl rfl (Nat.le_of_ble_eq_true rfl) ⟨Nat.le_of_ble_eq_true rfl, Nat.le_of_ble_eq_true rfl⟩ dX7_join_8 (fun H locs Y => ?_)
  refine lv_aload_n hx hb dX7_join_11 rfl (lv_at hl 0 rfl) ?_
  refine ig S hK Y fX7_22 0 rfl (v := .ref (h 8 1)) rfl dX7_join_12 ?_
  refine lv_aload_n hx hb dX7_join_15 rfl (lv_at hl 0 rfl) ?_
  refine ig S hK Y fX7_10 0 rfl (v := .ref (h 0 0)) rfl dX7_join_16 ?_
  obtain ⟨q_3, e_4, hrun⟩ := o_bh hrun
  refine cg_s (ws2 := (wLr cI cS h (sg_3 q_1.1 0 q_3.2) (rL h q_1.2))) (it := [0]) (As := [.ref (h 0 0)]) (rest := [.ref (h 8 1)]) S hK hA hZ Y hl.1 (mX2_addPlayer l D cI (h 0) (q_1.1 0) q_3.1 q_3.2 e_4) (cNC h q_1.1 (rL h q_1.2)) (cNR h q_1.1 (rL h q_1.2)) nNC nNR dN_ (cNP h q_1.1 (rL h q_1.2) q_3.2) nNP rfl kX7_59 ⟨Nat.le_of_ble_eq_true rfl, Nat.le_of_ble_eq_true rfl⟩ rfl rfl (Nat.le_of_ble_eq_true rfl) ⟨Nat.le_of_ble_eq_true rfl, Nat.le_of_ble_eq_true rfl⟩ dX7_join_19 (fun H locs Y => ?_)
  obtain ⟨q_5, e_6, hrun⟩ := o_bh hrun
  refine cf_v (As := [.int q_3.1]) (rest := []) S hK hA hZ Y hl.1 (mX3_keep l D cI cS h (sg_3 q_1.1 0 q_3.2) q_1.2 q_3.1 q_5.1 q_5.2.1 q_5.2.2 e_6) kX7_47 (T := TX3) (N := 2) rfl (q0 := 1) rfl ⟨Nat.le_of_ble_eq_true rfl, Nat.le_of_ble_eq_true rfl⟩ rfl rfl (Nat.le_of_ble_eq_true rfl) ⟨Nat.le_of_ble_eq_true rfl, Nat.le_of_ble_eq_true rfl⟩ dX7_join_22 (fun H locs Y => ?_)
  cases hrun
  exact me_ri S hK Y hr hlk rfl dX7_join_25
def fX7_start (p1 p2 : Int32) (Λ : s3_T) (π : Nat → Nat) : Option (Int32 × s3_T × (Nat → Nat)) := ((fX3_draft Λ π).bind fun q_1 => ((fX2_beginRound p1 p2 (q_1.1 0)).bind fun q_3 => ((fX3_keep q_3.1 (sg_3 q_1.1 0 q_3.2) q_1.2).bind fun q_5 => (some (q_5.1, q_5.2.1, q_5.2.2)))))
set_option maxRecDepth 100000 in
set_option maxHeartbeats 4000000 in
theorem mX7_start (l : Launch) (D : va_G) (cI cS : ClassId) (h : Nat → Nat → Nat) (Λ : s3_T) (π : Nat → Nat) (p1 p2 : Int32) (r : Int32) (Λ' : s3_T) (π' : Nat → Nat) (hrun : fX7_start p1 p2 Λ π = some (r, Λ', π')) : me_I l D (tL cI cS) yX7_start cX7_start 3 .int 7 149 (wL cI cS h Λ π) [.ref (h 8 0), .int p1, .int p2] r (wL cI cS h Λ' π') := by
  refine me_ofI (plainFor_of_name (by decide)) (Nat.le_of_ble_eq_true rfl) ?_
  intro p e s m args below meth c A ls S hK Y hA hl hr hlk hZ
  have hx := S.1
  have hb := S.2.1
  have hl : lv_has ls 3 [(0, .ref (h 8 0)), (1, .int p1), (2, .int p2)] := hl
  unfold fX7_start at hrun
  refine lv_aload_n hx hb dX7_start_0 rfl (lv_at hl 0 rfl) ?_
  refine ig S hK Y fX7_22 0 rfl (v := .ref (h 8 1)) rfl dX7_start_1 ?_
  refine lv_aload_n hx hb dX7_start_4 rfl (lv_at hl 0 rfl) ?_
  refine ig S hK Y fX7_10 0 rfl (v := .ref (h 0 0)) rfl dX7_start_5 ?_
  obtain ⟨q_1, e_2, hrun⟩ := o_bh hrun
  refine cf_vv (As := [.ref (h 0 0)]) (rest := []) S hK hA hZ Y hl.1 (mX3_draft l D cI cS h Λ π q_1.1 q_1.2 e_2) kX7_37 (T := TX3) (N := 2) rfl (q0 := 1) rfl ⟨Nat.le_of_ble_eq_true rfl, Nat.le_of_ble_eq_true rfl⟩ rfl rfl (Nat.le_of_ble_eq_true rfl) ⟨Nat.le_of_ble_eq_true rfl, Nat.le_of_ble_eq_true rfl⟩ dX7_start_8 (fun H locs Y => ?_)
  refine lv_aload_n hx hb dX7_start_11 rfl (lv_at hl 0 rfl) ?_
  refine ig S hK Y fX7_22 0 rfl (v := .ref (h 8 1)) rfl dX7_start_12 ?_
  refine lv_aload_n hx hb dX7_start_15 rfl (lv_at hl 0 rfl) ?_
  refine ig S hK Y fX7_10 0 rfl (v := .ref (h 0 0)) rfl dX7_start_16 ?_
  refine lv_iload_n hx hb dX7_start_19 rfl (lv_at hl 1 rfl) ?_
  refine lv_iload_n hx hb dX7_start_20 rfl (lv_at hl 2 rfl) ?_
  obtain ⟨q_3, e_4, hrun⟩ := o_bh hrun
  refine cg_s (ws2 := (wLr cI cS h (sg_3 q_1.1 0 q_3.2) (rL h q_1.2))) (it := [0]) (As := [.ref (h 0 0), .int p1, .int p2]) (rest := [.ref (h 8 1)]) S hK hA hZ Y hl.1 (mX2_beginRound l D cI (h 0) (q_1.1 0) p1 p2 q_3.1 q_3.2 e_4) (cNC h q_1.1 (rL h q_1.2)) (cNR h q_1.1 (rL h q_1.2)) nNC nNR dN_ (cNP h q_1.1 (rL h q_1.2) q_3.2) nNP rfl kX7_63 ⟨Nat.le_of_ble_eq_true rfl, Nat.le_of_ble_eq_true rfl⟩ rfl rfl (Nat.le_of_ble_eq_true rfl) ⟨Nat.le_of_ble_eq_true rfl, Nat.le_of_ble_eq_true rfl⟩ dX7_start_21 (fun H locs Y => ?_)
  obtain ⟨q_5, e_6, hrun⟩ := o_bh hrun
  refine cf_v (As := [.int q_3.1]) (rest := []) S hK hA hZ Y hl.1 (mX3_keep l D cI cS h (sg_3 q_1.1 0 q_3.2) q_1.2 q_3.1 q_5.1 q_5.2.1 q_5.2.2 e_6) kX7_47 (T := TX3) (N := 2) rfl (q0 := 1) rfl ⟨Nat.le_of_ble_eq_true rfl, Nat.le_of_ble_eq_true rfl⟩ rfl rfl (Nat.le_of_ble_eq_true rfl) ⟨Nat.le_of_ble_eq_true rfl, Nat.le_of_ble_eq_true rfl⟩ dX7_start_24 (fun H locs Y => ?_)
  cases hrun
  exact me_ri S hK Y hr hlk rfl dX7_start_27
def fX7_hide (p1 p2 : Int32) (Λ : s3_T) (π : Nat → Nat) : Option (Int32 × s3_T × (Nat → Nat)) := ((fX3_draft Λ π).bind fun q_1 => ((fX2_hidePlayer p1 p2 (q_1.1 0)).bind fun q_3 => ((fX3_keep q_3.1 (sg_3 q_1.1 0 q_3.2) q_1.2).bind fun q_5 => (some (q_5.1, q_5.2.1, q_5.2.2)))))
set_option maxRecDepth 100000 in
set_option maxHeartbeats 4000000 in
theorem mX7_hide (l : Launch) (D : va_G) (cI cS : ClassId) (h : Nat → Nat → Nat) (Λ : s3_T) (π : Nat → Nat) (p1 p2 : Int32) (r : Int32) (Λ' : s3_T) (π' : Nat → Nat) (hrun : fX7_hide p1 p2 Λ π = some (r, Λ', π')) : me_I l D (tL cI cS) yX7_hide cX7_hide 3 .int 5 106 (wL cI cS h Λ π) [.ref (h 8 0), .int p1, .int p2] r (wL cI cS h Λ' π') := by
  refine me_ofI (plainFor_of_name (by decide)) (Nat.le_of_ble_eq_true rfl) ?_
  intro p e s m args below meth c A ls S hK Y hA hl hr hlk hZ
  have hx := S.1
  have hb := S.2.1
  have hl : lv_has ls 3 [(0, .ref (h 8 0)), (1, .int p1), (2, .int p2)] := hl
  unfold fX7_hide at hrun
  refine lv_aload_n hx hb dX7_hide_0 rfl (lv_at hl 0 rfl) ?_
  refine ig S hK Y fX7_22 0 rfl (v := .ref (h 8 1)) rfl dX7_hide_1 ?_
  refine lv_aload_n hx hb dX7_hide_4 rfl (lv_at hl 0 rfl) ?_
  refine ig S hK Y fX7_10 0 rfl (v := .ref (h 0 0)) rfl dX7_hide_5 ?_
  obtain ⟨q_1, e_2, hrun⟩ := o_bh hrun
  refine cf_vv (As := [.ref (h 0 0)]) (rest := []) S hK hA hZ Y hl.1 (mX3_draft l D cI cS h Λ π q_1.1 q_1.2 e_2) kX7_37 (T := TX3) (N := 2) rfl (q0 := 1) rfl ⟨Nat.le_of_ble_eq_true rfl, Nat.le_of_ble_eq_true rfl⟩ rfl rfl (Nat.le_of_ble_eq_true rfl) ⟨Nat.le_of_ble_eq_true rfl, Nat.le_of_ble_eq_true rfl⟩ dX7_hide_8 (fun H locs Y => ?_)
  refine lv_aload_n hx hb dX7_hide_11 rfl (lv_at hl 0 rfl) ?_
  refine ig S hK Y fX7_22 0 rfl (v := .ref (h 8 1)) rfl dX7_hide_12 ?_
  refine lv_aload_n hx hb dX7_hide_15 rfl (lv_at hl 0 rfl) ?_
  refine ig S hK Y fX7_10 0 rfl (v := .ref (h 0 0)) rfl dX7_hide_16 ?_
  refine lv_iload_n hx hb dX7_hide_19 rfl (lv_at hl 1 rfl) ?_
  refine lv_iload_n hx hb dX7_hide_20 rfl (lv_at hl 2 rfl) ?_
  obtain ⟨q_3, e_4, hrun⟩ := o_bh hrun
  refine cg_s (ws2 := (wLr cI cS h (sg_3 q_1.1 0 q_3.2) (rL h q_1.2))) (it := [0]) (As := [.ref (h 0 0), .int p1, .int p2]) (rest := [.ref (h 8 1)]) S hK hA hZ Y hl.1 (mX2_hidePlayer l D cI (h 0) (q_1.1 0) p1 p2 q_3.1 q_3.2 e_4) (cNC h q_1.1 (rL h q_1.2)) (cNR h q_1.1 (rL h q_1.2)) nNC nNR dN_ (cNP h q_1.1 (rL h q_1.2) q_3.2) nNP rfl kX7_66 ⟨Nat.le_of_ble_eq_true rfl, Nat.le_of_ble_eq_true rfl⟩ rfl rfl (Nat.le_of_ble_eq_true rfl) ⟨Nat.le_of_ble_eq_true rfl, Nat.le_of_ble_eq_true rfl⟩ dX7_hide_21 (fun H locs Y => ?_)
  obtain ⟨q_5, e_6, hrun⟩ := o_bh hrun
  refine cf_v (As := [.int q_3.1]) (rest := []) S hK hA hZ Y hl.1 (mX3_keep l D cI cS h (sg_3 q_1.1 0 q_3.2) q_1.2 q_3.1 q_5.1 q_5.2.1 q_5.2.2 e_6) kX7_47 (T := TX3) (N := 2) rfl (q0 := 1) rfl ⟨Nat.le_of_ble_eq_true rfl, Nat.le_of_ble_eq_true rfl⟩ rfl rfl (Nat.le_of_ble_eq_true rfl) ⟨Nat.le_of_ble_eq_true rfl, Nat.le_of_ble_eq_true rfl⟩ dX7_hide_24 (fun H locs Y => ?_)
  cases hrun
  exact me_ri S hK Y hr hlk rfl dX7_hide_27
def fX7_seek (Λ : s3_T) (π : Nat → Nat) : Option (Int32 × s3_T × (Nat → Nat)) := ((fX3_draft Λ π).bind fun q_1 => ((fX2_beginSeeking (q_1.1 0)).bind fun q_3 => ((fX3_keep q_3.1 (sg_3 q_1.1 0 q_3.2) q_1.2).bind fun q_5 => (some (q_5.1, q_5.2.1, q_5.2.2)))))
set_option maxRecDepth 100000 in
set_option maxHeartbeats 4000000 in
theorem mX7_seek (l : Launch) (D : va_G) (cI cS : ClassId) (h : Nat → Nat → Nat) (Λ : s3_T) (π : Nat → Nat) (r : Int32) (Λ' : s3_T) (π' : Nat → Nat) (hrun : fX7_seek Λ π = some (r, Λ', π')) : me_I l D (tL cI cS) yX7_seek cX7_seek 1 .int 5 105 (wL cI cS h Λ π) [.ref (h 8 0)] r (wL cI cS h Λ' π') := by
  refine me_ofI (plainFor_of_name (by decide)) (Nat.le_of_ble_eq_true rfl) ?_
  intro p e s m args below meth c A ls S hK Y hA hl hr hlk hZ
  have hx := S.1
  have hb := S.2.1
  have hl : lv_has ls 1 [(0, .ref (h 8 0))] := hl
  unfold fX7_seek at hrun
  refine lv_aload_n hx hb dX7_seek_0 rfl (lv_at hl 0 rfl) ?_
  refine ig S hK Y fX7_22 0 rfl (v := .ref (h 8 1)) rfl dX7_seek_1 ?_
  refine lv_aload_n hx hb dX7_seek_4 rfl (lv_at hl 0 rfl) ?_
  refine ig S hK Y fX7_10 0 rfl (v := .ref (h 0 0)) rfl dX7_seek_5 ?_
  obtain ⟨q_1, e_2, hrun⟩ := o_bh hrun
  refine cf_vv (As := [.ref (h 0 0)]) (rest := []) S hK hA hZ Y hl.1 (mX3_draft l D cI cS h Λ π q_1.1 q_1.2 e_2) kX7_37 (T := TX3) (N := 2) rfl (q0 := 1) rfl ⟨Nat.le_of_ble_eq_true rfl, Nat.le_of_ble_eq_true rfl⟩ rfl rfl (Nat.le_of_ble_eq_true rfl) ⟨Nat.le_of_ble_eq_true rfl, Nat.le_of_ble_eq_true rfl⟩ dX7_seek_8 (fun H locs Y => ?_)
  refine lv_aload_n hx hb dX7_seek_11 rfl (lv_at hl 0 rfl) ?_
  refine ig S hK Y fX7_22 0 rfl (v := .ref (h 8 1)) rfl dX7_seek_12 ?_
  refine lv_aload_n hx hb dX7_seek_15 rfl (lv_at hl 0 rfl) ?_
  refine ig S hK Y fX7_10 0 rfl (v := .ref (h 0 0)) rfl dX7_seek_16 ?_
  obtain ⟨q_3, e_4, hrun⟩ := o_bh hrun
  refine cg_s (ws2 := (wLr cI cS h (sg_3 q_1.1 0 q_3.2) (rL h q_1.2))) (it := [0]) (As := [.ref (h 0 0)]) (rest := [.ref (h 8 1)]) S hK hA hZ Y hl.1 (mX2_beginSeeking l D cI (h 0) (q_1.1 0) q_3.1 q_3.2 e_4) (cNC h q_1.1 (rL h q_1.2)) (cNR h q_1.1 (rL h q_1.2)) nNC nNR dN_ (cNP h q_1.1 (rL h q_1.2) q_3.2) nNP rfl kX7_69 ⟨Nat.le_of_ble_eq_true rfl, Nat.le_of_ble_eq_true rfl⟩ rfl rfl (Nat.le_of_ble_eq_true rfl) ⟨Nat.le_of_ble_eq_true rfl, Nat.le_of_ble_eq_true rfl⟩ dX7_seek_19 (fun H locs Y => ?_)
  obtain ⟨q_5, e_6, hrun⟩ := o_bh hrun
  refine cf_v (As := [.int q_3.1]) (rest := []) S hK hA hZ Y hl.1 (mX3_keep l D cI cS h (sg_3 q_1.1 0 q_3.2) q_1.2 q_3.1 q_5.1 q_5.2.1 q_5.2.2 e_6) kX7_47 (T := TX3) (N := 2) rfl (q0 := 1) rfl ⟨Nat.le_of_ble_eq_true rfl, Nat.le_of_ble_eq_true rfl⟩ rfl rfl (Nat.le_of_ble_eq_true rfl) ⟨Nat.le_of_ble_eq_true rfl, Nat.le_of_ble_eq_true rfl⟩ dX7_seek_22 (fun H locs Y => ?_)
  cases hrun
  exact me_ri S hK Y hr hlk rfl dX7_seek_25
def fX7_walk (p1 : Int32) (Λ : s3_T) (π : Nat → Nat) : Option (Int32 × s3_T × (Nat → Nat)) := ((fX3_draft Λ π).bind fun q_1 => ((fX2_moveSeeker p1 (q_1.1 0)).bind fun q_3 => ((fX3_keep q_3.1 (sg_3 q_1.1 0 q_3.2) q_1.2).bind fun q_5 => (some (q_5.1, q_5.2.1, q_5.2.2)))))
set_option maxRecDepth 100000 in
set_option maxHeartbeats 4000000 in
theorem mX7_walk (l : Launch) (D : va_G) (cI cS : ClassId) (h : Nat → Nat → Nat) (Λ : s3_T) (π : Nat → Nat) (p1 : Int32) (r : Int32) (Λ' : s3_T) (π' : Nat → Nat) (hrun : fX7_walk p1 Λ π = some (r, Λ', π')) : me_I l D (tL cI cS) yX7_walk cX7_walk 2 .int 3 64 (wL cI cS h Λ π) [.ref (h 8 0), .int p1] r (wL cI cS h Λ' π') := by
  refine me_ofI (plainFor_of_name (by decide)) (Nat.le_of_ble_eq_true rfl) ?_
  intro p e s m args below meth c A ls S hK Y hA hl hr hlk hZ
  have hx := S.1
  have hb := S.2.1
  have hl : lv_has ls 2 [(0, .ref (h 8 0)), (1, .int p1)] := hl
  unfold fX7_walk at hrun
  refine lv_aload_n hx hb dX7_walk_0 rfl (lv_at hl 0 rfl) ?_
  refine ig S hK Y fX7_22 0 rfl (v := .ref (h 8 1)) rfl dX7_walk_1 ?_
  refine lv_aload_n hx hb dX7_walk_4 rfl (lv_at hl 0 rfl) ?_
  refine ig S hK Y fX7_10 0 rfl (v := .ref (h 0 0)) rfl dX7_walk_5 ?_
  obtain ⟨q_1, e_2, hrun⟩ := o_bh hrun
  refine cf_vv (As := [.ref (h 0 0)]) (rest := []) S hK hA hZ Y hl.1 (mX3_draft l D cI cS h Λ π q_1.1 q_1.2 e_2) kX7_37 (T := TX3) (N := 2) rfl (q0 := 1) rfl ⟨Nat.le_of_ble_eq_true rfl, Nat.le_of_ble_eq_true rfl⟩ rfl rfl (Nat.le_of_ble_eq_true rfl) ⟨Nat.le_of_ble_eq_true rfl, Nat.le_of_ble_eq_true rfl⟩ dX7_walk_8 (fun H locs Y => ?_)
  refine lv_aload_n hx hb dX7_walk_11 rfl (lv_at hl 0 rfl) ?_
  refine ig S hK Y fX7_22 0 rfl (v := .ref (h 8 1)) rfl dX7_walk_12 ?_
  refine lv_aload_n hx hb dX7_walk_15 rfl (lv_at hl 0 rfl) ?_
  refine ig S hK Y fX7_10 0 rfl (v := .ref (h 0 0)) rfl dX7_walk_16 ?_
  refine lv_iload_n hx hb dX7_walk_19 rfl (lv_at hl 1 rfl) ?_
  obtain ⟨q_3, e_4, hrun⟩ := o_bh hrun
  refine cg_s (ws2 := (wLr cI cS h (sg_3 q_1.1 0 q_3.2) (rL h q_1.2))) (it := [0]) (As := [.ref (h 0 0), .int p1]) (rest := [.ref (h 8 1)]) S hK hA hZ Y hl.1 (mX2_moveSeeker l D cI (h 0) (q_1.1 0) p1 q_3.1 q_3.2 e_4) (cNC h q_1.1 (rL h q_1.2)) (cNR h q_1.1 (rL h q_1.2)) nNC nNR dN_ (cNP h q_1.1 (rL h q_1.2) q_3.2) nNP rfl kX7_72 ⟨Nat.le_of_ble_eq_true rfl, Nat.le_of_ble_eq_true rfl⟩ rfl rfl (Nat.le_of_ble_eq_true rfl) ⟨Nat.le_of_ble_eq_true rfl, Nat.le_of_ble_eq_true rfl⟩ dX7_walk_20 (fun H locs Y => ?_)
  obtain ⟨q_5, e_6, hrun⟩ := o_bh hrun
  refine cf_v (As := [.int q_3.1]) (rest := []) S hK hA hZ Y hl.1 (mX3_keep l D cI cS h (sg_3 q_1.1 0 q_3.2) q_1.2 q_3.1 q_5.1 q_5.2.1 q_5.2.2 e_6) kX7_47 (T := TX3) (N := 2) rfl (q0 := 1) rfl ⟨Nat.le_of_ble_eq_true rfl, Nat.le_of_ble_eq_true rfl⟩ rfl rfl (Nat.le_of_ble_eq_true rfl) ⟨Nat.le_of_ble_eq_true rfl, Nat.le_of_ble_eq_true rfl⟩ dX7_walk_23 (fun H locs Y => ?_)
  cases hrun
  exact me_ri S hK Y hr hlk rfl dX7_walk_26
def fX7_cry (p1 p2 : Int32) (Λ : s3_T) (π : Nat → Nat) : Option (Int32 × s3_T × (Nat → Nat)) := ((fX3_draft Λ π).bind fun q_1 => ((fX2_cryName p1 p2 (q_1.1 0)).bind fun q_3 => ((fX3_keep q_3.1 (sg_3 q_1.1 0 q_3.2) q_1.2).bind fun q_5 => (some (q_5.1, q_5.2.1, q_5.2.2)))))
set_option maxRecDepth 100000 in
set_option maxHeartbeats 4000000 in
theorem mX7_cry (l : Launch) (D : va_G) (cI cS : ClassId) (h : Nat → Nat → Nat) (Λ : s3_T) (π : Nat → Nat) (p1 p2 : Int32) (r : Int32) (Λ' : s3_T) (π' : Nat → Nat) (hrun : fX7_cry p1 p2 Λ π = some (r, Λ', π')) : me_I l D (tL cI cS) yX7_cry cX7_cry 3 .int 6 128 (wL cI cS h Λ π) [.ref (h 8 0), .int p1, .int p2] r (wL cI cS h Λ' π') := by
  refine me_ofI (plainFor_of_name (by decide)) (Nat.le_of_ble_eq_true rfl) ?_
  intro p e s m args below meth c A ls S hK Y hA hl hr hlk hZ
  have hx := S.1
  have hb := S.2.1
  have hl : lv_has ls 3 [(0, .ref (h 8 0)), (1, .int p1), (2, .int p2)] := hl
  unfold fX7_cry at hrun
  refine lv_aload_n hx hb dX7_cry_0 rfl (lv_at hl 0 rfl) ?_
  refine ig S hK Y fX7_22 0 rfl (v := .ref (h 8 1)) rfl dX7_cry_1 ?_
  refine lv_aload_n hx hb dX7_cry_4 rfl (lv_at hl 0 rfl) ?_
  refine ig S hK Y fX7_10 0 rfl (v := .ref (h 0 0)) rfl dX7_cry_5 ?_
  obtain ⟨q_1, e_2, hrun⟩ := o_bh hrun
  refine cf_vv (As := [.ref (h 0 0)]) (rest := []) S hK hA hZ Y hl.1 (mX3_draft l D cI cS h Λ π q_1.1 q_1.2 e_2) kX7_37 (T := TX3) (N := 2) rfl (q0 := 1) rfl ⟨Nat.le_of_ble_eq_true rfl, Nat.le_of_ble_eq_true rfl⟩ rfl rfl (Nat.le_of_ble_eq_true rfl) ⟨Nat.le_of_ble_eq_true rfl, Nat.le_of_ble_eq_true rfl⟩ dX7_cry_8 (fun H locs Y => ?_)
  refine lv_aload_n hx hb dX7_cry_11 rfl (lv_at hl 0 rfl) ?_
  refine ig S hK Y fX7_22 0 rfl (v := .ref (h 8 1)) rfl dX7_cry_12 ?_
  refine lv_aload_n hx hb dX7_cry_15 rfl (lv_at hl 0 rfl) ?_
  refine ig S hK Y fX7_10 0 rfl (v := .ref (h 0 0)) rfl dX7_cry_16 ?_
  refine lv_iload_n hx hb dX7_cry_19 rfl (lv_at hl 1 rfl) ?_
  refine lv_iload_n hx hb dX7_cry_20 rfl (lv_at hl 2 rfl) ?_
  obtain ⟨q_3, e_4, hrun⟩ := o_bh hrun
  refine cg_s (ws2 := (wLr cI cS h (sg_3 q_1.1 0 q_3.2) (rL h q_1.2))) (it := [0]) (As := [.ref (h 0 0), .int p1, .int p2]) (rest := [.ref (h 8 1)]) S hK hA hZ Y hl.1 (mX2_cryName l D cI (h 0) (q_1.1 0) p1 p2 q_3.1 q_3.2 e_4) (cNC h q_1.1 (rL h q_1.2)) (cNR h q_1.1 (rL h q_1.2)) nNC nNR dN_ (cNP h q_1.1 (rL h q_1.2) q_3.2) nNP rfl kX7_76 ⟨Nat.le_of_ble_eq_true rfl, Nat.le_of_ble_eq_true rfl⟩ rfl rfl (Nat.le_of_ble_eq_true rfl) ⟨Nat.le_of_ble_eq_true rfl, Nat.le_of_ble_eq_true rfl⟩ dX7_cry_21 (fun H locs Y => ?_)
  obtain ⟨q_5, e_6, hrun⟩ := o_bh hrun
  refine cf_v (As := [.int q_3.1]) (rest := []) S hK hA hZ Y hl.1 (mX3_keep l D cI cS h (sg_3 q_1.1 0 q_3.2) q_1.2 q_3.1 q_5.1 q_5.2.1 q_5.2.2 e_6) kX7_47 (T := TX3) (N := 2) rfl (q0 := 1) rfl ⟨Nat.le_of_ble_eq_true rfl, Nat.le_of_ble_eq_true rfl⟩ rfl rfl (Nat.le_of_ble_eq_true rfl) ⟨Nat.le_of_ble_eq_true rfl, Nat.le_of_ble_eq_true rfl⟩ dX7_cry_24 (fun H locs Y => ?_)
  cases hrun
  exact me_ri S hK Y hr hlk rfl dX7_cry_27
def fX7_dash (p1 : Int32) (Λ : s3_T) (π : Nat → Nat) : Option (Int32 × s3_T × (Nat → Nat)) := ((fX3_draft Λ π).bind fun q_1 => ((fX2_dashHome p1 (q_1.1 0)).bind fun q_3 => ((fX3_keep q_3.1 (sg_3 q_1.1 0 q_3.2) q_1.2).bind fun q_5 => (some (q_5.1, q_5.2.1, q_5.2.2)))))
set_option maxRecDepth 100000 in
set_option maxHeartbeats 4000000 in
theorem mX7_dash (l : Launch) (D : va_G) (cI cS : ClassId) (h : Nat → Nat → Nat) (Λ : s3_T) (π : Nat → Nat) (p1 : Int32) (r : Int32) (Λ' : s3_T) (π' : Nat → Nat) (hrun : fX7_dash p1 Λ π = some (r, Λ', π')) : me_I l D (tL cI cS) yX7_dash cX7_dash 2 .int 6 127 (wL cI cS h Λ π) [.ref (h 8 0), .int p1] r (wL cI cS h Λ' π') := by
  refine me_ofI (plainFor_of_name (by decide)) (Nat.le_of_ble_eq_true rfl) ?_
  intro p e s m args below meth c A ls S hK Y hA hl hr hlk hZ
  have hx := S.1
  have hb := S.2.1
  have hl : lv_has ls 2 [(0, .ref (h 8 0)), (1, .int p1)] := hl
  unfold fX7_dash at hrun
  refine lv_aload_n hx hb dX7_dash_0 rfl (lv_at hl 0 rfl) ?_
  refine ig S hK Y fX7_22 0 rfl (v := .ref (h 8 1)) rfl dX7_dash_1 ?_
  refine lv_aload_n hx hb dX7_dash_4 rfl (lv_at hl 0 rfl) ?_
  refine ig S hK Y fX7_10 0 rfl (v := .ref (h 0 0)) rfl dX7_dash_5 ?_
  obtain ⟨q_1, e_2, hrun⟩ := o_bh hrun
  refine cf_vv (As := [.ref (h 0 0)]) (rest := []) S hK hA hZ Y hl.1 (mX3_draft l D cI cS h Λ π q_1.1 q_1.2 e_2) kX7_37 (T := TX3) (N := 2) rfl (q0 := 1) rfl ⟨Nat.le_of_ble_eq_true rfl, Nat.le_of_ble_eq_true rfl⟩ rfl rfl (Nat.le_of_ble_eq_true rfl) ⟨Nat.le_of_ble_eq_true rfl, Nat.le_of_ble_eq_true rfl⟩ dX7_dash_8 (fun H locs Y => ?_)
  refine lv_aload_n hx hb dX7_dash_11 rfl (lv_at hl 0 rfl) ?_
  refine ig S hK Y fX7_22 0 rfl (v := .ref (h 8 1)) rfl dX7_dash_12 ?_
  refine lv_aload_n hx hb dX7_dash_15 rfl (lv_at hl 0 rfl) ?_
  refine ig S hK Y fX7_10 0 rfl (v := .ref (h 0 0)) rfl dX7_dash_16 ?_
  refine lv_iload_n hx hb dX7_dash_19 rfl (lv_at hl 1 rfl) ?_
  obtain ⟨q_3, e_4, hrun⟩ := o_bh hrun
  refine cg_s (ws2 := (wLr cI cS h (sg_3 q_1.1 0 q_3.2) (rL h q_1.2))) (it := [0]) (As := [.ref (h 0 0), .int p1]) (rest := [.ref (h 8 1)]) S hK hA hZ Y hl.1 (mX2_dashHome l D cI (h 0) (q_1.1 0) p1 q_3.1 q_3.2 e_4) (cNC h q_1.1 (rL h q_1.2)) (cNR h q_1.1 (rL h q_1.2)) nNC nNR dN_ (cNP h q_1.1 (rL h q_1.2) q_3.2) nNP rfl kX7_79 ⟨Nat.le_of_ble_eq_true rfl, Nat.le_of_ble_eq_true rfl⟩ rfl rfl (Nat.le_of_ble_eq_true rfl) ⟨Nat.le_of_ble_eq_true rfl, Nat.le_of_ble_eq_true rfl⟩ dX7_dash_20 (fun H locs Y => ?_)
  obtain ⟨q_5, e_6, hrun⟩ := o_bh hrun
  refine cf_v (As := [.int q_3.1]) (rest := []) S hK hA hZ Y hl.1 (mX3_keep l D cI cS h (sg_3 q_1.1 0 q_3.2) q_1.2 q_3.1 q_5.1 q_5.2.1 q_5.2.2 e_6) kX7_47 (T := TX3) (N := 2) rfl (q0 := 1) rfl ⟨Nat.le_of_ble_eq_true rfl, Nat.le_of_ble_eq_true rfl⟩ rfl rfl (Nat.le_of_ble_eq_true rfl) ⟨Nat.le_of_ble_eq_true rfl, Nat.le_of_ble_eq_true rfl⟩ dX7_dash_23 (fun H locs Y => ?_)
  cases hrun
  exact me_ri S hK Y hr hlk rfl dX7_dash_26
