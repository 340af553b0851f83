abbrev s3_T : Type := Nat → sg_T
def sg_3 (Λ : s3_T) (j : Nat) (σ : sg_T) : s3_T := fun j' => cond (Nat.beq j' j) σ (Λ j')
def tL (cI cS : ClassId) : List (ClassId × FieldType) := [(cI, .int), (cS, .object RX5)]
def rL (h : Nat → Nat → Nat) (π : Nat → Nat) : Nat → Option Nat := fun k => some (h (π k) 0)
def wLr (cI cS : ClassId) (h : Nat → Nat → Nat) (Λ : s3_T) (f : Nat → Option Nat) : va_W := (h 8 0, .inr (3, [.ref (h 0 0), .ref (h 1 0), .ref (h 8 1), .ref (h 9 0), .int (Λ 8 0 0)])) :: (h 8 1, .inr (1, [.ref (h 8 2), .int (Λ 8 0 1)])) :: (h 8 2, .inl (cS, 6, .inr (.inr (.inr (.inr f))))) :: (wT cI (h 9) (Λ 9) ++ (wS cI (h 0) (Λ 0) ++ (wS cI (h 1) (Λ 1) ++ (wS cI (h 2) (Λ 2) ++ (wS cI (h 3) (Λ 3) ++ (wS cI (h 4) (Λ 4) ++ (wS cI (h 5) (Λ 5) ++ (wS cI (h 6) (Λ 6) ++ wS cI (h 7) (Λ 7)))))))))
abbrev wL (cI cS : ClassId) (h : Nat → Nat → Nat) (Λ : s3_T) (π : Nat → Nat) : va_W := wLr cI cS h Λ (rL h π)
theorem wL_f0 {cI cS : ClassId} (h : Nat → Nat → Nat) (Λ : s3_T) (f : Nat → Option Nat) (x : Int32) : (wLr cI cS h Λ f).set 0 (h 8 0, .inr (3, [.ref (h 0 0), .ref (h 1 0), .ref (h 8 1), .ref (h 9 0), .int x])) = wLr cI cS h (sg_3 Λ 8 (sg_a (Λ 8) 0 (sg_u (Λ 8 0) 0 x))) f := rfl
theorem wL_f1 {cI cS : ClassId} (h : Nat → Nat → Nat) (Λ : s3_T) (f : Nat → Option Nat) (x : Int32) : (wLr cI cS h Λ f).set 1 (h 8 1, .inr (1, [.ref (h 8 2), .int x])) = wLr cI cS h (sg_3 Λ 8 (sg_a (Λ 8) 0 (sg_u (Λ 8 0) 1 x))) f := rfl
theorem wL_a {cI cS : ClassId} (h : Nat → Nat → Nat) (Λ : s3_T) (f g : Nat → Option Nat) : (wLr cI cS h Λ f).set 2 (h 8 2, .inl (cS, 6, .inr (.inr (.inr (.inr g))))) = wLr cI cS h Λ g := rfl
theorem wL_st {cI cS : ClassId} (h : Nat → Nat → Nat) (Λ : s3_T) (f : Nat → Option Nat) : ∀ j : Nat, j < 8 → (wLr cI cS h Λ f)[5 + 10 * j]? = some (h j 0, .inr (2, vS (h j) (Λ j 0)))
  | 0, _ => rfl
  | 1, _ => rfl
  | 2, _ => rfl
  | 3, _ => rfl
  | 4, _ => rfl
  | 5, _ => rfl
  | 6, _ => rfl
  | 7, _ => rfl
  | j + 8, q => absurd q (by omega)
/-! equal in what a cell holds -/
theorem ar_cg {cA : ClassId} {n : Nat} {f g : Nat → Int32} (h : ∀ k, k < n → f k = g k) : vp_cell cA (n, .inl f) = vp_cell cA (n, .inl g) := by
  rw [vp_cell_i, vp_cell_i]
  unfold arrV
  congr 2
  funext k
  exact congrArg Value.int (h k.val k.isLt)
theorem cpy_lt {f g : Nat → Int32} {n k : Nat} (hk : k < n) : va_cpy f g 0 0 n k = f k := by
  unfold va_cpy
  rw [if_pos ⟨Nat.zero_le _, by omega⟩, Nat.zero_add, Nat.sub_zero]
theorem dy_r {D : va_G} {A : Nat → Prop} {s : State} {w1 w2 : va_W} {H : Heap} {locs : List Loc} (hl : w1.length = w2.length) (h : ∀ (k : Nat) (p q : Nat × va_E), w1[k]? = some p → w2[k]? = some q → p.1 = q.1 ∧ (va_at D vwCl p H → va_at D vwCl q H)) (Y : dy_ D A s w1 H locs) : dy_ D A s w2 H locs := by
  have key : ∀ (k : Nat) (q : Nat × va_E), w2[k]? = some q → ∃ p, w1[k]? = some p := fun k q hq => by
    have hk : k < w1.length := by rw [hl]; exact (List.getElem?_eq_some_iff.mp hq).1
    exact ⟨w1[k], List.getElem?_eq_getElem hk⟩
  refine ⟨fun k q hq => ?_, ⟨fun i j p q hp hq hpq => ?_, fun k q hq => ?_⟩, Y.2.2⟩
  · obtain ⟨p, hp⟩ := key k q hq
    exact (h k p q hp hq).2 (Y.1 k p hp)
  · obtain ⟨p', hp'⟩ := key i p hp
    obtain ⟨q', hq'⟩ := key j q hq
    exact Y.2.1.1 i j p' q' hp' hq' (by rw [(h i p' p hp' hp).1, (h j q' q hq' hq).1]; exact hpq)
  · obtain ⟨p, hp⟩ := key k q hq
    rw [← (h k p q hp hq).1]
    exact Y.2.1.2 k p hp
set_option maxRecDepth 20000 in
theorem iuX7 : ∀ w ∈ u_ws RX7 TX7 5, w ∈ uw_ := uw_ps [156, 158, 160, 162, 164] rfl rfl
set_option maxRecDepth 20000 in
theorem iuX3 : ∀ w ∈ u_ws RX3 TX3 2, w ∈ uw_ := uw_ps [133, 135] rfl rfl
theorem fpX7 : fp_ TX7 5 tyX7 := ⟨tyX7_ok, nmX7⟩
theorem fpX3 : fp_ TX3 2 tyX3 := ⟨tyX3_ok, nmX3⟩
set_option maxRecDepth 20000 in
theorem fX3_11 : fl_ RX3 11 RX3 TX3 2 1 0 := ⟨iuX3, rfl, Nat.le_of_ble_eq_true rfl, uw_in 131 rfl rfl, rfl⟩
set_option maxRecDepth 20000 in
theorem fX3_17 : fl_ RX3 17 RX3 TX3 2 1 1 := ⟨iuX3, rfl, Nat.le_of_ble_eq_true rfl, uw_in 132 rfl rfl, rfl⟩
set_option maxRecDepth 20000 in
theorem fX5_18 : fl_ RX5 18 RX5 TX5 16 2 2 := ⟨iuX5, rfl, Nat.le_of_ble_eq_true rfl, uw_in 39 rfl rfl, rfl⟩
set_option maxRecDepth 20000 in
theorem fX5_21 : fl_ RX5 21 RX5 TX5 16 2 3 := ⟨iuX5, rfl, Nat.le_of_ble_eq_true rfl, uw_in 43 rfl rfl, rfl⟩
set_option maxRecDepth 20000 in
theorem fX5_24 : fl_ RX5 24 RX5 TX5 16 2 4 := ⟨iuX5, rfl, Nat.le_of_ble_eq_true rfl, uw_in 46 rfl rfl, rfl⟩
set_option maxRecDepth 20000 in
theorem fX5_27 : fl_ RX5 27 RX5 TX5 16 2 5 := ⟨iuX5, rfl, Nat.le_of_ble_eq_true rfl, uw_in 50 rfl rfl, rfl⟩
set_option maxRecDepth 20000 in
theorem fX5_35 : fl_ RX5 35 RX5 TX5 16 2 7 := ⟨iuX5, rfl, Nat.le_of_ble_eq_true rfl, uw_in 57 rfl rfl, rfl⟩
set_option maxRecDepth 20000 in
theorem fX5_45 : fl_ RX5 45 RX5 TX5 16 2 10 := ⟨iuX5, rfl, Nat.le_of_ble_eq_true rfl, uw_in 68 rfl rfl, rfl⟩
set_option maxRecDepth 20000 in
theorem fX5_48 : fl_ RX5 48 RX5 TX5 16 2 11 := ⟨iuX5, rfl, Nat.le_of_ble_eq_true rfl, uw_in 71 rfl rfl, rfl⟩
set_option maxRecDepth 20000 in
theorem fX5_51 : fl_ RX5 51 RX5 TX5 16 2 12 := ⟨iuX5, rfl, Nat.le_of_ble_eq_true rfl, uw_in 75 rfl rfl, rfl⟩
set_option maxRecDepth 20000 in
theorem fX5_60 : fl_ RX5 60 RX5 TX5 16 2 15 := ⟨iuX5, rfl, Nat.le_of_ble_eq_true rfl, uw_in 85 rfl rfl, rfl⟩
set_option maxRecDepth 20000 in
theorem fX7_10 : fl_ RX7 10 RX7 TX7 5 3 0 := ⟨iuX7, rfl, Nat.le_of_ble_eq_true rfl, uw_in 151 rfl rfl, rfl⟩
set_option maxRecDepth 20000 in
theorem fX7_105 : fl_ RX7 105 RX5 TX5 16 2 6 := ⟨iuX5, rfl, Nat.le_of_ble_eq_true rfl, uw_in 56 rfl rfl, rfl⟩
set_option maxRecDepth 20000 in
theorem fX7_116 : fl_ RX7 116 RX5 TX5 16 2 7 := ⟨iuX5, rfl, Nat.le_of_ble_eq_true rfl, uw_in 60 rfl rfl, rfl⟩
set_option maxRecDepth 20000 in
theorem fX7_131 : fl_ RX7 131 RX5 TX5 16 2 9 := ⟨iuX5, rfl, Nat.le_of_ble_eq_true rfl, uw_in 67 rfl rfl, rfl⟩
set_option maxRecDepth 20000 in
theorem fX7_135 : fl_ RX7 135 RX5 TX5 16 2 10 := ⟨iuX5, rfl, Nat.le_of_ble_eq_true rfl, uw_in 69 rfl rfl, rfl⟩
set_option maxRecDepth 20000 in
theorem fX7_138 : fl_ RX7 138 RX5 TX5 16 2 11 := ⟨iuX5, rfl, Nat.le_of_ble_eq_true rfl, uw_in 74 rfl rfl, rfl⟩
set_option maxRecDepth 20000 in
theorem fX7_141 : fl_ RX7 141 RX5 TX5 16 2 12 := ⟨iuX5, rfl, Nat.le_of_ble_eq_true rfl, uw_in 77 rfl rfl, rfl⟩
set_option maxRecDepth 20000 in
theorem fX7_144 : fl_ RX7 144 RX5 TX5 16 2 13 := ⟨iuX5, rfl, Nat.le_of_ble_eq_true rfl, uw_in 80 rfl rfl, rfl⟩
set_option maxRecDepth 20000 in
theorem fX7_147 : fl_ RX7 147 RX5 TX5 16 2 14 := ⟨iuX5, rfl, Nat.le_of_ble_eq_true rfl, uw_in 84 rfl rfl, rfl⟩
set_option maxRecDepth 20000 in
theorem fX7_150 : fl_ RX7 150 RX5 TX5 16 2 15 := ⟨iuX5, rfl, Nat.le_of_ble_eq_true rfl, uw_in 87 rfl rfl, rfl⟩
set_option maxRecDepth 20000 in
theorem fX7_22 : fl_ RX7 22 RX7 TX7 5 3 2 := ⟨iuX7, rfl, Nat.le_of_ble_eq_true rfl, uw_in 153 rfl rfl, rfl⟩
set_option maxRecDepth 20000 in
theorem fX7_55 : fl_ RX7 55 RX5 TX5 16 2 0 := ⟨iuX5, rfl, Nat.le_of_ble_eq_true rfl, uw_in 33 rfl rfl, rfl⟩
set_option maxRecDepth 20000 in
theorem fX7_85 : fl_ RX7 85 RX5 TX5 16 2 1 := ⟨iuX5, rfl, Nat.le_of_ble_eq_true rfl, uw_in 38 rfl rfl, rfl⟩
set_option maxRecDepth 20000 in
theorem fX7_88 : fl_ RX7 88 RX5 TX5 16 2 2 := ⟨iuX5, rfl, Nat.le_of_ble_eq_true rfl, uw_in 42 rfl rfl, rfl⟩
set_option maxRecDepth 20000 in
theorem fX7_91 : fl_ RX7 91 RX5 TX5 16 2 3 := ⟨iuX5, rfl, Nat.le_of_ble_eq_true rfl, uw_in 45 rfl rfl, rfl⟩
set_option maxRecDepth 20000 in
theorem fX7_94 : fl_ RX7 94 RX5 TX5 16 2 4 := ⟨iuX5, rfl, Nat.le_of_ble_eq_true rfl, uw_in 48 rfl rfl, rfl⟩
set_option maxRecDepth 20000 in
theorem fX7_97 : fl_ RX7 97 RX5 TX5 16 2 5 := ⟨iuX5, rfl, Nat.le_of_ble_eq_true rfl, uw_in 51 rfl rfl, rfl⟩
set_option maxRecDepth 20000 in
theorem kX3_22 : cv_ RX3 22 yX5_copyFrom cX5_copyFrom 2 none 1 := ⟨uw_in 175 rfl rfl, uw_in 176 rfl rfl, uw_in 177 rfl rfl, uw_in 3 rfl rfl, uw_in 178 rfl rfl, ⟨by decide, by decide, by decide +kernel⟩⟩
set_option maxRecDepth 20000 in
theorem kX3_26 : cv_ RX3 26 yX3_discardOldest cX3_discardOldest 3 none 0 := ⟨uw_in 196 rfl rfl, uw_in 198 rfl rfl, uw_in 0 rfl rfl, uw_in 5 rfl rfl, uw_in 199 rfl rfl, ⟨by decide, by decide, by decide +kernel⟩⟩
set_option maxRecDepth 20000 in
theorem kX7_100 : cs_ RX7 100 yX4_placeOf cX4_placeOf 4 (some .int) 2 := ⟨uw_in 397 rfl rfl, uw_in 398 rfl rfl, uw_in 12 rfl rfl, uw_in 399 rfl rfl, ⟨by decide, by decide, by decide +kernel⟩⟩
set_option maxRecDepth 20000 in
theorem kX7_108 : cs_ RX7 108 yX6_isSpot cX6_isSpot 1 (some .boolean) 1 := ⟨uw_in 415 rfl rfl, uw_in 251 rfl rfl, uw_in 9 rfl rfl, uw_in 252 rfl rfl, ⟨by decide, by decide, by decide +kernel⟩⟩
set_option maxRecDepth 20000 in
theorem kX7_113 : cs_ RX7 113 yX6_fromBase cX6_fromBase 1 (some .int) 1 := ⟨uw_in 416 rfl rfl, uw_in 235 rfl rfl, uw_in 9 rfl rfl, uw_in 236 rfl rfl, ⟨by decide, by decide, by decide +kernel⟩⟩
set_option maxRecDepth 20000 in
theorem kX7_119 : cv_ RX7 119 yX5_isRetired cX5_isRetired 2 (some .boolean) 1 := ⟨uw_in 417 rfl rfl, uw_in 247 rfl rfl, uw_in 248 rfl rfl, uw_in 3 rfl rfl, uw_in 249 rfl rfl, ⟨by decide, by decide, by decide +kernel⟩⟩
set_option maxRecDepth 20000 in
theorem kX7_122 : cv_ RX7 122 yX5_hidersAt cX5_hidersAt 4 (some .int) 1 := ⟨uw_in 418 rfl rfl, uw_in 262 rfl rfl, uw_in 263 rfl rfl, uw_in 3 rfl rfl, uw_in 264 rfl rfl, ⟨by decide, by decide, by decide +kernel⟩⟩
set_option maxRecDepth 20000 in
theorem kX7_125 : cs_ RX7 125 yX4_playerAt cX4_playerAt 3 (some .int) 2 := ⟨uw_in 407 rfl rfl, uw_in 408 rfl rfl, uw_in 12 rfl rfl, uw_in 409 rfl rfl, ⟨by decide, by decide, by decide +kernel⟩⟩
set_option maxRecDepth 20000 in
theorem kX7_128 : cs_ RX7 128 yX4_seekerOfNextRound cX4_seekerOfNextRound 3 (some .int) 1 := ⟨uw_in 472 rfl rfl, uw_in 473 rfl rfl, uw_in 12 rfl rfl, uw_in 474 rfl rfl, ⟨by decide, by decide, by decide +kernel⟩⟩
set_option maxRecDepth 20000 in
theorem kX7_153 : cv_ RX7 153 yX5_hiddenCount cX5_hiddenCount 3 (some .int) 0 := ⟨uw_in 483 rfl rfl, uw_in 295 rfl rfl, uw_in 296 rfl rfl, uw_in 3 rfl rfl, uw_in 297 rfl rfl, ⟨by decide, by decide, by decide +kernel⟩⟩
set_option maxRecDepth 20000 in
theorem kX7_157 : cv_ RX7 157 yX5_retiredCount cX5_retiredCount 3 (some .int) 0 := ⟨uw_in 484 rfl rfl, uw_in 485 rfl rfl, uw_in 486 rfl rfl, uw_in 3 rfl rfl, uw_in 487 rfl rfl, ⟨by decide, by decide, by decide +kernel⟩⟩
set_option maxRecDepth 20000 in
theorem kX7_160 : cv_ RX7 160 yX5_sumOfPoints cX5_sumOfPoints 3 (some .int) 0 := ⟨uw_in 488 rfl rfl, uw_in 489 rfl rfl, uw_in 490 rfl rfl, uw_in 3 rfl rfl, uw_in 491 rfl rfl, ⟨by decide, by decide, by decide +kernel⟩⟩
set_option maxRecDepth 20000 in
theorem kX7_163 : cs_ RX7 163 yX0_spotsInSight cX0_spotsInSight 3 (some .int) 1 := ⟨uw_in 437 rfl rfl, uw_in 438 rfl rfl, uw_in 13 rfl rfl, uw_in 439 rfl rfl, ⟨by decide, by decide, by decide +kernel⟩⟩
set_option maxRecDepth 20000 in
theorem kX7_168 : cs_ RX7 168 yX0_playersWhoWouldEscape cX0_playersWhoWouldEscape 3 (some .int) 1 := ⟨uw_in 445 rfl rfl, uw_in 446 rfl rfl, uw_in 13 rfl rfl, uw_in 447 rfl rfl, ⟨by decide, by decide, by decide +kernel⟩⟩
set_option maxRecDepth 20000 in
theorem kX7_171 : cs_ RX7 171 yX0_bestHidingSpot cX0_bestHidingSpot 3 (some .int) 1 := ⟨uw_in 423 rfl rfl, uw_in 424 rfl rfl, uw_in 13 rfl rfl, uw_in 425 rfl rfl, ⟨by decide, by decide, by decide +kernel⟩⟩
set_option maxRecDepth 20000 in
theorem kX7_174 : cs_ RX7 174 yX0_stepsToSeeAll cX0_stepsToSeeAll 4 (some .int) 1 := ⟨uw_in 453 rfl rfl, uw_in 454 rfl rfl, uw_in 13 rfl rfl, uw_in 455 rfl rfl, ⟨by decide, by decide, by decide +kernel⟩⟩
set_option maxRecDepth 20000 in
theorem kX7_37 : cv_ RX7 37 yX3_draft cX3_draft 2 none 1 := ⟨uw_in 171 rfl rfl, uw_in 172 rfl rfl, uw_in 173 rfl rfl, uw_in 5 rfl rfl, uw_in 174 rfl rfl, ⟨by decide, by decide, by decide +kernel⟩⟩
set_option maxRecDepth 20000 in
theorem kX7_41 : cs_ RX7 41 yX2_changeSetting cX2_changeSetting 4 (some .int) 3 := ⟨uw_in 182 rfl rfl, uw_in 183 rfl rfl, uw_in 8 rfl rfl, uw_in 184 rfl rfl, ⟨by decide, by decide, by decide +kernel⟩⟩
set_option maxRecDepth 20000 in
theorem kX7_47 : cv_ RX7 47 yX3_keep cX3_keep 2 (some .int) 1 := ⟨uw_in 192 rfl rfl, uw_in 193 rfl rfl, uw_in 194 rfl rfl, uw_in 5 rfl rfl, uw_in 195 rfl rfl, ⟨by decide, by decide, by decide +kernel⟩⟩
set_option maxRecDepth 20000 in
theorem kX7_51 : cs_ RX7 51 yX5_isSetting cX5_isSetting 1 (some .boolean) 1 := ⟨uw_in 204 rfl rfl, uw_in 186 rfl rfl, uw_in 3 rfl rfl, uw_in 187 rfl rfl, ⟨by decide, by decide, by decide +kernel⟩⟩
set_option maxRecDepth 20000 in
theorem kX7_59 : cs_ RX7 59 yX2_addPlayer cX2_addPlayer 2 (some .int) 1 := ⟨uw_in 209 rfl rfl, uw_in 210 rfl rfl, uw_in 8 rfl rfl, uw_in 211 rfl rfl, ⟨by decide, by decide, by decide +kernel⟩⟩
set_option maxRecDepth 20000 in
theorem kX7_63 : cs_ RX7 63 yX2_beginRound cX2_beginRound 3 (some .int) 3 := ⟨uw_in 216 rfl rfl, uw_in 217 rfl rfl, uw_in 8 rfl rfl, uw_in 218 rfl rfl, ⟨by decide, by decide, by decide +kernel⟩⟩
set_option maxRecDepth 20000 in
theorem kX7_66 : cs_ RX7 66 yX2_hidePlayer cX2_hidePlayer 3 (some .int) 3 := ⟨uw_in 275 rfl rfl, uw_in 276 rfl rfl, uw_in 8 rfl rfl, uw_in 277 rfl rfl, ⟨by decide, by decide, by decide +kernel⟩⟩
set_option maxRecDepth 20000 in
theorem kX7_69 : cs_ RX7 69 yX2_beginSeeking cX2_beginSeeking 2 (some .int) 1 := ⟨uw_in 291 rfl rfl, uw_in 292 rfl rfl, uw_in 8 rfl rfl, uw_in 293 rfl rfl, ⟨by decide, by decide, by decide +kernel⟩⟩
set_option maxRecDepth 20000 in
theorem kX7_72 : cs_ RX7 72 yX2_moveSeeker cX2_moveSeeker 2 (some .int) 2 := ⟨uw_in 313 rfl rfl, uw_in 314 rfl rfl, uw_in 8 rfl rfl, uw_in 315 rfl rfl, ⟨by decide, by decide, by decide +kernel⟩⟩
set_option maxRecDepth 20000 in
theorem kX7_76 : cs_ RX7 76 yX2_cryName cX2_cryName 3 (some .int) 3 := ⟨uw_in 323 rfl rfl, uw_in 324 rfl rfl, uw_in 8 rfl rfl, uw_in 325 rfl rfl, ⟨by decide, by decide, by decide +kernel⟩⟩
set_option maxRecDepth 20000 in
theorem kX7_79 : cs_ RX7 79 yX2_dashHome cX2_dashHome 2 (some .int) 2 := ⟨uw_in 352 rfl rfl, uw_in 353 rfl rfl, uw_in 8 rfl rfl, uw_in 354 rfl rfl, ⟨by decide, by decide, by decide +kernel⟩⟩
set_option maxRecDepth 20000 in
theorem kX7_82 : cv_ RX7 82 yX5_isPlayer cX5_isPlayer 2 (some .boolean) 1 := ⟨uw_in 396 rfl rfl, uw_in 220 rfl rfl, uw_in 221 rfl rfl, uw_in 3 rfl rfl, uw_in 222 rfl rfl, ⟨by decide, by decide, by decide +kernel⟩⟩
theorem wSS_f0 {cI : ClassId} (h : Nat → Nat) (σ : sg_T) (F : Nat → Int32) (x : Int32) (w2 : va_W) : (wS cI h σ ++ w2).set 0 (h 0, .inr (2, (vS h F).set 9 (.int x))) = wS cI h (sg_a σ 0 (sg_u F 0 x)) ++ w2 := rfl
theorem wSS_f1 {cI : ClassId} (h : Nat → Nat) (σ : sg_T) (F : Nat → Int32) (x : Int32) (w2 : va_W) : (wS cI h σ ++ w2).set 0 (h 0, .inr (2, (vS h F).set 10 (.int x))) = wS cI h (sg_a σ 0 (sg_u F 1 x)) ++ w2 := rfl
theorem wSS_f2 {cI : ClassId} (h : Nat → Nat) (σ : sg_T) (F : Nat → Int32) (x : Int32) (w2 : va_W) : (wS cI h σ ++ w2).set 0 (h 0, .inr (2, (vS h F).set 11 (.int x))) = wS cI h (sg_a σ 0 (sg_u F 2 x)) ++ w2 := rfl
theorem wSS_f3 {cI : ClassId} (h : Nat → Nat) (σ : sg_T) (F : Nat → Int32) (x : Int32) (w2 : va_W) : (wS cI h σ ++ w2).set 0 (h 0, .inr (2, (vS h F).set 12 (.int x))) = wS cI h (sg_a σ 0 (sg_u F 3 x)) ++ w2 := rfl
theorem wSS_f4 {cI : ClassId} (h : Nat → Nat) (σ : sg_T) (F : Nat → Int32) (x : Int32) (w2 : va_W) : (wS cI h σ ++ w2).set 0 (h 0, .inr (2, (vS h F).set 13 (.int x))) = wS cI h (sg_a σ 0 (sg_u F 4 x)) ++ w2 := rfl
theorem wSS_f5 {cI : ClassId} (h : Nat → Nat) (σ : sg_T) (F : Nat → Int32) (x : Int32) (w2 : va_W) : (wS cI h σ ++ w2).set 0 (h 0, .inr (2, (vS h F).set 14 (.int x))) = wS cI h (sg_a σ 0 (sg_u F 5 x)) ++ w2 := rfl
theorem wSS_f6 {cI : ClassId} (h : Nat → Nat) (σ : sg_T) (F : Nat → Int32) (x : Int32) (w2 : va_W) : (wS cI h σ ++ w2).set 0 (h 0, .inr (2, (vS h F).set 15 (.int x))) = wS cI h (sg_a σ 0 (sg_u F 6 x)) ++ w2 := rfl
theorem wSS_a1 {cI : ClassId} (h : Nat → Nat) (σ : sg_T) (f : Nat → Int32) (w2 : va_W) : (wS cI h σ ++ w2).set 1 (h 1, .inl (cI, 4, .inl f)) = wS cI h (sg_a σ 1 f) ++ w2 := rfl
theorem wSS_a2 {cI : ClassId} (h : Nat → Nat) (σ : sg_T) (f : Nat → Int32) (w2 : va_W) : (wS cI h σ ++ w2).set 2 (h 2, .inl (cI, 8, .inl f)) = wS cI h (sg_a σ 2 f) ++ w2 := rfl
theorem wSS_a3 {cI : ClassId} (h : Nat → Nat) (σ : sg_T) (f : Nat → Int32) (w2 : va_W) : (wS cI h σ ++ w2).set 3 (h 3, .inl (cI, 8, .inl f)) = wS cI h (sg_a σ 3 f) ++ w2 := rfl
theorem wSS_a4 {cI : ClassId} (h : Nat → Nat) (σ : sg_T) (f : Nat → Int32) (w2 : va_W) : (wS cI h σ ++ w2).set 4 (h 4, .inl (cI, 8, .inl f)) = wS cI h (sg_a σ 4 f) ++ w2 := rfl
theorem wSS_a5 {cI : ClassId} (h : Nat → Nat) (σ : sg_T) (f : Nat → Int32) (w2 : va_W) : (wS cI h σ ++ w2).set 5 (h 5, .inl (cI, 8, .inl f)) = wS cI h (sg_a σ 5 f) ++ w2 := rfl
theorem wSS_a6 {cI : ClassId} (h : Nat → Nat) (σ : sg_T) (f : Nat → Int32) (w2 : va_W) : (wS cI h σ ++ w2).set 6 (h 6, .inl (cI, 8, .inl f)) = wS cI h (sg_a σ 6 f) ++ w2 := rfl
theorem wSS_a7 {cI : ClassId} (h : Nat → Nat) (σ : sg_T) (f : Nat → Int32) (w2 : va_W) : (wS cI h σ ++ w2).set 7 (h 7, .inl (cI, 8, .inl f)) = wS cI h (sg_a σ 7 f) ++ w2 := rfl
theorem wSS_a8 {cI : ClassId} (h : Nat → Nat) (σ : sg_T) (f : Nat → Int32) (w2 : va_W) : (wS cI h σ ++ w2).set 8 (h 8, .inl (cI, 16, .inl f)) = wS cI h (sg_a σ 8 f) ++ w2 := rfl
theorem wSS_a9 {cI : ClassId} (h : Nat → Nat) (σ : sg_T) (f : Nat → Int32) (w2 : va_W) : (wS cI h σ ++ w2).set 9 (h 9, .inl (cI, 16, .inl f)) = wS cI h (sg_a σ 9 f) ++ w2 := rfl
theorem wSS_cg {cI : ClassId} {D : va_G} {A : Nat → Prop} {s : State} {h1 h2 : Nat → Nat} {σ σ' σ2 : sg_T} {H : Heap} {locs : List Loc} (hf : vS h1 (σ 0) = vS h1 (σ' 0)) (hc1 : ∀ k, k < 4 → σ 1 k = σ' 1 k) (hc2 : ∀ k, k < 8 → σ 2 k = σ' 2 k) (hc3 : ∀ k, k < 8 → σ 3 k = σ' 3 k) (hc4 : ∀ k, k < 8 → σ 4 k = σ' 4 k) (hc5 : ∀ k, k < 8 → σ 5 k = σ' 5 k) (hc6 : ∀ k, k < 8 → σ 6 k = σ' 6 k) (hc7 : ∀ k, k < 8 → σ 7 k = σ' 7 k) (hc8 : ∀ k, k < 16 → σ 8 k = σ' 8 k) (hc9 : ∀ k, k < 16 → σ 9 k = σ' 9 k) (Y : dy_ D A s (wS cI h1 σ ++ wS cI h2 σ2) H locs) : dy_ D A s (wS cI h1 σ' ++ wS cI h2 σ2) H locs := by
  refine dy_r (w1 := wS cI h1 σ ++ wS cI h2 σ2) (w2 := wS cI h1 σ' ++ wS cI h2 σ2) rfl ?_ Y
  intro k p q hp hq
  match k, hp, hq with
  | 0, hp, hq => cases hp; cases hq; exact ⟨rfl, fun z => by rw [← hf]; exact z⟩
  | 1, hp, hq => cases hp; cases hq; exact ⟨rfl, fun z => by have e := ar_cg (cA := cI) hc1; show H[_]? = some (vp_cell cI _); rw [← e]; exact z⟩
  | 2, hp, hq => cases hp; cases hq; exact ⟨rfl, fun z => by have e := ar_cg (cA := cI) hc2; show H[_]? = some (vp_cell cI _); rw [← e]; exact z⟩
  | 3, hp, hq => cases hp; cases hq; exact ⟨rfl, fun z => by have e := ar_cg (cA := cI) hc3; show H[_]? = some (vp_cell cI _); rw [← e]; exact z⟩
  | 4, hp, hq => cases hp; cases hq; exact ⟨rfl, fun z => by have e := ar_cg (cA := cI) hc4; show H[_]? = some (vp_cell cI _); rw [← e]; exact z⟩
  | 5, hp, hq => cases hp; cases hq; exact ⟨rfl, fun z => by have e := ar_cg (cA := cI) hc5; show H[_]? = some (vp_cell cI _); rw [← e]; exact z⟩
  | 6, hp, hq => cases hp; cases hq; exact ⟨rfl, fun z => by have e := ar_cg (cA := cI) hc6; show H[_]? = some (vp_cell cI _); rw [← e]; exact z⟩
  | 7, hp, hq => cases hp; cases hq; exact ⟨rfl, fun z => by have e := ar_cg (cA := cI) hc7; show H[_]? = some (vp_cell cI _); rw [← e]; exact z⟩
  | 8, hp, hq => cases hp; cases hq; exact ⟨rfl, fun z => by have e := ar_cg (cA := cI) hc8; show H[_]? = some (vp_cell cI _); rw [← e]; exact z⟩
  | 9, hp, hq => cases hp; cases hq; exact ⟨rfl, fun z => by have e := ar_cg (cA := cI) hc9; show H[_]? = some (vp_cell cI _); rw [← e]; exact z⟩
  | k + 10, hp, hq =>
    have e : (wS cI h1 σ ++ wS cI h2 σ2)[k + 10]? = (wS cI h1 σ' ++ wS cI h2 σ2)[k + 10]? := rfl
    rw [hp, hq] at e
    cases e
    exact ⟨rfl, fun z => z⟩
set_option maxRecDepth 100000 in
set_option maxHeartbeats 4000000 in
theorem mX5_copyFrom (l : Launch) (D : va_G) (cI : ClassId) (h1 h2 : Nat → Nat) (σ1 σ2 : sg_T) : me_V l D (tS cI) yX5_copyFrom cX5_copyFrom 2 1 18 (wS cI h1 σ1 ++ wS cI h2 σ2) [.ref (h1 0), .ref (h2 0)] (wS cI h1 σ2 ++ wS cI h2 σ2) := by
  refine me_ofV (plainFor_of_name (by decide)) (Nat.le_of_ble_eq_true rfl) ?_
  intro p e s m args below meth c A ls S hK Y hA hl hr hlk hZ
  have hx := S.1
  have hb := S.2.1
  have hl : lv_has ls 2 [(0, .ref (h1 0)), (1, .ref (h2 0))] := hl
  refine lv_aload_n hx hb dX5_copyFrom_0 rfl (lv_at hl 1 rfl) ?_
  refine ig S hK Y fX5_9 10 rfl (v := .ref (h2 1)) rfl dX5_copyFrom_1 ?_
  refine lv_iconst (v := (0 : Int32)) hx hb dX5_copyFrom_4 (by decide) ?_
  refine lv_aload_n hx hb dX5_copyFrom_5 rfl (lv_at hl 0 rfl) ?_
  refine ig S hK Y fX5_9 0 rfl (v := .ref (h1 1)) rfl dX5_copyFrom_6 ?_
  refine lv_iconst (v := (0 : Int32)) hx hb dX5_copyFrom_9 (by decide) ?_
  refine lv_aload_n hx hb dX5_copyFrom_10 rfl (lv_at hl 0 rfl) ?_
  refine ig S hK Y fX5_9 0 rfl (v := .ref (h1 1)) rfl dX5_copyFrom_11 ?_
  refine va_alen (v := (4 : Int32)) hx hb hK Y.1 1 0 rfl rfl rfl dX5_copyFrom_14 ?_
  refine va_copyi hx hb (S.2.2.1.trans hl.1.symm) S.2.2.2.1 (S.2.2.2.2 _ (List.mem_cons_of_mem _ (uw_in 179 rfl rfl))) (S.2.2.2.2 _ (List.mem_cons_of_mem _ (uw_in 181 rfl rfl))) (S.2.2.2.2 _ (List.mem_cons_of_mem _ (uw_in 180 rfl rfl))) (S.2.2.2.2 _ (List.mem_cons_of_mem _ (uw_in 7 rfl rfl))) hK Y.1 Y.2.1 Y.2.2 11 1 0 0 (f := σ2 1) (g := σ1 1) rfl rfl rfl rfl rfl (by decide) (by decide) (by decide) (by decide) (by decide) (fun _ _ => rfl) (Nat.le_of_ble_eq_true rfl) (Nat.le_of_ble_eq_true rfl) dX5_copyFrom_15 (fun H locs hP hD hS => ?_)
  have Y : dy_ D A s (wS cI h1 (sg_a σ1 1 (va_cpy (σ2 1) (σ1 1) (0 : Int32).toNatClampNeg (0 : Int32).toNatClampNeg (4 : Int32).toNatClampNeg)) ++ wS cI h2 σ2) H locs := by rw [← wSS_a1]; exact ⟨hP, hD, hS⟩
  refine lv_aload_n hx hb dX5_copyFrom_18 rfl (lv_at hl 1 rfl) ?_
  refine ig S hK Y fX5_15 10 rfl (v := .ref (h2 2)) rfl dX5_copyFrom_19 ?_
  refine lv_iconst (v := (0 : Int32)) hx hb dX5_copyFrom_22 (by decide) ?_
  refine lv_aload_n hx hb dX5_copyFrom_23 rfl (lv_at hl 0 rfl) ?_
  refine ig S hK Y fX5_15 0 rfl (v := .ref (h1 2)) rfl dX5_copyFrom_24 ?_
  refine lv_iconst (v := (0 : Int32)) hx hb dX5_copyFrom_27 (by decide) ?_
  refine lv_bipush (v := (8 : Int32)) hx hb dX5_copyFrom_28 (by decide) ?_
  refine va_copyi hx hb (S.2.2.1.trans hl.1.symm) S.2.2.2.1 (S.2.2.2.2 _ (List.mem_cons_of_mem _ (uw_in 179 rfl rfl))) (S.2.2.2.2 _ (List.mem_cons_of_mem _ (uw_in 181 rfl rfl))) (S.2.2.2.2 _ (List.mem_cons_of_mem _ (uw_in 180 rfl rfl))) (S.2.2.2.2 _ (List.mem_cons_of_mem _ (uw_in 7 rfl rfl))) hK Y.1 Y.2.1 Y.2.2 12 2 0 0 (f := σ2 2) (g := σ1 2) rfl rfl rfl rfl rfl (by decide) (by decide) (by decide) (by decide) (by decide) (fun _ _ => rfl) (Nat.le_of_ble_eq_true rfl) (Nat.le_of_ble_eq_true rfl) dX5_copyFrom_30 (fun H locs hP hD hS => ?_)
  have Y : dy_ D A s (wS cI h1 (sg_a (sg_a σ1 1 (va_cpy (σ2 1) (σ1 1) (0 : Int32).toNatClampNeg (0 : Int32).toNatClampNeg (4 : Int32).toNatClampNeg)) 2 (va_cpy (σ2 2) (σ1 2) (0 : Int32).toNatClampNeg (0 : Int32).toNatClampNeg (8 : Int32).toNatClampNeg)) ++ wS cI h2 σ2) H locs := by rw [← wSS_a2]; exact ⟨hP, hD, hS⟩
  refine lv_aload_n hx hb dX5_copyFrom_33 rfl (lv_at hl 1 rfl) ?_
  refine ig S hK Y fX5_18 10 rfl (v := .ref (h2 3)) rfl dX5_copyFrom_34 ?_
  refine lv_iconst (v := (0 : Int32)) hx hb dX5_copyFrom_37 (by decide) ?_
  refine lv_aload_n hx hb dX5_copyFrom_38 rfl (lv_at hl 0 rfl) ?_
  refine ig S hK Y fX5_18 0 rfl (v := .ref (h1 3)) rfl dX5_copyFrom_39 ?_
  refine lv_iconst (v := (0 : Int32)) hx hb dX5_copyFrom_42 (by decide) ?_
  refine lv_bipush (v := (8 : Int32)) hx hb dX5_copyFrom_43 (by decide) ?_
  refine va_copyi hx hb (S.2.2.1.trans hl.1.symm) S.2.2.2.1 (S.2.2.2.2 _ (List.mem_cons_of_mem _ (uw_in 179 rfl rfl))) (S.2.2.2.2 _ (List.mem_cons_of_mem _ (uw_in 181 rfl rfl))) (S.2.2.2.2 _ (List.mem_cons_of_mem _ (uw_in 180 rfl rfl))) (S.2.2.2.2 _ (List.mem_cons_of_mem _ (uw_in 7 rfl rfl))) hK Y.1 Y.2.1 Y.2.2 13 3 0 0 (f := σ2 3) (g := σ1 3) rfl rfl rfl rfl rfl (by decide) (by decide) (by decide) (by decide) (by decide) (fun _ _ => rfl) (Nat.le_of_ble_eq_true rfl) (Nat.le_of_ble_eq_true rfl) dX5_copyFrom_45 (fun H locs hP hD hS => ?_)
  have Y : dy_ D A s (wS cI h1 (sg_a (sg_a (sg_a σ1 1 (va_cpy (σ2 1) (σ1 1) (0 : Int32).toNatClampNeg (0 : Int32).toNatClampNeg (4 : Int32).toNatClampNeg)) 2 (va_cpy (σ2 2) (σ1 2) (0 : Int32).toNatClampNeg (0 : Int32).toNatClampNeg (8 : Int32).toNatClampNeg)) 3 (va_cpy (σ2 3) (σ1 3) (0 : Int32).toNatClampNeg (0 : Int32).toNatClampNeg (8 : Int32).toNatClampNeg)) ++ wS cI h2 σ2) H locs := by rw [← wSS_a3]; exact ⟨hP, hD, hS⟩
  refine lv_aload_n hx hb dX5_copyFrom_48 rfl (lv_at hl 1 rfl) ?_
  refine ig S hK Y fX5_21 10 rfl (v := .ref (h2 4)) rfl dX5_copyFrom_49 ?_
  refine lv_iconst (v := (0 : Int32)) hx hb dX5_copyFrom_52 (by decide) ?_
  refine lv_aload_n hx hb dX5_copyFrom_53 rfl (lv_at hl 0 rfl) ?_
  refine ig S hK Y fX5_21 0 rfl (v := .ref (h1 4)) rfl dX5_copyFrom_54 ?_
  refine lv_iconst (v := (0 : Int32)) hx hb dX5_copyFrom_57 (by decide) ?_
  refine lv_bipush (v := (8 : Int32)) hx hb dX5_copyFrom_58 (by decide) ?_
  refine va_copyi hx hb (S.2.2.1.trans hl.1.symm) S.2.2.2.1 (S.2.2.2.2 _ (List.mem_cons_of_mem _ (uw_in 179 rfl rfl))) (S.2.2.2.2 _ (List.mem_cons_of_mem _ (uw_in 181 rfl rfl))) (S.2.2.2.2 _ (List.mem_cons_of_mem _ (uw_in 180 rfl rfl))) (S.2.2.2.2 _ (List.mem_cons_of_mem _ (uw_in 7 rfl rfl))) hK Y.1 Y.2.1 Y.2.2 14 4 0 0 (f := σ2 4) (g := σ1 4) rfl rfl rfl rfl rfl (by decide) (by decide) (by decide) (by decide) (by decide) (fun _ _ => rfl) (Nat.le_of_ble_eq_true rfl) (Nat.le_of_ble_eq_true rfl) dX5_copyFrom_60 (fun H locs hP hD hS => ?_)
  have Y : dy_ D A s (wS cI h1 (sg_a (sg_a (sg_a (sg_a σ1 1 (va_cpy (σ2 1) (σ1 1) (0 : Int32).toNatClampNeg (0 : Int32).toNatClampNeg (4 : Int32).toNatClampNeg)) 2 (va_cpy (σ2 2) (σ1 2) (0 : Int32).toNatClampNeg (0 : Int32).toNatClampNeg (8 : Int32).toNatClampNeg)) 3 (va_cpy (σ2 3) (σ1 3) (0 : Int32).toNatClampNeg (0 : Int32).toNatClampNeg (8 : Int32).toNatClampNeg)) 4 (va_cpy (σ2 4) (σ1 4) (0 : Int32).toNatClampNeg (0 : Int32).toNatClampNeg (8 : Int32).toNatClampNeg)) ++ wS cI h2 σ2) H locs := by rw [← wSS_a4]; exact ⟨hP, hD, hS⟩
  refine lv_aload_n hx hb dX5_copyFrom_63 rfl (lv_at hl 1 rfl) ?_
  refine ig S hK Y fX5_24 10 rfl (v := .ref (h2 5)) rfl dX5_copyFrom_64 ?_
  refine lv_iconst (v := (0 : Int32)) hx hb dX5_copyFrom_67 (by decide) ?_
  refine lv_aload_n hx hb dX5_copyFrom_68 rfl (lv_at hl 0 rfl) ?_
  refine ig S hK Y fX5_24 0 rfl (v := .ref (h1 5)) rfl dX5_copyFrom_69 ?_
  refine lv_iconst (v := (0 : Int32)) hx hb dX5_copyFrom_72 (by decide) ?_
  refine lv_bipush (v := (8 : Int32)) hx hb dX5_copyFrom_73 (by decide) ?_
  refine va_copyi hx hb (S.2.2.1.trans hl.1.symm) S.2.2.2.1 (S.2.2.2.2 _ (List.mem_cons_of_mem _ (uw_in 179 rfl rfl))) (S.2.2.2.2 _ (List.mem_cons_of_mem _ (uw_in 181 rfl rfl))) (S.2.2.2.2 _ (List.mem_cons_of_mem _ (uw_in 180 rfl rfl))) (S.2.2.2.2 _ (List.mem_cons_of_mem _ (uw_in 7 rfl rfl))) hK Y.1 Y.2.1 Y.2.2 15 5 0 0 (f := σ2 5) (g := σ1 5) rfl rfl rfl rfl rfl (by decide) (by decide) (by decide) (by decide) (by decide) (fun _ _ => rfl) (Nat.le_of_ble_eq_true rfl) (Nat.le_of_ble_eq_true rfl) dX5_copyFrom_75 (fun H locs hP hD hS => ?_)
  have Y : dy_ D A s (wS cI h1 (sg_a (sg_a (sg_a (sg_a (sg_a σ1 1 (va_cpy (σ2 1) (σ1 1) (0 : Int32).toNatClampNeg (0 : Int32).toNatClampNeg (4 : Int32).toNatClampNeg)) 2 (va_cpy (σ2 2) (σ1 2) (0 : Int32).toNatClampNeg (0 : Int32).toNatClampNeg (8 : Int32).toNatClampNeg)) 3 (va_cpy (σ2 3) (σ1 3) (0 : Int32).toNatClampNeg (0 : Int32).toNatClampNeg (8 : Int32).toNatClampNeg)) 4 (va_cpy (σ2 4) (σ1 4) (0 : Int32).toNatClampNeg (0 : Int32).toNatClampNeg (8 : Int32).toNatClampNeg)) 5 (va_cpy (σ2 5) (σ1 5) (0 : Int32).toNatClampNeg (0 : Int32).toNatClampNeg (8 : Int32).toNatClampNeg)) ++ wS cI h2 σ2) H locs := by rw [← wSS_a5]; exact ⟨hP, hD, hS⟩
  refine lv_aload_n hx hb dX5_copyFrom_78 rfl (lv_at hl 1 rfl) ?_
  refine ig S hK Y fX5_27 10 rfl (v := .ref (h2 6)) rfl dX5_copyFrom_79 ?_
  refine lv_iconst (v := (0 : Int32)) hx hb dX5_copyFrom_82 (by decide) ?_
  refine lv_aload_n hx hb dX5_copyFrom_83 rfl (lv_at hl 0 rfl) ?_
  refine ig S hK Y fX5_27 0 rfl (v := .ref (h1 6)) rfl dX5_copyFrom_84 ?_
  refine lv_iconst (v := (0 : Int32)) hx hb dX5_copyFrom_87 (by decide) ?_
  refine lv_bipush (v := (8 : Int32)) hx hb dX5_copyFrom_88 (by decide) ?_
  refine va_copyi hx hb (S.2.2.1.trans hl.1.symm) S.2.2.2.1 (S.2.2.2.2 _ (List.mem_cons_of_mem _ (uw_in 179 rfl rfl))) (S.2.2.2.2 _ (List.mem_cons_of_mem _ (uw_in 181 rfl rfl))) (S.2.2.2.2 _ (List.mem_cons_of_mem _ (uw_in 180 rfl rfl))) (S.2.2.2.2 _ (List.mem_cons_of_mem _ (uw_in 7 rfl rfl))) hK Y.1 Y.2.1 Y.2.2 16 6 0 0 (f := σ2 6) (g := σ1 6) rfl rfl rfl rfl rfl (by decide) (by decide) (by decide) (by decide) (by decide) (fun _ _ => rfl) (Nat.le_of_ble_eq_true rfl) (Nat.le_of_ble_eq_true rfl) dX5_copyFrom_90 (fun H locs hP hD hS => ?_)
  have Y : dy_ D A s (wS cI h1 (sg_a (sg_a (sg_a (sg_a (sg_a (sg_a σ1 1 (va_cpy (σ2 1) (σ1 1) (0 : Int32).toNatClampNeg (0 : Int32).toNatClampNeg (4 : Int32).toNatClampNeg)) 2 (va_cpy (σ2 2) (σ1 2) (0 : Int32).toNatClampNeg (0 : Int32).toNatClampNeg (8 : Int32).toNatClampNeg)) 3 (va_cpy (σ2 3) (σ1 3) (0 : Int32).toNatClampNeg (0 : Int32).toNatClampNeg (8 : Int32).toNatClampNeg)) 4 (va_cpy (σ2 4) (σ1 4) (0 : Int32).toNatClampNeg (0 : Int32).toNatClampNeg (8 : Int32).toNatClampNeg)) 5 (va_cpy (σ2 5) (σ1 5) (0 : Int32).toNatClampNeg (0 : Int32).toNatClampNeg (8 : Int32).toNatClampNeg)) 6 (va_cpy (σ2 6) (σ1 6) (0 : Int32).toNatClampNeg (0 : Int32).toNatClampNeg (8 : Int32).toNatClampNeg)) ++ wS cI h2 σ2) H locs := by rw [← wSS_a6]; exact ⟨hP, hD, hS⟩
  refine lv_aload_n hx hb dX5_copyFrom_93 rfl (lv_at hl 1 rfl) ?_
  refine ig S hK Y fX5_30 10 rfl (v := .ref (h2 7)) rfl dX5_copyFrom_94 ?_
  refine lv_iconst (v := (0 : Int32)) hx hb dX5_copyFrom_97 (by decide) ?_
  refine lv_aload_n hx hb dX5_copyFrom_98 rfl (lv_at hl 0 rfl) ?_
  refine ig S hK Y fX5_30 0 rfl (v := .ref (h1 7)) rfl dX5_copyFrom_99 ?_
  refine lv_iconst (v := (0 : Int32)) hx hb dX5_copyFrom_102 (by decide) ?_
  refine lv_bipush (v := (8 : Int32)) hx hb dX5_copyFrom_103 (by decide) ?_
  refine va_copyi hx hb (S.2.2.1.trans hl.1.symm) S.2.2.2.1 (S.2.2.2.2 _ (List.mem_cons_of_mem _ (uw_in 179 rfl rfl))) (S.2.2.2.2 _ (List.mem_cons_of_mem _ (uw_in 181 rfl rfl))) (S.2.2.2.2 _ (List.mem_cons_of_mem _ (uw_in 180 rfl rfl))) (S.2.2.2.2 _ (List.mem_cons_of_mem _ (uw_in 7 rfl rfl))) hK Y.1 Y.2.1 Y.2.2 17 7 0 0 (f := σ2 7) (g := σ1 7) rfl rfl rfl rfl rfl (by decide) (by decide) (by decide) (by decide) (by decide) (fun _ _ => rfl) (Nat.le_of_ble_eq_true rfl) (Nat.le_of_ble_eq_true rfl) dX5_copyFrom_105 (fun H locs hP hD hS => ?_)
  have Y : dy_ D A s (wS cI h1 (sg_a (sg_a (sg_a (sg_a (sg_a (sg_a (sg_a σ1 1 (va_cpy (σ2 1) (σ1 1) (0 : Int32).toNatClampNeg (0 : Int32).toNatClampNeg (4 : Int32).toNatClampNeg)) 2 (va_cpy (σ2 2) (σ1 2) (0 : Int32).toNatClampNeg (0 : Int32).toNatClampNeg (8 : Int32).toNatClampNeg)) 3 (va_cpy (σ2 3) (σ1 3) (0 : Int32).toNatClampNeg (0 : Int32).toNatClampNeg (8 : Int32).toNatClampNeg)) 4 (va_cpy (σ2 4) (σ1 4) (0 : Int32).toNatClampNeg (0 : Int32).toNatClampNeg (8 : Int32).toNatClampNeg)) 5 (va_cpy (σ2 5) (σ1 5) (0 : Int32).toNatClampNeg (0 : Int32).toNatClampNeg (8 : Int32).toNatClampNeg)) 6 (va_cpy (σ2 6) (σ1 6) (0 : Int32).toNatClampNeg (0 : Int32).toNatClampNeg (8 : Int32).toNatClampNeg)) 7 (va_cpy (σ2 7) (σ1 7) (0 : Int32).toNatClampNeg (0 : Int32).toNatClampNeg (8 : Int32).toNatClampNeg)) ++ wS cI h2 σ2) H locs := by rw [← wSS_a7]; exact ⟨hP, hD, hS⟩
  refine lv_aload_n hx hb dX5_copyFrom_108 rfl (lv_at hl 1 rfl) ?_
  refine ig S hK Y fX5_35 10 rfl (v := .ref (h2 8)) rfl dX5_copyFrom_109 ?_
  refine lv_iconst (v := (0 : Int32)) hx hb dX5_copyFrom_112 (by decide) ?_
  refine lv_aload_n hx hb dX5_copyFrom_113 rfl (lv_at hl 0 rfl) ?_
  refine ig S hK Y fX5_35 0 rfl (v := .ref (h1 8)) rfl dX5_copyFrom_114 ?_
  refine lv_iconst (v := (0 : Int32)) hx hb dX5_copyFrom_117 (by decide) ?_
  refine lv_bipush (v := (16 : Int32)) hx hb dX5_copyFrom_118 (by decide) ?_
  refine va_copyi hx hb (S.2.2.1.trans hl.1.symm) S.2.2.2.1 (S.2.2.2.2 _ (List.mem_cons_of_mem _ (uw_in 179 rfl rfl))) (S.2.2.2.2 _ (List.mem_cons_of_mem _ (uw_in 181 rfl rfl))) (S.2.2.2.2 _ (List.mem_cons_of_mem _ (uw_in 180 rfl rfl))) (S.2.2.2.2 _ (List.mem_cons_of_mem _ (uw_in 7 rfl rfl))) hK Y.1 Y.2.1 Y.2.2 18 8 0 0 (f := σ2 8) (g := σ1 8) rfl rfl rfl rfl rfl (by decide) (by decide) (by decide) (by decide) (by decide) (fun _ _ => rfl) (Nat.le_of_ble_eq_true rfl) (Nat.le_of_ble_eq_true rfl) dX5_copyFrom_120 (fun H locs hP hD hS => ?_)
  have Y : dy_ D A s (wS cI h1 (sg_a (sg_a (sg_a (sg_a (sg_a (sg_a (sg_a (sg_a σ1 1 (va_cpy (σ2 1) (σ1 1) (0 : Int32).toNatClampNeg (0 : Int32).toNatClampNeg (4 : Int32).toNatClampNeg)) 2 (va_cpy (σ2 2) (σ1 2) (0 : Int32).toNatClampNeg (0 : Int32).toNatClampNeg (8 : Int32).toNatClampNeg)) 3 (va_cpy (σ2 3) (σ1 3) (0 : Int32).toNatClampNeg (0 : Int32).toNatClampNeg (8 : Int32).toNatClampNeg)) 4 (va_cpy (σ2 4) (σ1 4) (0 : Int32).toNatClampNeg (0 : Int32).toNatClampNeg (8 : Int32).toNatClampNeg)) 5 (va_cpy (σ2 5) (σ1 5) (0 : Int32).toNatClampNeg (0 : Int32).toNatClampNeg (8 : Int32).toNatClampNeg)) 6 (va_cpy (σ2 6) (σ1 6) (0 : Int32).toNatClampNeg (0 : Int32).toNatClampNeg (8 : Int32).toNatClampNeg)) 7 (va_cpy (σ2 7) (σ1 7) (0 : Int32).toNatClampNeg (0 : Int32).toNatClampNeg (8 : Int32).toNatClampNeg)) 8 (va_cpy (σ2 8) (σ1 8) (0 : Int32).toNatClampNeg (0 : Int32).toNatClampNeg (16 : Int32).toNatClampNeg)) ++ wS cI h2 σ2) H locs := by rw [← wSS_a8]; exact ⟨hP, hD, hS⟩
  refine lv_aload_n hx hb dX5_copyFrom_123 rfl (lv_at hl 1 rfl) ?_
  refine ig S hK Y fX5_38 10 rfl (v := .ref (h2 9)) rfl dX5_copyFrom_124 ?_
  refine lv_iconst (v := (0 : Int32)) hx hb dX5_copyFrom_127 (by decide) ?_
  refine lv_aload_n hx hb dX5_copyFrom_128 rfl (lv_at hl 0 rfl) ?_
  refine ig S hK Y fX5_38 0 rfl (v := .ref (h1 9)) rfl dX5_copyFrom_129 ?_
  refine lv_iconst (v := (0 : Int32)) hx hb dX5_copyFrom_132 (by decide) ?_
  refine lv_bipush (v := (16 : Int32)) hx hb dX5_copyFrom_133 (by decide) ?_
  refine va_copyi hx hb (S.2.2.1.trans hl.1.symm) S.2.2.2.1 (S.2.2.2.2 _ (List.mem_cons_of_mem _ (uw_in 179 rfl rfl))) (S.2.2.2.2 _ (List.mem_cons_of_mem _ (uw_in 181 rfl rfl))) (S.2.2.2.2 _ (List.mem_cons_of_mem _ (uw_in 180 rfl rfl))) (S.2.2.2.2 _ (List.mem_cons_of_mem _ (uw_in 7 rfl rfl))) hK Y.1 Y.2.1 Y.2.2 19 9 0 0 (f := σ2 9) (g := σ1 9) rfl rfl rfl rfl rfl (by decide) (by decide) (by decide) (by decide) (by decide) (fun _ _ => rfl) (Nat.le_of_ble_eq_true rfl) (Nat.le_of_ble_eq_true rfl) dX5_copyFrom_135 (fun H locs hP hD hS => ?_)
  have Y : dy_ D A s (wS cI h1 (sg_a (sg_a (sg_a (sg_a (sg_a (sg_a (sg_a (sg_a (sg_a σ1 1 (va_cpy (σ2 1) (σ1 1) (0 : Int32).toNatClampNeg (0 : Int32).toNatClampNeg (4 : Int32).toNatClampNeg)) 2 (va_cpy (σ2 2) (σ1 2) (0 : Int32).toNatClampNeg (0 : Int32).toNatClampNeg (8 : Int32).toNatClampNeg)) 3 (va_cpy (σ2 3) (σ1 3) (0 : Int32).toNatClampNeg (0 : Int32).toNatClampNeg (8 : Int32).toNatClampNeg)) 4 (va_cpy (σ2 4) (σ1 4) (0 : Int32).toNatClampNeg (0 : Int32).toNatClampNeg (8 : Int32).toNatClampNeg)) 5 (va_cpy (σ2 5) (σ1 5) (0 : Int32).toNatClampNeg (0 : Int32).toNatClampNeg (8 : Int32).toNatClampNeg)) 6 (va_cpy (σ2 6) (σ1 6) (0 : Int32).toNatClampNeg (0 : Int32).toNatClampNeg (8 : Int32).toNatClampNeg)) 7 (va_cpy (σ2 7) (σ1 7) (0 : Int32).toNatClampNeg (0 : Int32).toNatClampNeg (8 : Int32).toNatClampNeg)) 8 (va_cpy (σ2 8) (σ1 8) (0 : Int32).toNatClampNeg (0 : Int32).toNatClampNeg (16 : Int32).toNatClampNeg)) 9 (va_cpy (σ2 9) (σ1 9) (0 : Int32).toNatClampNeg (0 : Int32).toNatClampNeg (16 : Int32).toNatClampNeg)) ++ wS cI h2 σ2) H locs := by rw [← wSS_a9]; exact ⟨hP, hD, hS⟩
  refine lv_aload_n hx hb dX5_copyFrom_138 rfl (lv_at hl 0 rfl) ?_
  refine lv_aload_n hx hb dX5_copyFrom_139 rfl (lv_at hl 1 rfl) ?_
  refine ig S hK Y fX5_41 10 rfl (v := .int (σ2 0 0)) rfl dX5_copyFrom_140 ?_
  refine ip S hK Y fX5_41 fpX5 rfl 0 (fs := vS h1 (σ1 0)) rfl rfl rfl (Nat.le_of_ble_eq_true rfl) (ws' := (wS cI h1 (sg_a (sg_a (sg_a (sg_a (sg_a (sg_a (sg_a (sg_a (sg_a (sg_a σ1 1 (va_cpy (σ2 1) (σ1 1) (0 : Int32).toNatClampNeg (0 : Int32).toNatClampNeg (4 : Int32).toNatClampNeg)) 2 (va_cpy (σ2 2) (σ1 2) (0 : Int32).toNatClampNeg (0 : Int32).toNatClampNeg (8 : Int32).toNatClampNeg)) 3 (va_cpy (σ2 3) (σ1 3) (0 : Int32).toNatClampNeg (0 : Int32).toNatClampNeg (8 : Int32).toNatClampNeg)) 4 (va_cpy (σ2 4) (σ1 4) (0 : Int32).toNatClampNeg (0 : Int32).toNatClampNeg (8 : Int32).toNatClampNeg)) 5 (va_cpy (σ2 5) (σ1 5) (0 : Int32).toNatClampNeg (0 : Int32).toNatClampNeg (8 : Int32).toNatClampNeg)) 6 (va_cpy (σ2 6) (σ1 6) (0 : Int32).toNatClampNeg (0 : Int32).toNatClampNeg (8 : Int32).toNatClampNeg)) 7 (va_cpy (σ2 7) (σ1 7) (0 : Int32).toNatClampNeg (0 : Int32).toNatClampNeg (8 : Int32).toNatClampNeg)) 8 (va_cpy (σ2 8) (σ1 8) (0 : Int32).toNatClampNeg (0 : Int32).toNatClampNeg (16 : Int32).toNatClampNeg)) 9 (va_cpy (σ2 9) (σ1 9) (0 : Int32).toNatClampNeg (0 : Int32).toNatClampNeg (16 : Int32).toNatClampNeg)) 0 (sg_u (σ1 0) 0 (σ2 0 0))) ++ wS cI h2 σ2)) (wSS_f0 _ _ _ _ _) dX5_copyFrom_143 (fun H locs Y => ?_)
  refine lv_aload_n hx hb dX5_copyFrom_146 rfl (lv_at hl 0 rfl) ?_
  refine lv_aload_n hx hb dX5_copyFrom_147 rfl (lv_at hl 1 rfl) ?_
  refine ig S hK Y fX5_45 10 rfl (v := .int (σ2 0 1)) rfl dX5_copyFrom_148 ?_
  refine ip S hK Y fX5_45 fpX5 rfl 0 (fs := vS h1 (sg_u (σ1 0) 0 (σ2 0 0))) rfl rfl rfl (Nat.le_of_ble_eq_true rfl) (ws' := (wS cI h1 (sg_a (sg_a (sg_a (sg_a (sg_a (sg_a (sg_a (sg_a (sg_a (sg_a (sg_a σ1 1 (va_cpy (σ2 1) (σ1 1) (0 : Int32).toNatClampNeg (0 : Int32).toNatClampNeg (4 : Int32).toNatClampNeg)) 2 (va_cpy (σ2 2) (σ1 2) (0 : Int32).toNatClampNeg (0 : Int32).toNatClampNeg (8 : Int32).toNatClampNeg)) 3 (va_cpy (σ2 3) (σ1 3) (0 : Int32).toNatClampNeg (0 : Int32).toNatClampNeg (8 : Int32).toNatClampNeg)) 4 (va_cpy (σ2 4) (σ1 4) (0 : Int32).toNatClampNeg (0 : Int32).toNatClampNeg (8 : Int32).toNatClampNeg)) 5 (va_cpy (σ2 5) (σ1 5) (0 : Int32).toNatClampNeg (0 : Int32).toNatClampNeg (8 : Int32).toNatClampNeg)) 6 (va_cpy (σ2 6) (σ1 6) (0 : Int32).toNatClampNeg (0 : Int32).toNatClampNeg (8 : Int32).toNatClampNeg)) 7 (va_cpy (σ2 7) (σ1 7) (0 : Int32).toNatClampNeg (0 : Int32).toNatClampNeg (8 : Int32).toNatClampNeg)) 8 (va_cpy (σ2 8) (σ1 8) (0 : Int32).toNatClampNeg (0 : Int32).toNatClampNeg (16 : Int32).toNatClampNeg)) 9 (va_cpy (σ2 9) (σ1 9) (0 : Int32).toNatClampNeg (0 : Int32).toNatClampNeg (16 : Int32).toNatClampNeg)) 0 (sg_u (σ1 0) 0 (σ2 0 0))) 0 (sg_u (sg_u (σ1 0) 0 (σ2 0 0)) 1 (σ2 0 1))) ++ wS cI h2 σ2)) (wSS_f1 _ _ _ _ _) dX5_copyFrom_151 (fun H locs Y => ?_)
  refine lv_aload_n hx hb dX5_copyFrom_154 rfl (lv_at hl 0 rfl) ?_
  refine lv_aload_n hx hb dX5_copyFrom_155 rfl (lv_at hl 1 rfl) ?_
  refine ig S hK Y fX5_48 10 rfl (v := .int (σ2 0 2)) rfl dX5_copyFrom_156 ?_
  refine ip S hK Y fX5_48 fpX5 rfl 0 (fs := vS h1 (sg_u (sg_u (σ1 0) 0 (σ2 0 0)) 1 (σ2 0 1))) rfl rfl rfl (Nat.le_of_ble_eq_true rfl) (ws' := (wS cI h1 (sg_a (sg_a (sg_a (sg_a (sg_a (sg_a (sg_a (sg_a (sg_a (sg_a (sg_a (sg_a σ1 1 (va_cpy (σ2 1) (σ1 1) (0 : Int32).toNatClampNeg (0 : Int32).toNatClampNeg (4 : Int32).toNatClampNeg)) 2 (va_cpy (σ2 2) (σ1 2) (0 : Int32).toNatClampNeg (0 : Int32).toNatClampNeg (8 : Int32).toNatClampNeg)) 3 (va_cpy (σ2 3) (σ1 3) (0 : Int32).toNatClampNeg (0 : Int32).toNatClampNeg (8 : Int32).toNatClampNeg)) 4 (va_cpy (σ2 4) (σ1 4) (0 : Int32).toNatClampNeg (0 : Int32).toNatClampNeg (8 : Int32).toNatClampNeg)) 5 (va_cpy (σ2 5) (σ1 5) (0 : Int32).toNatClampNeg (0 : Int32).toNatClampNeg (8 : Int32).toNatClampNeg)) 6 (va_cpy (σ2 6) (σ1 6) (0 : Int32).toNatClampNeg (0 : Int32).toNatClampNeg (8 : Int32).toNatClampNeg)) 7 (va_cpy (σ2 7) (σ1 7) (0 : Int32).toNatClampNeg (0 : Int32).toNatClampNeg (8 : Int32).toNatClampNeg)) 8 (va_cpy (σ2 8) (σ1 8) (0 : Int32).toNatClampNeg (0 : Int32).toNatClampNeg (16 : Int32).toNatClampNeg)) 9 (va_cpy (σ2 9) (σ1 9) (0 : Int32).toNatClampNeg (0 : Int32).toNatClampNeg (16 : Int32).toNatClampNeg)) 0 (sg_u (σ1 0) 0 (σ2 0 0))) 0 (sg_u (sg_u (σ1 0) 0 (σ2 0 0)) 1 (σ2 0 1))) 0 (sg_u (sg_u (sg_u (σ1 0) 0 (σ2 0 0)) 1 (σ2 0 1)) 2 (σ2 0 2))) ++ wS cI h2 σ2)) (wSS_f2 _ _ _ _ _) dX5_copyFrom_159 (fun H locs Y => ?_)
  refine lv_aload_n hx hb dX5_copyFrom_162 rfl (lv_at hl 0 rfl) ?_
  refine lv_aload_n hx hb dX5_copyFrom_163 rfl (lv_at hl 1 rfl) ?_
  refine ig S hK Y fX5_51 10 rfl (v := .int (σ2 0 3)) rfl dX5_copyFrom_164 ?_
  refine ip S hK Y fX5_51 fpX5 rfl 0 (fs := vS h1 (sg_u (sg_u (sg_u (σ1 0) 0 (σ2 0 0)) 1 (σ2 0 1)) 2 (σ2 0 2))) rfl rfl rfl (Nat.le_of_ble_eq_true rfl) (ws' := (wS cI h1 (sg_a (sg_a (sg_a (sg_a (sg_a (sg_a (sg_a (sg_a (sg_a (sg_a (sg_a (sg_a (sg_a σ1 1 (va_cpy (σ2 1) (σ1 1) (0 : Int32).toNatClampNeg (0 : Int32).toNatClampNeg (4 : Int32).toNatClampNeg)) 2 (va_cpy (σ2 2) (σ1 2) (0 : Int32).toNatClampNeg (0 : Int32).toNatClampNeg (8 : Int32).toNatClampNeg)) 3 (va_cpy (σ2 3) (σ1 3) (0 : Int32).toNatClampNeg (0 : Int32).toNatClampNeg (8 : Int32).toNatClampNeg)) 4 (va_cpy (σ2 4) (σ1 4) (0 : Int32).toNatClampNeg (0 : Int32).toNatClampNeg (8 : Int32).toNatClampNeg)) 5 (va_cpy (σ2 5) (σ1 5) (0 : Int32).toNatClampNeg (0 : Int32).toNatClampNeg (8 : Int32).toNatClampNeg)) 6 (va_cpy (σ2 6) (σ1 6) (0 : Int32).toNatClampNeg (0 : Int32).toNatClampNeg (8 : Int32).toNatClampNeg)) 7 (va_cpy (σ2 7) (σ1 7) (0 : Int32).toNatClampNeg (0 : Int32).toNatClampNeg (8 : Int32).toNatClampNeg)) 8 (va_cpy (σ2 8) (σ1 8) (0 : Int32).toNatClampNeg (0 : Int32).toNatClampNeg (16 : Int32).toNatClampNeg)) 9 (va_cpy (σ2 9) (σ1 9) (0 : Int32).toNatClampNeg (0 : Int32).toNatClampNeg (16 : Int32).toNatClampNeg)) 0 (sg_u (σ1 0) 0 (σ2 0 0))) 0 (sg_u (sg_u (σ1 0) 0 (σ2 0 0)) 1 (σ2 0 1))) 0 (sg_u (sg_u (sg_u (σ1 0) 0 (σ2 0 0)) 1 (σ2 0 1)) 2 (σ2 0 2))) 0 (sg_u (sg_u (sg_u (sg_u (σ1 0) 0 (σ2 0 0)) 1 (σ2 0 1)) 2 (σ2 0 2)) 3 (σ2 0 3))) ++ wS cI h2 σ2)) (wSS_f3 _ _ _ _ _) dX5_copyFrom_167 (fun H locs Y => ?_)
  refine lv_aload_n hx hb dX5_copyFrom_170 rfl (lv_at hl 0 rfl) ?_
  refine lv_aload_n hx hb dX5_copyFrom_171 rfl (lv_at hl 1 rfl) ?_
  refine ig S hK Y fX5_54 10 rfl (v := .int (σ2 0 4)) rfl dX5_copyFrom_172 ?_
  refine ip S hK Y fX5_54 fpX5 rfl 0 (fs := vS h1 (sg_u (sg_u (sg_u (sg_u (σ1 0) 0 (σ2 0 0)) 1 (σ2 0 1)) 2 (σ2 0 2)) 3 (σ2 0 3))) rfl rfl rfl (Nat.le_of_ble_eq_true rfl) (ws' := (wS cI h1 (sg_a (sg_a (sg_a (sg_a (sg_a (sg_a (sg_a (sg_a (sg_a (sg_a (sg_a (sg_a (sg_a (sg_a σ1 1 (va_cpy (σ2 1) (σ1 1) (0 : Int32).toNatClampNeg (0 : Int32).toNatClampNeg (4 : Int32).toNatClampNeg)) 2 (va_cpy (σ2 2) (σ1 2) (0 : Int32).toNatClampNeg (0 : Int32).toNatClampNeg (8 : Int32).toNatClampNeg)) 3 (va_cpy (σ2 3) (σ1 3) (0 : Int32).toNatClampNeg (0 : Int32).toNatClampNeg (8 : Int32).toNatClampNeg)) 4 (va_cpy (σ2 4) (σ1 4) (0 : Int32).toNatClampNeg (0 : Int32).toNatClampNeg (8 : Int32).toNatClampNeg)) 5 (va_cpy (σ2 5) (σ1 5) (0 : Int32).toNatClampNeg (0 : Int32).toNatClampNeg (8 : Int32).toNatClampNeg)) 6 (va_cpy (σ2 6) (σ1 6) (0 : Int32).toNatClampNeg (0 : Int32).toNatClampNeg (8 : Int32).toNatClampNeg)) 7 (va_cpy (σ2 7) (σ1 7) (0 : Int32).toNatClampNeg (0 : Int32).toNatClampNeg (8 : Int32).toNatClampNeg)) 8 (va_cpy (σ2 8) (σ1 8) (0 : Int32).toNatClampNeg (0 : Int32).toNatClampNeg (16 : Int32).toNatClampNeg)) 9 (va_cpy (σ2 9) (σ1 9) (0 : Int32).toNatClampNeg (0 : Int32).toNatClampNeg (16 : Int32).toNatClampNeg)) 0 (sg_u (σ1 0) 0 (σ2 0 0))) 0 (sg_u (sg_u (σ1 0) 0 (σ2 0 0)) 1 (σ2 0 1))) 0 (sg_u (sg_u (sg_u (σ1 0) 0 (σ2 0 0)) 1 (σ2 0 1)) 2 (σ2 0 2))) 0 (sg_u (sg_u (sg_u (sg_u (σ1 0) 0 (σ2 0 0)) 1 (σ2 0 1)) 2 (σ2 0 2)) 3 (σ2 0 3))) 0 (sg_u (sg_u (sg_u (sg_u (sg_u (σ1 0) 0 (σ2 0 0)) 1 (σ2 0 1)) 2 (σ2 0 2)) 3 (σ2 0 3)) 4 (σ2 0 4))) ++ wS cI h2 σ2)) (wSS_f4 _ _ _ _ _) dX5_copyFrom_175 (fun H locs Y => ?_)
  refine lv_aload_n hx hb dX5_copyFrom_178 rfl (lv_at hl 0 rfl) ?_
  refine lv_aload_n hx hb dX5_copyFrom_179 rfl (lv_at hl 1 rfl) ?_
  refine ig S hK Y fX5_57 10 rfl (v := .int (σ2 0 5)) rfl dX5_copyFrom_180 ?_
  refine ip S hK Y fX5_57 fpX5 rfl 0 (fs := vS h1 (sg_u (sg_u (sg_u (sg_u (sg_u (σ1 0) 0 (σ2 0 0)) 1 (σ2 0 1)) 2 (σ2 0 2)) 3 (σ2 0 3)) 4 (σ2 0 4))) rfl rfl rfl (Nat.le_of_ble_eq_true rfl) (ws' := (wS cI h1 (sg_a (sg_a (sg_a (sg_a (sg_a (sg_a (sg_a (sg_a (sg_a (sg_a (sg_a (sg_a (sg_a (sg_a (sg_a σ1 1 (va_cpy (σ2 1) (σ1 1) (0 : Int32).toNatClampNeg (0 : Int32).toNatClampNeg (4 : Int32).toNatClampNeg)) 2 (va_cpy (σ2 2) (σ1 2) (0 : Int32).toNatClampNeg (0 : Int32).toNatClampNeg (8 : Int32).toNatClampNeg)) 3 (va_cpy (σ2 3) (σ1 3) (0 : Int32).toNatClampNeg (0 : Int32).toNatClampNeg (8 : Int32).toNatClampNeg)) 4 (va_cpy (σ2 4) (σ1 4) (0 : Int32).toNatClampNeg (0 : Int32).toNatClampNeg (8 : Int32).toNatClampNeg)) 5 (va_cpy (σ2 5) (σ1 5) (0 : Int32).toNatClampNeg (0 : Int32).toNatClampNeg (8 : Int32).toNatClampNeg)) 6 (va_cpy (σ2 6) (σ1 6) (0 : Int32).toNatClampNeg (0 : Int32).toNatClampNeg (8 : Int32).toNatClampNeg)) 7 (va_cpy (σ2 7) (σ1 7) (0 : Int32).toNatClampNeg (0 : Int32).toNatClampNeg (8 : Int32).toNatClampNeg)) 8 (va_cpy (σ2 8) (σ1 8) (0 : Int32).toNatClampNeg (0 : Int32).toNatClampNeg (16 : Int32).toNatClampNeg)) 9 (va_cpy (σ2 9) (σ1 9) (0 : Int32).toNatClampNeg (0 : Int32).toNatClampNeg (16 : Int32).toNatClampNeg)) 0 (sg_u (σ1 0) 0 (σ2 0 0))) 0 (sg_u (sg_u (σ1 0) 0 (σ2 0 0)) 1 (σ2 0 1))) 0 (sg_u (sg_u (sg_u (σ1 0) 0 (σ2 0 0)) 1 (σ2 0 1)) 2 (σ2 0 2))) 0 (sg_u (sg_u (sg_u (sg_u (σ1 0) 0 (σ2 0 0)) 1 (σ2 0 1)) 2 (σ2 0 2)) 3 (σ2 0 3))) 0 (sg_u (sg_u (sg_u (sg_u (sg_u (σ1 0) 0 (σ2 0 0)) 1 (σ2 0 1)) 2 (σ2 0 2)) 3 (σ2 0 3)) 4 (σ2 0 4))) 0 (sg_u (sg_u (sg_u (sg_u (sg_u (sg_u (σ1 0) 0 (σ2 0 0)) 1 (σ2 0 1)) 2 (σ2 0 2)) 3 (σ2 0 3)) 4 (σ2 0 4)) 5 (σ2 0 5))) ++ wS cI h2 σ2)) (wSS_f5 _ _ _ _ _) dX5_copyFrom_183 (fun H locs Y => ?_)
  refine lv_aload_n hx hb dX5_copyFrom_186 rfl (lv_at hl 0 rfl) ?_
  refine lv_aload_n hx hb dX5_copyFrom_187 rfl (lv_at hl 1 rfl) ?_
  refine ig S hK Y fX5_60 10 rfl (v := .int (σ2 0 6)) rfl dX5_copyFrom_188 ?_
  refine ip S hK Y fX5_60 fpX5 rfl 0 (fs := vS h1 (sg_u (sg_u (sg_u (sg_u (sg_u (sg_u (σ1 0) 0 (σ2 0 0)) 1 (σ2 0 1)) 2 (σ2 0 2)) 3 (σ2 0 3)) 4 (σ2 0 4)) 5 (σ2 0 5))) rfl rfl rfl (Nat.le_of_ble_eq_true rfl) (ws' := (wS cI h1 (sg_a (sg_a (sg_a (sg_a (sg_a (sg_a (sg_a (sg_a (sg_a (sg_a (sg_a (sg_a (sg_a (sg_a (sg_a (sg_a σ1 1 (va_cpy (σ2 1) (σ1 1) (0 : Int32).toNatClampNeg (0 : Int32).toNatClampNeg (4 : Int32).toNatClampNeg)) 2 (va_cpy (σ2 2) (σ1 2) (0 : Int32).toNatClampNeg (0 : Int32).toNatClampNeg (8 : Int32).toNatClampNeg)) 3 (va_cpy (σ2 3) (σ1 3) (0 : Int32).toNatClampNeg (0 : Int32).toNatClampNeg (8 : Int32).toNatClampNeg)) 4 (va_cpy (σ2 4) (σ1 4) (0 : Int32).toNatClampNeg (0 : Int32).toNatClampNeg (8 : Int32).toNatClampNeg)) 5 (va_cpy (σ2 5) (σ1 5) (0 : Int32).toNatClampNeg (0 : Int32).toNatClampNeg (8 : Int32).toNatClampNeg)) 6 (va_cpy (σ2 6) (σ1 6) (0 : Int32).toNatClampNeg (0 : Int32).toNatClampNeg (8 : Int32).toNatClampNeg)) 7 (va_cpy (σ2 7) (σ1 7) (0 : Int32).toNatClampNeg (0 : Int32).toNatClampNeg (8 : Int32).toNatClampNeg)) 8 (va_cpy (σ2 8) (σ1 8) (0 : Int32).toNatClampNeg (0 : Int32).toNatClampNeg (16 : Int32).toNatClampNeg)) 9 (va_cpy (σ2 9) (σ1 9) (0 : Int32).toNatClampNeg (0 : Int32).toNatClampNeg (16 : Int32).toNatClampNeg)) 0 (sg_u (σ1 0) 0 (σ2 0 0))) 0 (sg_u (sg_u (σ1 0) 0 (σ2 0 0)) 1 (σ2 0 1))) 0 (sg_u (sg_u (sg_u (σ1 0) 0 (σ2 0 0)) 1 (σ2 0 1)) 2 (σ2 0 2))) 0 (sg_u (sg_u (sg_u (sg_u (σ1 0) 0 (σ2 0 0)) 1 (σ2 0 1)) 2 (σ2 0 2)) 3 (σ2 0 3))) 0 (sg_u (sg_u (sg_u (sg_u (sg_u (σ1 0) 0 (σ2 0 0)) 1 (σ2 0 1)) 2 (σ2 0 2)) 3 (σ2 0 3)) 4 (σ2 0 4))) 0 (sg_u (sg_u (sg_u (sg_u (sg_u (sg_u (σ1 0) 0 (σ2 0 0)) 1 (σ2 0 1)) 2 (σ2 0 2)) 3 (σ2 0 3)) 4 (σ2 0 4)) 5 (σ2 0 5))) 0 (sg_u (sg_u (sg_u (sg_u (sg_u (sg_u (sg_u (σ1 0) 0 (σ2 0 0)) 1 (σ2 0 1)) 2 (σ2 0 2)) 3 (σ2 0 3)) 4 (σ2 0 4)) 5 (σ2 0 5)) 6 (σ2 0 6))) ++ wS cI h2 σ2)) (wSS_f6 _ _ _ _ _) dX5_copyFrom_191 (fun H locs Y => ?_)
  have Y : dy_ D A s (wS cI h1 σ2 ++ wS cI h2 σ2) H locs := wSS_cg (σ := (sg_a (sg_a (sg_a (sg_a (sg_a (sg_a (sg_a (sg_a (sg_a (sg_a (sg_a (sg_a (sg_a (sg_a (sg_a (sg_a σ1 1 (va_cpy (σ2 1) (σ1 1) (0 : Int32).toNatClampNeg (0 : Int32).toNatClampNeg (4 : Int32).toNatClampNeg)) 2 (va_cpy (σ2 2) (σ1 2) (0 : Int32).toNatClampNeg (0 : Int32).toNatClampNeg (8 : Int32).toNatClampNeg)) 3 (va_cpy (σ2 3) (σ1 3) (0 : Int32).toNatClampNeg (0 : Int32).toNatClampNeg (8 : Int32).toNatClampNeg)) 4 (va_cpy (σ2 4) (σ1 4) (0 : Int32).toNatClampNeg (0 : Int32).toNatClampNeg (8 : Int32).toNatClampNeg)) 5 (va_cpy (σ2 5) (σ1 5) (0 : Int32).toNatClampNeg (0 : Int32).toNatClampNeg (8 : Int32).toNatClampNeg)) 6 (va_cpy (σ2 6) (σ1 6) (0 : Int32).toNatClampNeg (0 : Int32).toNatClampNeg (8 : Int32).toNatClampNeg)) 7 (va_cpy (σ2 7) (σ1 7) (0 : Int32).toNatClampNeg (0 : Int32).toNatClampNeg (8 : Int32).toNatClampNeg)) 8 (va_cpy (σ2 8) (σ1 8) (0 : Int32).toNatClampNeg (0 : Int32).toNatClampNeg (16 : Int32).toNatClampNeg)) 9 (va_cpy (σ2 9) (σ1 9) (0 : Int32).toNatClampNeg (0 : Int32).toNatClampNeg (16 : Int32).toNatClampNeg)) 0 (sg_u (σ1 0) 0 (σ2 0 0))) 0 (sg_u (sg_u (σ1 0) 0 (σ2 0 0)) 1 (σ2 0 1))) 0 (sg_u (sg_u (sg_u (σ1 0) 0 (σ2 0 0)) 1 (σ2 0 1)) 2 (σ2 0 2))) 0 (sg_u (sg_u (sg_u (sg_u (σ1 0) 0 (σ2 0 0)) 1 (σ2 0 1)) 2 (σ2 0 2)) 3 (σ2 0 3))) 0 (sg_u (sg_u (sg_u (sg_u (sg_u (σ1 0) 0 (σ2 0 0)) 1 (σ2 0 1)) 2 (σ2 0 2)) 3 (σ2 0 3)) 4 (σ2 0 4))) 0 (sg_u (sg_u (sg_u (sg_u (sg_u (sg_u (σ1 0) 0 (σ2 0 0)) 1 (σ2 0 1)) 2 (σ2 0 2)) 3 (σ2 0 3)) 4 (σ2 0 4)) 5 (σ2 0 5))) 0 (sg_u (sg_u (sg_u (sg_u (sg_u (sg_u (sg_u (σ1 0) 0 (σ2 0 0)) 1 (σ2 0 1)) 2 (σ2 0 2)) 3 (σ2 0 3)) 4 (σ2 0 4)) 5 (σ2 0 5)) 6 (σ2 0 6)))) rfl (fun k hk => (cpy_lt hk : va_cpy (σ2 1) (σ1 1) 0 0 4 k = σ2 1 k)) (fun k hk => (cpy_lt hk : va_cpy (σ2 2) (σ1 2) 0 0 8 k = σ2 2 k)) (fun k hk => (cpy_lt hk : va_cpy (σ2 3) (σ1 3) 0 0 8 k = σ2 3 k)) (fun k hk => (cpy_lt hk : va_cpy (σ2 4) (σ1 4) 0 0 8 k = σ2 4 k)) (fun k hk => (cpy_lt hk : va_cpy (σ2 5) (σ1 5) 0 0 8 k = σ2 5 k)) (fun k hk => (cpy_lt hk : va_cpy (σ2 6) (σ1 6) 0 0 8 k = σ2 6 k)) (fun k hk => (cpy_lt hk : va_cpy (σ2 7) (σ1 7) 0 0 8 k = σ2 7 k)) (fun k hk => (cpy_lt hk : va_cpy (σ2 8) (σ1 8) 0 0 16 k = σ2 8 k)) (fun k hk => (cpy_lt hk : va_cpy (σ2 9) (σ1 9) 0 0 16 k = σ2 9 k)) Y
  exact me_rv S hK Y hr hlk dX5_copyFrom_194
