/-! the law's league: sight, dashes, the whole -/
theorem mk_tb (P : Nat → Bool) (p : Nat) : ∀ n, (mk_ P n).testBit p = (decide (p < n) && P p)
  | 0 => by
    show (0 : Nat).testBit p = _
    rw [Nat.zero_testBit, decide_eq_false (Nat.not_lt_zero p)]
    rfl
  | n + 1 => by
    have ih := mk_tb P p n
    by_cases h : P n = true
    · rw [mk_1 h, Nat.testBit_or, ih, Nat.testBit_two_pow]
      by_cases q : p = n
      · subst q
        rw [decide_eq_true (show p = p from rfl), decide_eq_true (show p < p + 1 by omega), h]
        simp
      · rw [decide_eq_false (show ¬ n = p from fun z => q z.symm), Bool.or_false]
        by_cases r : p < n
        · rw [decide_eq_true r, decide_eq_true (show p < n + 1 by omega)]
        · rw [decide_eq_false r, decide_eq_false (show ¬ p < n + 1 by omega)]
    · rw [mk_n h, ih]
      by_cases q : p = n
      · subst q
        rw [show P p = false by cases hp : P p with
          | false => rfl
          | true => exact absurd hp h, Bool.and_false, Bool.and_false]
      · by_cases r : p < n
        · rw [decide_eq_true r, decide_eq_true (show p < n + 1 by omega)]
        · rw [decide_eq_false r, decide_eq_false (show ¬ p < n + 1 by omega)]
def dl_ (σ : sg_T) (a : Nat) : Nat → Nat
  | 0 => 0
  | i + 1 => dl_ σ a i ||| (if ds i 0 < ds a 0 then mk_ (at_ σ i) 8 else 0)
theorem dl_1 (σ : sg_T) (a i : Nat) : dl_ σ a (i + 1) = dl_ σ a i ||| (if ds i 0 < ds a 0 then mk_ (at_ σ i) 8 else 0) := rfl
theorem dl_tb (σ : sg_T) (a p : Nat) : ∀ i, (dl_ σ a i).testBit p = true ↔ ∃ s, s < i ∧ ds s 0 < ds a 0 ∧ p < 8 ∧ at_ σ s p = true
  | 0 => by
    show (0 : Nat).testBit p = true ↔ _
    rw [Nat.zero_testBit]
    exact ⟨fun h => (by cases h), fun ⟨s, h, _⟩ => absurd h (Nat.not_lt_zero s)⟩
  | i + 1 => by
    have ih := dl_tb σ a p i
    rw [dl_1, Nat.testBit_or, Bool.or_eq_true, ih]
    by_cases c : ds i 0 < ds a 0
    · rw [if_pos c, mk_tb, Bool.and_eq_true, bo_]
      constructor
      · rintro (⟨s, s1, s2⟩ | h)
        · exact ⟨s, by omega, s2⟩
        · exact ⟨i, by omega, c, h⟩
      · rintro ⟨s, s1, s2, s3⟩
        by_cases q : s = i
        · subst q; exact Or.inr s3
        · exact Or.inl ⟨s, by omega, s2, s3⟩
    · rw [if_neg c, Nat.zero_testBit]
      constructor
      · rintro (⟨s, s1, s2⟩ | h)
        · exact ⟨s, by omega, s2⟩
        · cases h
      · rintro ⟨s, s1, s2, s3⟩
        by_cases q : s = i
        · subst q; exact absurd s2 c
        · exact Or.inl ⟨s, by omega, s2, s3⟩
section Z
variable {n R pt P C : Nat} {Λ : s3_T} {π : Nat → Nat} {σ Ω : sg_T}
theorem dl_e (hp : pq_ n pt σ) (hn : n ≤ 8) (a : Nat) : dl_ σ a 16 = mk_ (es_ σ a) n := by
  apply Nat.eq_of_testBit_eq
  intro p
  rw [Bool.eq_iff_iff, dl_tb, mk_tb, Bool.and_eq_true, bo_]
  have ke : es_ σ a p = true ↔ (¬ σ 7 p = NO ∧ ds (σ 7 p).toNatClampNeg 0 < ds a 0) := by unfold es_; rw [bo_]
  have ka : ∀ s, at_ σ s p = true ↔ σ 7 p = nI s := fun s => by unfold at_; rw [bo_]
  rw [ke]
  constructor
  · rintro ⟨s, s1, s2, s3, s4⟩
    rw [ka] at s4
    have hpn : p < n := by
      rcases Nat.lt_or_ge p n with y | y
      · exact y
      · rw [(hp.2.1 p y s3).2.2.2.2.2] at s4
        exact absurd s4.symm (nI_NO (by omega))
    refine ⟨hpn, by rw [s4]; exact nI_NO (by omega), ?_⟩
    rw [s4, cl_ (by omega)]
    exact s2
  · rintro ⟨h1, h2, h3⟩
    rcases hp.1 p (by omega) with z | ⟨s, s1, s2, e⟩
    · exact absurd z h2
    · rw [e, cl_ (by omega)] at h3
      exact ⟨s, s2, h3, by omega, (ka s).mpr e⟩
theorem g_476 (h2 : m2_ σ Ω) {a q : Nat} (ha : a < 16) (hq : q ≤ 3) (e6 : Ω 4 6 = 2) (a9 : Ω 4 9 = nI a) (q0 : Ω 4 0 = nI q) (a5 a6 a7 a8 b9 a10 : Int32) : lL_league_476 70 a5 a6 a7 a8 b9 a10 0 0 0 Λ π Ω = some (nI (mk_ (sg8 a q) 16), nI (dl_ σ a 16)) := by
  have key : ∀ d i f, i + d = 16 → d < f → lL_league_476 f a5 a6 a7 a8 b9 a10 (nI (mk_ (sg8 a q) i)) (nI (dl_ σ a i)) (nI i) Λ π Ω = some (nI (mk_ (sg8 a q) 16), nI (dl_ σ a 16)) := by
    intro d
    induction d with
    | zero =>
      intro i f hi hf
      obtain ⟨f, rfl⟩ : ∃ g, f = g + 1 := ⟨f - 1, by omega⟩
      have hi : i = 16 := by omega
      subst hi
      rw [lL_league_476, if_pos (show (16 : Int32) ≤ nI 16 by decide)]
    | succ d ih =>
      intro i f hi hf
      obtain ⟨f, rfl⟩ : ∃ g, f = g + 1 := ⟨f - 1, by omega⟩
      have hin : i < 16 := by omega
      have g := ih (i + 1) f (by omega) (by omega)
      have d8 := ds_8 i hin a ha
      have d1 := ds_8 i hin 0 (by decide)
      have d2 := ds_8 a ha 0 (by decide)
      have s1 : (if nI q < nI (ds i a) then (some (0 : Int32)) else (some ((1 : Int32) <<< (nI i &&& 31)))) = some (nI (if sg8 a q i = true then 2 ^ i else 0)) := by
        by_cases z : nI q < nI (ds i a)
        · rw [if_pos z]
          rw [nI_ltI (by omega) (by omega), ds_c i hin a ha] at z
          rw [if_neg (by unfold sg8; rw [bo_]; omega)]
          rfl
        · rw [if_neg z]
          rw [nI_ltI (by omega) (by omega), ds_c i hin a ha] at z
          rw [if_pos (by unfold sg8; rw [bo_]; omega), sh_1 i (by omega)]
      have s2 : (if nI (ds a 0) ≤ nI (ds i 0) then (some (0 : Int32)) else ((fL_here (nI i) Ω).bind fun r_117 => (some r_117))) = some (nI (if ds i 0 < ds a 0 then mk_ (at_ σ i) 8 else 0)) := by
        by_cases z : nI (ds a 0) ≤ nI (ds i 0)
        · rw [if_pos z]
          rw [nI_leI (by omega) (by omega)] at z
          rw [if_neg (by omega)]
          rfl
        · rw [if_neg z]
          rw [nI_leI (by omega) (by omega)] at z
          rw [if_pos (by omega), ob_ (a_here h2 hin)]
      rw [lL_league_476, if_neg (gt_16 hin), k_6, e6, if_pos rfl, k_9, a9, k_0, q0, ob_ (a_ap i hin a ha), ob_ s1, ob_ (a_ap0 hin), ob_ (a_ap0 ha), ob_ s2, fa_or, fa_or, nI_1]
      exact g
  exact key 16 0 70 (by omega) (by omega)
theorem g_476N (e6 : ¬ Ω 4 6 = 2) (a5 a6 a7 a8 b9 a10 : Int32) : lL_league_476 70 a5 a6 a7 a8 b9 a10 0 0 0 Λ π Ω = some (0, 0) := by
  have key : ∀ f, lL_league_476 (f + 1) a5 a6 a7 a8 b9 a10 0 0 0 Λ π Ω = some (0, 0) := fun f => by
    rw [lL_league_476, if_neg (by decide), k_6, if_neg e6]
  exact key 69
theorem bv_n {m : Int32} (hm : m < 0) (o : Option Nat) (ho : ∀ t, o = some t → t < 16) : (if 0 ≤ bv_ m o then (some (bv_ m o)) else (some (-10006 : Int32))) = some (bv_ NO o) := by
  cases o with
  | none =>
    show (if 0 ≤ m then some m else some (-10006 : Int32)) = some NO
    rw [if_neg (fun z => by rw [fa_le] at z; rw [fa_lt] at hm; omega)]
  | some t =>
    have := ho t rfl
    show (if 0 ≤ nI t then some (nI t) else some (-10006 : Int32)) = some (nI t)
    rw [if_pos (nI_pos' (by omega))]
theorem nv_e {m : Int32} (hm : m < 0) (hn : n ≤ 8) : (if 0 ≤ nv_ σ m n then (some (nv_ σ m n)) else (some (-10006 : Int32))) = some (nv_ σ NO n) := by
  by_cases h : n = 0
  · subst h
    show (if 0 ≤ m then some m else some (-10006 : Int32)) = some NO
    rw [if_neg (fun z => by rw [fa_le] at z; rw [fa_lt] at hm; omega)]
  · have := nn_lt σ n (by omega)
    rw [nv_n _ _ h, nv_n _ _ h, if_pos (nI_pos' (by omega))]
/-- the league as the law tells it is the class's -/
theorem g_league (h : rq_ n R pt (Λ 0) Ω) (hP : P ≤ 1000000) (hC : C ≤ 90) (hb : bd_ P C (Λ 0)) : fL_league Λ π Ω = some 1 := by
  have h5 := rq_r5 h.1
  obtain ⟨-, ⟨hn, hpt, s0, w4, s1, w5, s2, w6⟩, ⟨⟨u0, -⟩, ⟨q, hq, q1⟩, -⟩, ⟨t1, t2, t3, t4, t5, t6⟩, hpq, -, -⟩ := id h.1
  have q0 : Ω 4 0 = nI q := u0.trans q1
  have cmp : ∀ j, j ≤ 2 → (nI pt = nI j ↔ pt = j) := fun j hj => nI_eq (by omega) (by omega)
  have c0 : (nI pt = 0 ↔ pt = 0) := cmp 0 (by decide)
  have c1 : (nI pt = 1 ↔ pt = 1) := cmp 1 (by decide)
  have c2 : (nI pt = 2 ↔ pt = 2) := cmp 2 (by decide)
  obtain ⟨b, hbq⟩ : ∃ b, pt = 1 → b ≤ 8 ∧ Λ 0 0 4 = nI b ∧ Ω 4 8 = nI b := by
    by_cases p : pt = 1
    · obtain ⟨k, b, -, -, b1, -, -, b2, b3⟩ := t2 (by omega)
      exact ⟨b, fun _ => ⟨b1, b2, b3⟩⟩
    · exact ⟨0, fun z => absurd z p⟩
  have hm : (-1 : Int32) < 0 := by decide
  have l17 := g_17 (π := π) h hP (by omega) hb 0 hm
  have l266 := fun a6 a8 => g_266 (π := π) h hC hb hbq hm (-10006) a6 a8
  have ho : ∀ t, bq_ pt (Λ 0) n b 16 = some t → t < 16 := fun t z => by
    unfold bq_ at z
    by_cases p : pt = 1
    · rw [if_pos p] at z; exact bs_lt _ _ _ _ _ z
    · rw [if_neg p] at z; cases z
  have rk : fX7_ranked (nI n) Λ π = some (-10001) := by unfold fX7_ranked; rw [ob_ (c_rankN h5)]
  have nxt : fX7_nextSeeker Λ π = some (nv_ (Λ 0) NO n) := by unfold fX7_nextSeeker; rw [ob_ (c_next h5)]
  -- what each part of the round shows
  obtain ⟨m1, m2, l476, best, sight, dash, fewest⟩ : ∃ m1 m2 : Int32, (∀ a6 a7 a8 b9 a10, lL_league_476 70 (-10006) a6 a7 a8 b9 a10 0 0 0 Λ π Ω = some (m1, m2)) ∧
      (∃ r, fX7_bestSpot Λ π = some r ∧ (if nI pt = (1 : Int32) then (if 0 ≤ bv_ (-1) (bq_ pt (Λ 0) n b 16) then (some (bv_ (-1) (bq_ pt (Λ 0) n b 16))) else (some (-10006 : Int32))) else (some (-10003 : Int32))) = some r) ∧
      (∃ r, fX7_inSight Λ π = some r ∧ (if nI pt = (2 : Int32) then (some m1) else (some (-10003 : Int32))) = some r) ∧
      (∃ r, fX7_couldDash Λ π = some r ∧ (if nI pt = (2 : Int32) then (some m2) else (some (-10003 : Int32))) = some r) ∧
      (∃ r, fX7_fewestSteps Λ π = some r ∧ (if nI pt = (2 : Int32) then ((fL_steps Ω).bind fun r_203 => (some r_203)) else (some (-10003 : Int32))) = some r) := by
    have best : ∃ r, fX7_bestSpot Λ π = some r ∧ (if nI pt = (1 : Int32) then (if 0 ≤ bv_ (-1) (bq_ pt (Λ 0) n b 16) then (some (bv_ (-1) (bq_ pt (Λ 0) n b 16))) else (some (-10006 : Int32))) else (some (-10003 : Int32))) = some r := by
      unfold fX7_bestSpot
      by_cases p : pt = 1
      · subst p
        obtain ⟨b1, b2, b3⟩ := hbq rfl
        refine ⟨bv_ NO (bs_ (Λ 0) n b 16), ob_ (c_best h5 b1 b2 (by show zq_ R (Λ 0) Ω 8 = nI b; rw [zq_l (by decide)]; exact b3)) _, ?_⟩
        rw [if_pos (c1.mpr rfl), bv_n hm _ ho]
        unfold bq_
        rw [if_pos rfl]
      · refine ⟨-10003, ?_, if_neg (fun z => p (c1.mp z))⟩
        unfold fX0_bestHidingSpot
        rw [s2, if_neg (fun z => p (c1.mp z))]
        rfl
    unfold fX7_inSight fX7_couldDash fX7_fewestSteps
    by_cases p : pt = 2
    · subst p
      obtain ⟨a, ha, a5, a9⟩ := t3 rfl
      refine ⟨_, _, fun a6 a7 a8 b9 a10 => g_476 h.2 ha hq w6 a9 q0 _ a6 a7 a8 b9 a10, best, ⟨_, ob_ (c_sight h5 ha hq a5 q1) _, if_pos rfl⟩, ⟨_, ob_ (c_dash h5 ha a5) _, ?_⟩, ⟨_, ob_ (z_stc h5 rfl ha hq a5 q1) _, ?_⟩⟩
      · rw [if_pos (c2.mpr rfl), dl_e hpq hn]
      · rw [if_pos (c2.mpr rfl), ob_ (g_steps hpq hn h.2 ha hq a9 q0)]
    · have z2 : ¬ nI pt = 2 := fun z => p (c2.mp z)
      refine ⟨0, 0, fun a6 a7 a8 b9 a10 => g_476N (by rw [w6]; exact z2) _ a6 a7 a8 b9 a10, best, ⟨-10003, ?_, if_neg z2⟩, ⟨-10003, ?_, if_neg z2⟩, ⟨-10003, ?_, if_neg z2⟩⟩
      · unfold fX0_spotsInSight
        rw [s2, if_neg z2]
        rfl
      · unfold fX0_playersWhoWouldEscape
        rw [s2, if_neg z2]
        rfl
      · unfold fX0_stepsToSeeAll
        rw [s2, if_neg z2]
        rfl
  obtain ⟨r1, e1, f1⟩ := best
  obtain ⟨r2, e2, f2⟩ := sight
  obtain ⟨r3, e3, f3⟩ := dash
  obtain ⟨r4, e4, f4⟩ := fewest
  have x3 : (if nI pt = 0 then (some (-10006 : Int32)) else (some (Ω 4 7))) = some (Λ 0 0 3) := by
    by_cases p : pt = 0
    · rw [if_pos (c0.mpr p), (t1 p).1]
    · obtain ⟨k, b, -, -, -, b1, b2, -, -⟩ := t2 p
      rw [if_neg (fun z => p (c0.mp z)), b1, b2]
  have x4 : (if nI pt = 0 then (some (-10006 : Int32)) else (some (Ω 4 8))) = some (Λ 0 0 4) := by
    by_cases p : pt = 0
    · rw [if_pos (c0.mpr p), (t1 p).2]
    · obtain ⟨k, b, -, -, -, -, -, b1, b2⟩ := t2 p
      rw [if_neg (fun z => p (c0.mp z)), b1, b2]
  have x5 : (if nI pt = (2 : Int32) then (some (Ω 4 9)) else (some (-10006 : Int32))) = some (Λ 0 0 5) := by
    by_cases p : pt = 2
    · obtain ⟨a, -, a1, a2⟩ := t3 p
      rw [if_pos (c2.mpr p), a1, a2]
    · rw [if_neg (fun z => p (c2.mp z)), (t4 p).1]
  unfold fL_league
  rw [ob_ l17, ob_ (l266 _ _), ob_ (l476 _ _ _ _ _)]
  rw [ob_ e1, k_6, w6, ob_ f1, if_pos rfl, ob_ e2, ob_ f2, if_pos rfl, ob_ e3, ob_ f3, if_pos rfl, ob_ e4, ob_ f4, if_pos rfl, ob_ nxt, ob_ (nv_e hm hn), if_pos rfl, k_4, w4, ob_ rk, if_pos rfl, ob_ (t_0 Λ π), s0, if_pos rfl, ob_ (t_1 Λ π), k_5, w5, s1, if_pos rfl, ob_ (t_2 Λ π), s2, if_pos rfl, ob_ (t_3 Λ π), k_7, ob_ x3, if_pos rfl, ob_ (t_4 Λ π), k_8, ob_ x4, if_pos rfl, ob_ (t_5 Λ π), k_9, ob_ x5, if_pos rfl, ob_ (t_6 Λ π), k_10, t6, if_pos rfl, t_7, (z_hc h5).1, Option.bind_some, Option.bind_some, ob_ (a_hid hpq h.2), q_hd h.1, if_pos rfl, t_8, c_ret h5, Option.bind_some, Option.bind_some, if_pos rfl, t_9, c_sum h5, Option.bind_some, Option.bind_some, if_pos rfl]
end Z
