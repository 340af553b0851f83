/-! the law's league, told spot by spot -/
theorem by_ {x y c1 c2 u v : Nat} (hx : x ≤ 8) (hy : y ≤ 8) (h1 : c1 ≤ 90) (h2 : c2 ≤ 90) (hu : u ≤ 1) (hv : v ≤ 1) : ((1000 : Int32) * (nI x - nI y) - (10 : Int32) * (nI c1 - nI c2) - (nI u - nI v)).toInt = 1000 * ((x : Int) - y) - 10 * ((c1 : Int) - c2) - ((u : Int) - v) := by
  have e1 : ((1000 : Int32) * (nI x - nI y)).toInt = 1000 * ((x : Int) - y) := by
    rw [Int32.toInt_mul, pk_sub_toInt (by omega) (by omega), show (1000 : Int32).toInt = 1000 by decide]
    exact Int.bmod_eq_of_le (by omega) (by omega)
  have e2 : ((10 : Int32) * (nI c1 - nI c2)).toInt = 10 * ((c1 : Int) - c2) := by
    rw [Int32.toInt_mul, pk_sub_toInt (by omega) (by omega), show (10 : Int32).toInt = 10 by decide]
    exact Int.bmod_eq_of_le (by omega) (by omega)
  have e3 : ((1000 : Int32) * (nI x - nI y) - (10 : Int32) * (nI c1 - nI c2)).toInt = 1000 * ((x : Int) - y) - 10 * ((c1 : Int) - c2) := by
    rw [Int32.toInt_sub, e1, e2]
    exact Int.bmod_eq_of_le (by omega) (by omega)
  rw [Int32.toInt_sub, e3, pk_sub_toInt (by omega) (by omega)]
  exact Int.bmod_eq_of_le (by omega) (by omega)
def bq_ (pt : Nat) (σ : sg_T) (n b i : Nat) : Option Nat := if pt = 1 then bs_ σ n b i else none
section Z
variable {n R pt P C : Nat} {Λ : s3_T} {π : Nat → Nat} {σ Ω : sg_T}
theorem a_cn (h : ri_ n R pt σ Ω) {s : Nat} (hs : s < 16) : fL_count (nI (mk_ (at_ σ s) 8)) = some (nI (cn_ (at_ σ s) n)) := by
  rw [a_cnt _ (mk_256 _ (by decide)), pc_mk _ 8 (by decide), (q_at h hs).2]
theorem g_rb (h : rq_ n R pt σ Ω) (hC : C ≤ 90) (hb : bd_ P C σ) {b i : Nat} (hi : i < 16) (hbq : pt = 1 → b ≤ 8 ∧ σ 0 4 = nI b ∧ Ω 4 8 = nI b) {m : Int32} (hm : m < 0) : (if ((Ω 4) 6) = (1 : Int32) then ((fL_good (nI i) Ω).bind fun r_70 => (if r_70 = 0 then (some (bv_ m (bq_ pt σ n b i))) else ((fL_here (nI i) Ω).bind fun r_73 => ((fL_count r_73).bind fun r_75 => (if (2 : Int32) ≤ r_75 then (some (bv_ m (bq_ pt σ n b i))) else ((if 0 ≤ (bv_ m (bq_ pt σ n b i)) then ((fL_apart (0 : Int32) (nI i)).bind fun r_86 => ((fL_apart (0 : Int32) (bv_ m (bq_ pt σ n b i))).bind fun r_88 => (o_x (bv_ m (bq_ pt σ n b i)) 16 ((fL_here (nI i) Ω).bind fun r_91 => ((fL_count r_91).bind fun r_93 => ((fL_here (bv_ m (bq_ pt σ n b i)) Ω).bind fun r_95 => ((fL_count r_95).bind fun r_97 => (some ((((1000 : Int32) * (r_86 - r_88)) - ((10 : Int32) * (((Ω 2) ((nI i)).toNatClampNeg) - ((Ω 2) ((bv_ m (bq_ pt σ n b i))).toNatClampNeg)))) - (r_93 - r_97)))))))))) else (some (1 : Int32))).bind fun q_79 => ((if q_79 ≤ 0 then (some (bv_ m (bq_ pt σ n b i))) else (some (nI i))).bind fun q_83 => (some q_83)))))))) else (some (bv_ m (bq_ pt σ n b i)))) = some (bv_ m (bq_ pt σ n b (i + 1))) := by
  obtain ⟨h1, h2⟩ := h
  have e6 : Ω 4 6 = nI pt := h1.2.1.2.2.2.2.2.2.2
  have hpt := h1.2.1.2.1
  have hn := h1.2.1.1
  rw [e6]
  by_cases q : pt = 1
  · subst q
    obtain ⟨b8, b1, b2⟩ := hbq rfl
    have k0 : ∀ j, bq_ 1 σ n b j = bs_ σ n b j := fun j => if_pos rfl
    rw [k0, k0, if_pos (show nI 1 = 1 from rfl), bs_1]
    rcases a_good h1 b8 b2 hi with ⟨g1, g2⟩ | ⟨g1, g2⟩
    · rw [ob_ g2, if_neg n10, ob_ (a_here h2 hi), ob_ (a_cn h1 hi)]
      have cl := cn_le (at_ σ i) n
      by_cases q2 : (2 : Int32) ≤ nI (cn_ (at_ σ i) n)
      · rw [if_pos q2]
        rw [show (2 : Int32) = nI 2 from rfl, nI_leI (by decide) (by omega)] at q2
        rw [if_neg (fun z => by have := (gb_i.mp z).2; omega)]
      · rw [if_neg q2]
        rw [show (2 : Int32) = nI 2 from rfl, nI_leI (by decide) (by omega)] at q2
        rw [if_pos (gb_i.mpr ⟨g1, by omega⟩)]
        have lt2 : ∀ j t, bs_ σ n b j = some t → cn_ (at_ σ t) n < 2 := by
          intro j
          induction j with
          | zero => intro t z; cases z
          | succ j ih =>
            intro t z
            rw [bs_1] at z
            by_cases w : gb_ σ n b j = true
            · rw [if_pos w] at z
              cases hbs : bs_ σ n b j with
              | none =>
                rw [hbs] at z
                have : j = t := Option.some.inj z
                rw [← this]
                exact (gb_i.mp w).2
              | some u =>
                rw [hbs] at z
                have z : (if bt_ σ n j u = true then some j else some u) = some t := z
                by_cases w2 : bt_ σ n j u = true
                · rw [if_pos w2] at z
                  have : j = t := Option.some.inj z
                  rw [← this]
                  exact (gb_i.mp w).2
                · rw [if_neg w2] at z
                  have : u = t := Option.some.inj z
                  rw [← this]
                  exact ih u hbs
            · rw [if_neg w] at z
              exact ih t z
        cases hbs : bs_ σ n b i with
        | none =>
          rw [show bv_ m none = m from rfl, if_neg (fun z => by rw [fa_le] at z; rw [fa_lt] at hm; omega)]
          rfl
        | some t =>
          have ht := bs_lt σ n b i t hbs
          have ct := lt2 i t hbs
          have d1 := ds_8 i hi 0 (by decide)
          have d2 := ds_8 t (by omega) 0 (by decide)
          obtain ⟨f1, k1, f2⟩ := hb.2.2 i hi
          obtain ⟨f3, k3, f4⟩ := hb.2.2 t (by omega)
          have w1 : Ω 2 i = nI f1 := (h1.2.2.2.2.2.2 i hi).1.trans f2
          have w2 : Ω 2 t = nI f3 := (h1.2.2.2.2.2.2 t (by omega)).1.trans f4
          have v := by_ (x := ds i 0) (y := ds t 0) (c1 := f1) (c2 := f3) (u := cn_ (at_ σ i) n) (v := cn_ (at_ σ t) n) d1 d2 (by omega) (by omega) (by omega) (by omega)
          rw [show bv_ m (some t) = nI t from rfl, if_pos (nI_pos' (by omega)), ob_ (a_ap0 hi), ob_ (a_ap0 (show t < 16 by omega)), o8_ (by omega), ob_ (a_here h2 hi), ob_ (a_cn h1 hi), ob_ (a_here h2 (show t < 16 by omega)), ob_ (a_cn h1 (show t < 16 by omega)), Option.bind_some, cl_ (show i < 2 ^ 31 by omega), cl_ (show t < 2 ^ 31 by omega), w1, w2]
          have z0 : (0 : Int32).toInt = 0 := by decide
          have kb := bt_i (σ := σ) (n := n) (i := i) (t := t)
          rw [f2, f4, nI_ltI (by omega) (by omega), nI_eq (by omega) (by omega)] at kb
          by_cases q3 : ((1000 : Int32) * (nI (ds i 0) - nI (ds t 0)) - (10 : Int32) * (nI f1 - nI f3) - (nI (cn_ (at_ σ i) n) - nI (cn_ (at_ σ t) n))) ≤ 0
          · rw [if_pos q3]
            rw [fa_le, v, z0] at q3
            have w : ¬ bt_ σ n i t = true := fun z => by have := kb.mp z; omega
            show some (nI t) = some (bv_ m (if bt_ σ n i t = true then some i else some t))
            rw [if_neg w]
            rfl
          · rw [if_neg q3]
            rw [fa_le, v, z0] at q3
            have w : bt_ σ n i t = true := kb.mpr (by omega)
            show some (nI i) = some (bv_ m (if bt_ σ n i t = true then some i else some t))
            rw [if_pos w]
            rfl
    · rw [ob_ g2, if_pos p00, if_neg (fun z => g1 (gb_i.mp z).1)]
  · have k0 : ∀ j, bq_ pt σ n b j = none := fun j => if_neg q
    rw [k0, k0, if_neg (by rw [show (1 : Int32) = nI 1 from rfl, nI_eq (by omega) (by decide)]; exact q)]
theorem g_sp0 {s : Nat} (hs : s < 16) : fX7_spot (nI s) 0 Λ π = some (nI (ds s 0)) := by
  unfold fX7_spot
  rw [ob_ (z_isS hs), if_neg n10, if_pos rfl, ob_ (p_base hs)]
theorem g_sp1 {s : Nat} (hs : s < 16) : fX7_spot (nI s) 1 Λ π = some (Λ 0 8 s) := by
  unfold fX7_spot
  rw [ob_ (z_isS hs), if_neg n10, if_neg (by decide), if_pos rfl, o8_ hs, cl_ (by omega)]
theorem g_sp2 (h : r5_ n R pt (Λ 0) (mu_ R (Λ 0) Ω 1)) {s : Nat} (hs : s < 16) : fX7_spot (nI s) 2 Λ π = some (if Λ 0 9 s = -1 then 0 else 1) := by
  unfold fX7_spot
  rw [ob_ (z_isS hs), if_neg n10, if_neg (by decide), if_neg (by decide), if_pos rfl, ob_ (z_ret h hs).1]
  by_cases q : Λ 0 9 s = -1
  · rw [if_pos q, if_pos p00]
  · rw [if_neg q, if_neg n10]
theorem g_sp3 (h : r5_ n R pt (Λ 0) (mu_ R (Λ 0) Ω 1)) {s : Nat} (hs : s < 16) : fX7_spot (nI s) 3 Λ π = some (nI (mk_ (at_ (Λ 0) s) n)) := by
  unfold fX7_spot
  rw [ob_ (z_isS hs), if_neg n10, if_neg (by decide), if_neg (by decide), if_neg (by decide), if_pos rfl, ob_ (z_mask h hs).1]
theorem g_266 (h : rq_ n R pt (Λ 0) Ω) (hC : C ≤ 90) (hb : bd_ P C (Λ 0)) {b : Nat} (hbq : pt = 1 → b ≤ 8 ∧ Λ 0 0 4 = nI b ∧ Ω 4 8 = nI b) {m : Int32} (hm : m < 0) (a5 a6 a8 : Int32) : lL_league_266 70 a5 a6 0 a8 m 0 Λ π Ω = some (nI (cn_ (rt8 (Λ 0)) 16), bv_ m (bq_ pt (Λ 0) n b 16)) := by
  have h5 := rq_r5 h.1
  have key : ∀ d i f, i + d = 16 → d < f → lL_league_266 f a5 a6 (nI (cn_ (rt8 (Λ 0)) i)) a8 (bv_ m (bq_ pt (Λ 0) n b i)) (nI i) Λ π Ω = some (nI (cn_ (rt8 (Λ 0)) 16), bv_ m (bq_ pt (Λ 0) n b 16)) := by
    intro d
    induction d with
    | zero =>
      intro i f hi hf
      obtain ⟨f, rfl⟩ : ∃ g, f = g + 1 := ⟨f - 1, by omega⟩
      have hi : i = 16 := by omega
      subst hi
      rw [lL_league_266, if_pos (show (16 : Int32) ≤ nI 16 by decide)]
    | succ d ih =>
      intro i f hi hf
      obtain ⟨f, rfl⟩ : ∃ g, f = g + 1 := ⟨f - 1, by omega⟩
      have hin : i < 16 := by omega
      have g := ih (i + 1) f (by omega) (by omega)
      obtain ⟨f8, f9⟩ := h.1.2.2.2.2.2.2 i hin
      have r2 : Ω 3 (2 * i) = (if Λ 0 9 i = -1 then 0 else 1) := by
        rcases f9 with ⟨w1, w2, -⟩ | ⟨t, ht, w1, w2, -⟩
        · rw [w2, if_pos w1]
        · rw [w2, w1, if_neg (nI_m1 (by have := h.1.1; omega))]
      have cc : nI (cn_ (rt8 (Λ 0)) i) + (if Λ 0 9 i = -1 then 0 else 1) = nI (cn_ (rt8 (Λ 0)) (i + 1)) := by
        by_cases q1 : Λ 0 9 i = -1
        · rw [if_pos q1, Int32.add_zero, ← cn_n (P := rt8 (Λ 0)) (i := i) (by unfold rt8; rw [bo_]; exact fun z => z q1)]
        · rw [if_neg q1, nI_1, ← cn_1 (P := rt8 (Λ 0)) (by unfold rt8; rw [bo_]; exact q1)]
      rw [lL_league_266, if_neg (gt_16 hin), o2_0 hin, ob_ (g_sp0 hin), ob_ (a_ap0 hin), if_pos rfl, ob_ (g_sp1 hin), o8_ hin, cl_ (by omega), f8, if_pos rfl, ob_ (g_sp2 h5 hin), c2_0 hin, r2, if_pos rfl, ob_ (g_sp3 h5 hin), ob_ (a_here h.2 hin), (q_at h.1 hin).1, if_pos rfl]
      have rb := g_rb h hC hb hin hbq hm
      rw [cl_ (by omega), f8] at rb
      rw [k_6, ob_ rb, cc, nI_1]
      exact g
  have e0 : bv_ m (bq_ pt (Λ 0) n b 0) = m := by
    unfold bq_
    by_cases q : pt = 1
    · rw [if_pos q]; rfl
    · rw [if_neg q]; rfl
  have k := key 16 0 70 (by omega) (by omega)
  rw [e0] at k
  exact k
end Z
