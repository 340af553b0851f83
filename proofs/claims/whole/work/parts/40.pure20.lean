theorem o1_ {α : Type} (x y : Option α) : ((some (1 : Int32)).bind fun r_4 => if r_4 = 0 then x else y) = y := @if_neg _ _ n10 _ x y
section Z
variable {n R pt B : Nat} {σ σ' μ μ' : sg_T} {z z' : Nat → Int32}
/-- a round begins -/
theorem r5_beg (h : r5_ n R 0 σ z) {k b : Nat} (hk : k < n) (hb1 : 1 ≤ b) (hb : b ≤ 8) {f : Nat → Int32} {z' : Nat → Int32} (f0 : ∀ j, (j < 2 ∨ 4 < j) → f j = σ 0 j) (f2 : f 2 = 1) (f3 : f 3 = nI k) (f4 : f 4 = nI b) (z6 : z' 6 = 1) (z7 : z' 7 = nI k) (z8 : z' 8 = nI b) (z9 : z' 9 = 0) (z10 : z' 10 = 0) (hz : ∀ j, (j < 6 ∨ 10 < j) → z' j = z j) : r5_ n R 1 (sg_a σ 0 f) z' := by
  obtain ⟨hR, ⟨a1, a2, a3, a4, a5, a6, a7, a8⟩, ⟨⟨b0, b1, b2, b3⟩, b4⟩, ⟨t1, t2, t3, t4, t5, t6⟩, hp, hh⟩ := h
  obtain ⟨q1, q2⟩ := t4 (by decide)
  refine ⟨hR, ⟨a1, by decide, ?_, ?_, ?_, ?_, ?_, z6⟩, ⟨⟨?_, ?_, ?_, ?_⟩, ?_⟩, ⟨fun w => absurd w (by decide), fun _ => ⟨k, b, hk, hb1, hb, ?_, z7, ?_, z8⟩, fun w => absurd w (by decide), fun _ => ⟨?_, ?_⟩, fun _ => z9, ?_⟩, ?_, ?_⟩
  · rw [sg_as, f0 0 (by decide)]; exact a3
  · rw [hz 4 (by decide)]; exact a4
  · rw [sg_as, f0 1 (by decide)]; exact a5
  · rw [hz 5 (by decide)]; exact a6
  · rw [sg_as]; exact f2
  · rw [hz 0 (by decide), sg_an _ _ (by decide)]; exact b0
  · rw [hz 1 (by decide), sg_an _ _ (by decide)]; exact b1
  · rw [hz 2 (by decide), sg_an _ _ (by decide)]; exact b2
  · rw [hz 3 (by decide), sg_an _ _ (by decide)]; exact b3
  · rw [sg_an _ _ (by decide)]; exact b4
  · rw [sg_as]; exact f3
  · rw [sg_as]; exact f4
  · rw [sg_as, f0 5 (by decide)]; exact q1
  · rw [sg_as, f0 6 (by decide)]; exact q2
  · rw [sg_as, f0 6 (by decide), z10]; exact q2.symm
  · exact rp_c hp a1 (fun j h1 h2 => sg_an _ _ (by omega)) (fun i h1 h2 => hz i (by omega)) (fun w => absurd w (by decide))
  · intro s hs
    rw [sg_an _ _ (by decide), sg_an _ _ (by decide), hz _ (by omega), hz _ (by omega), hz _ (by omega)]
    exact hh s hs
theorem mo_start (h : r5_ n R pt σ (μ 1)) (hB : R ≤ B) (p b : Int32) : mo_ σ μ (B + 1) (fX2_beginRound p b σ) (fX8_start p b μ) := by
  obtain ⟨hn, f1, f2⟩ := z_0 h
  obtain ⟨c1, c2⟩ := z_part h 0 (by decide)
  have c1 : σ 0 2 = 0 ↔ pt = 0 := c1
  obtain ⟨a0, a1, a2, a3, a4, a5, a6, a7⟩ := h.2.1
  have v : 0 < μ 1 6 ↔ ¬ pt = 0 := by rw [a7, show (0 : Int32) = nI 0 from rfl, nI_ltI (by decide) (by omega)]; omega
  unfold fX2_beginRound fX8_start
  rw [show (6 : Int32).toNatClampNeg = 6 from rfl, show (4 : Int32).toNatClampNeg = 4 from rfl, show (7 : Int32).toNatClampNeg = 7 from rfl, show (8 : Int32).toNatClampNeg = 8 from rfl, show (9 : Int32).toNatClampNeg = 9 from rfl, show (10 : Int32).toNatClampNeg = 10 from rfl, q_in]
  rcases z_pl h p with ⟨e1, e2⟩ | ⟨k, hk, rfl, e1, e2⟩
  · rw [ob_ e1, ob_ e2, if_pos p00, if_pos p00]
    exact Or.inl ⟨_, by decide, rfl, rfl⟩
  rw [ob_ e1, ob_ e2, if_neg n10, if_neg n10]
  by_cases d1 : b < 1
  · rw [if_pos d1, if_pos (Or.inl d1)]
    exact Or.inl ⟨_, by decide, rfl, rfl⟩
  rw [if_neg d1]
  by_cases d2 : b ≤ 8
  · have d3 : ¬ (b < 1 ∨ 8 < b) := fun q => by
      rcases q with q | q
      · exact d1 q
      · exact (fa_nle.mpr q) d2
    rw [if_pos d2, if_neg d3, o1_]
    by_cases hp : pt = 0
    · rw [if_pos (c1.mpr hp), f1]
      by_cases g : (2 : Int32) ≤ nI n
      · have hb0 : ¬ b < 0 := by
          rw [fa_lt] at d1 ⊢
          have : (0 : Int32).toInt = 0 := by decide
          have : (1 : Int32).toInt = 1 := by decide
          omega
        obtain ⟨j, hj, rfl⟩ := nI_of hb0
        rw [show (8 : Int32) = nI 8 from rfl, nI_leI hj (by decide)] at d2
        rw [show (1 : Int32) = nI 1 from rfl, nI_ltI hj (by decide)] at d1
        subst hp
        rw [if_pos g, ox_ (by omega) (by decide), cl_ (by omega)]
        have key : ∀ μ1 : sg_T, μ1 1 = μ 1 → ∃ (r : Int32) (z' : Nat → Int32), 0 ≤ r ∧ fX2_countHidingSpots (sg_a (sg_a (sg_a (sg_a σ 0 (sg_u (σ 0) 2 1)) 0 (sg_u (sg_u (σ 0) 2 1) 3 (nI k))) 0 (sg_u (sg_u (sg_u (σ 0) 2 1) 3 (nI k)) 4 (nI j))) 3 (upd (σ 3) k (σ 3 k + 1))) = some r ∧ (fX8_adds (nI k) 1 1 (sg_a (sg_a (sg_a (sg_a (sg_a μ1 1 (upd (μ1 1) 6 1)) 1 (upd (upd (μ1 1) 6 1) 7 (nI k))) 1 (upd (upd (upd (μ1 1) 6 1) 7 (nI k)) 8 (nI j))) 1 (upd (upd (upd (upd (μ1 1) 6 1) 7 (nI k)) 8 (nI j)) 9 0)) 1 (upd (upd (upd (upd (upd (μ1 1) 6 1) 7 (nI k)) 8 (nI j)) 9 0) 10 0))).bind (fun σ11 => lX8_start_106 70 (nI k) (nI j) 0 0 σ11) = some (r, sg_a μ1 1 z') ∧ r5_ n R 1 (sg_a (sg_a (sg_a (sg_a σ 0 (sg_u (σ 0) 2 1)) 0 (sg_u (sg_u (σ 0) 2 1) 3 (nI k))) 0 (sg_u (sg_u (sg_u (σ 0) 2 1) 3 (nI k)) 4 (nI j))) 3 (upd (σ 3) k (σ 3 k + 1))) z' := by
          intro μ1 hm
          have b1 : r5_ n R 1 (sg_a σ 0 (sg_u (sg_u (sg_u (σ 0) 2 1) 3 (nI k)) 4 (nI j))) (upd (upd (upd (upd (upd (μ1 1) 6 1) 7 (nI k)) 8 (nI j)) 9 0) 10 0) := by
            rw [hm]
            refine r5_beg h hk (by omega) d2 (fun i hi => ?_) ?_ ?_ ?_ ?_ ?_ ?_ ?_ ?_ (fun i hi => ?_)
            · rw [sg_un _ _ (by omega), sg_un _ _ (by omega), sg_un _ _ (by omega)]
            · rw [sg_un _ _ (by omega), sg_un _ _ (by omega), sg_us]
            · rw [sg_un _ _ (by omega), sg_us]
            · rw [sg_us]
            · rw [up_n _ _ (by omega), up_n _ _ (by omega), up_n _ _ (by omega), up_n _ _ (by omega), up_s]
            · rw [up_n _ _ (by omega), up_n _ _ (by omega), up_n _ _ (by omega), up_s]
            · rw [up_n _ _ (by omega), up_n _ _ (by omega), up_s]
            · rw [up_n _ _ (by omega), up_s]
            · rw [up_s]
            · rw [up_n _ _ (by omega), up_n _ _ (by omega), up_n _ _ (by omega), up_n _ _ (by omega), up_n _ _ (by omega)]
          have b2 := r5_add b1 hk (j := 1) (by decide) (σ 3 k + 1)
          rw [show ∀ x, fX8_adds (nI k) 1 1 x = fX8_adds (nI k) (nI 1) 1 x from fun _ => rfl, ob_ (q_adds (by omega) (by decide) _ _)]
          simp only [sg_aa, sg_as]
          have e3 : sg_a σ 0 (sg_u (sg_u (sg_u (σ 0) 2 1) 3 (nI k)) 4 (nI j)) (2 + 1) = σ 3 := sg_an _ _ (by decide)
          rw [e3] at b2
          have e4 : upd (upd (upd (upd (upd (μ1 1) 6 1) 7 (nI k)) 8 (nI j)) 9 0) 10 0 (12 + 6 * k + 1) = σ 3 k := by
            rw [up_n _ _ (by omega), up_n _ _ (by omega), up_n _ _ (by omega), up_n _ _ (by omega), up_n _ _ (by omega), hm]
            exact (h.2.2.2.2.1.1 k hk).2.1
          rw [e4]
          have b3 : r5_ n R 1 (sg_a (sg_a σ 0 (sg_u (sg_u (sg_u (σ 0) 2 1) 3 (nI k)) 4 (nI j))) 3 (upd (σ 3) k (σ 3 k + 1))) ((sg_a μ1 1 (upd (upd (upd (upd (upd (upd (μ1 1) 6 1) 7 (nI k)) 8 (nI j)) 9 0) 10 0) (12 + 6 * k + 1) (σ 3 k + 1))) 1) := by rw [sg_as]; exact b2
          obtain ⟨r, r1, r2, r3⟩ := z_start b3 d2 (by rw [sg_an _ _ (by decide), sg_as, sg_us]) (by rw [sg_as, up_n _ _ (by omega), up_n _ _ (by omega), up_n _ _ (by omega), up_s]) (nI k) (nI j)
          exact ⟨r, _, r1, r2, r3, b2⟩
        obtain ⟨r, -, k1, k2, -⟩ := key μ rfl
        refine Or.inr ⟨r, _, k1, by rw [ob_ k2], fun μ1 g1 g2 => ?_⟩
        obtain ⟨r', z', -, k3, k4, k5⟩ := key μ1 g2
        rw [k2] at k3
        cases k3
        refine ⟨z', ?_, n, R, 1, by omega, k5⟩
        rw [if_neg (fun w => (v.mp w) rfl), f2, if_pos g, ob_ g1]
        exact k4
      · left
        refine ⟨-10003, by decide, if_neg g, ?_⟩
        rw [if_neg (fun w => (v.mp w) hp), f2, if_neg g]
    · left
      refine ⟨-10003, by decide, if_neg (fun w => hp (c1.mp w)), ?_⟩
      rw [if_pos (v.mpr hp)]
  · rw [if_neg d2, if_pos (Or.inr (fa_nle.mp d2))]
    exact Or.inl ⟨_, by decide, rfl, rfl⟩
end Z
