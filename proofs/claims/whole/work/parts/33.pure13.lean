section Z
variable {n R pt : Nat} {σ μ : sg_T}
theorem co_m {u d e : Nat} (h : d ≤ e) : co_ u d ≤ co_ u e := by unfold co_; omega
theorem z_fe1 (h : r5_ n R pt σ (μ 1)) {a q u : Nat} (ha : a < 16) (hq : q ≤ 3) (hu : u < 16) (a2 : μ 1 9 = nI a) (q2 : μ 1 0 = nI q) : ∀ k d f (m : Nat), u + d + k = 16 → k < f → m ≤ 32 → (Dn_ σ a q u n < d → m ≤ co_ u (Dn_ σ a q u n)) → ∃ c : Int32, lX8_fewestSteps_28 f (nI m) (nI u) (nI d) μ = some (nI (if d ≤ Dn_ σ a q u n then min m (co_ u (Dn_ σ a q u n)) else m), nI u, c) := by
  have hD := Dn_le σ a q u hu n
  intro k
  induction k with
  | zero =>
    intro d f m hd hf hm hi
    obtain ⟨f, rfl⟩ : ∃ g, f = g + 1 := ⟨f - 1, by omega⟩
    refine ⟨nI d, ?_⟩
    rw [lX8_fewestSteps_28, nI_add, if_pos (by rw [show (16 : Int32) = nI 16 from rfl, nI_leI (by decide) (by omega)]; omega), if_neg (by omega)]
  | succ k ih =>
    intro d f m hd hf hm hi
    obtain ⟨f, rfl⟩ : ∃ g, f = g + 1 := ⟨f - 1, by omega⟩
    have rest : ∀ w : Nat, (if d ≤ u then u + d + d else u + d + u) = w → ∃ c : Int32, (if nI m ≤ nI w then lX8_fewestSteps_28 f (nI m) (nI u) (nI (d + 1)) μ else (fX8_seesAll (nI u) (nI d) μ).bind fun r_6 => if r_6 = 0 then lX8_fewestSteps_28 f (nI m) (nI u) (nI (d + 1)) μ else lX8_fewestSteps_28 f (nI w) (nI u) (nI (d + 1)) μ) = some (nI (if d ≤ Dn_ σ a q u n then min m (co_ u (Dn_ σ a q u n)) else m), nI u, c) := by
      intro w hw
      have hw : w = co_ u d := by
        rw [← hw]
        unfold co_
        split <;> omega
      have hw2 : co_ u d ≤ 32 := by unfold co_; omega
      subst hw
      by_cases c1 : nI m ≤ nI (co_ u d)
      · rw [if_pos c1]
        rw [nI_leI (by omega) (by omega)] at c1
        obtain ⟨c, hc⟩ := ih (d + 1) f m (by omega) (by omega) hm (fun z => by
          by_cases w : d = Dn_ σ a q u n
          · rw [← w]; exact c1
          · exact hi (by omega))
        refine ⟨c, hc.trans ?_⟩
        by_cases w : d = Dn_ σ a q u n
        · rw [if_neg (by omega), if_pos (by omega), ← w, Nat.min_eq_left c1]
        · by_cases w2 : d ≤ Dn_ σ a q u n
          · rw [if_pos (by omega), if_pos w2]
          · rw [if_neg (by omega), if_neg w2]
      · rw [if_neg c1]
        rw [nI_leI (by omega) (by omega)] at c1
        obtain ⟨g, g1, g2, g3⟩ := z_sa h ha hq (show u + d < 16 by omega) a2 q2
        rw [ob_ g3]
        rcases g1 with rfl | rfl
        · have : ¬ Dn_ σ a q u n ≤ d := fun z => n10 (g2.mpr z).symm
          rw [if_pos p00]
          obtain ⟨c, hc⟩ := ih (d + 1) f m (by omega) (by omega) hm (fun z => by omega)
          refine ⟨c, hc.trans ?_⟩
          rw [if_pos (by omega), if_pos (by omega)]
        · have g4 := g2.mp rfl
          rw [if_neg n10]
          have e : d = Dn_ σ a q u n := by
            by_cases w : Dn_ σ a q u n < d
            · have := hi w
              have := co_m (u := u) (show Dn_ σ a q u n ≤ d by omega)
              omega
            · omega
          obtain ⟨c, hc⟩ := ih (d + 1) f (co_ u d) (by omega) (by omega) hw2 (fun z => by rw [← e]; exact Nat.le_refl _)
          refine ⟨c, hc.trans ?_⟩
          rw [if_neg (by omega), if_pos (by omega), ← e, Nat.min_eq_right (by omega)]
    rw [lX8_fewestSteps_28, nI_add, if_neg (by rw [show (16 : Int32) = nI 16 from rfl, nI_leI (by decide) (by omega)]; omega), nI_add, nI_add, nI_1]
    by_cases c : d ≤ u
    · rw [if_pos ((nI_leI (by omega) (by omega)).mpr c)]
      exact rest _ (if_pos c)
    · rw [if_neg (fun z => c ((nI_leI (by omega) (by omega)).mp z))]
      exact rest _ (if_neg c)
theorem z_few (h : r5_ n R pt σ (μ 1)) : ∃ r, fX0_stepsToSeeAll σ = some r ∧ fX8_fewestSteps μ = some r := by
  have e1 := h.2.1.2.2.2.2.2.2.1
  have e2 := h.2.1.2.2.2.2.2.2.2
  by_cases hp : pt = 2
  · obtain ⟨a, ha, a1, a2⟩ := z_at h hp
    obtain ⟨q, hq, q1, q2⟩ := z_si h
    refine ⟨_, z_stc h hp ha hq a1 q1, ?_⟩
    rw [fm_e]
    subst hp
    unfold fX8_fewestSteps
    rw [show (6 : Int32).toNatClampNeg = 6 from rfl, e2, if_pos (show nI 2 = 2 from rfl)]
    have key : ∀ d i f, i + d = 16 → d < f → lX8_fewestSteps_20 f (nI (fm_ σ a q n 32 i)) (nI i) μ = some (nI (fm_ σ a q n 32 16)) := by
      intro d
      induction d with
      | zero =>
        intro i f hi hf
        obtain ⟨f, rfl⟩ : ∃ g, f = g + 1 := ⟨f - 1, by omega⟩
        have hi : i = 16 := by omega
        subst hi
        rw [lX8_fewestSteps_20, if_pos (show (16 : Int32) ≤ nI 16 by decide)]
      | succ d ih =>
        intro i f hi hf
        obtain ⟨f, rfl⟩ : ∃ g, f = g + 1 := ⟨f - 1, by omega⟩
        have q0 : ¬ (16 : Int32) ≤ nI i := by rw [show (16 : Int32) = nI 16 from rfl, nI_leI (by decide) (by omega)]; omega
        have b1 := fm_le σ a q n 32 (by decide) i
        obtain ⟨c, hc⟩ := z_fe1 h ha hq (show i < 16 by omega) a2 q2 (16 - i) 0 70 (fm_ σ a q n 32 i) (by omega) (by omega) b1 (fun z => by omega)
        have hc : lX8_fewestSteps_28 70 (nI (fm_ σ a q n 32 i)) (nI i) 0 μ = _ := hc
        rw [lX8_fewestSteps_20, if_neg q0, ob_ hc, if_pos (Nat.zero_le _), nI_1]
        exact ih (i + 1) f (by omega) (by omega)
    exact key 16 0 70 (by omega) (by omega)
  · unfold fX0_stepsToSeeAll fX8_fewestSteps
    rw [e1, show (6 : Int32).toNatClampNeg = 6 from rfl, e2]
    have z : ¬ nI pt = 2 := by rw [show (2 : Int32) = nI 2 from rfl, nI_eq (by have := h.2.1.2.1; omega) (by decide)]; exact hp
    rw [if_neg z, if_neg z]
    exact ⟨_, rfl, rfl⟩
end Z
