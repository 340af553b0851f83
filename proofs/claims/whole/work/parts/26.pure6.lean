/-! changes: what each part of the relation looks at -/
def hs_ (R : Nat) (σ : sg_T) (z : Nat → Int32) (s : Nat) : Prop := z (60 + 3 * s + 0) = σ 8 s ∧ ((σ 9 s = -1 ∧ z (60 + 3 * s + 1) = 0) ∨ ∃ t, t ≤ R ∧ σ 9 s = nI t ∧ z (60 + 3 * s + 1) = 1 ∧ z (60 + 3 * s + 2) = nI (R - t))
theorem hs_c {R : Nat} {σ σ' : sg_T} {z z' : Nat → Int32} {s : Nat} (h : hs_ R σ z s) (h8 : σ' 8 s = σ 8 s) (h9 : σ' 9 s = σ 9 s) (hz : ∀ j, j < 3 → z' (60 + 3 * s + j) = z (60 + 3 * s + j)) : hs_ R σ' z' s := by
  unfold hs_ at h ⊢
  rw [h8, h9, hz 0 (by decide), hz 1 (by decide), hz 2 (by decide)]
  exact h
section Z
variable {n R pt : Nat} {σ σ' : sg_T} {z z' : Nat → Int32}
theorem r5_p (h : r5_ n R pt σ z) (h0 : σ' 0 = σ 0) (h1 : σ' 1 = σ 1) (h8 : σ' 8 = σ 8) (h9 : σ' 9 = σ 9) (hz : ∀ k, k < 12 ∨ 60 ≤ k → z' k = z k) (hp : rp_ n pt σ' z') : r5_ n R pt σ' z' := by
  obtain ⟨a, b, c, d, -, e⟩ := h
  refine ⟨a, ?_, ?_, ?_, hp, fun s hs => ?_⟩
  · unfold r0_ at b ⊢
    rw [h0, hz 4 (by omega), hz 5 (by omega), hz 6 (by omega)]; exact b
  · unfold rs_ at c ⊢
    rw [h1, hz 0 (by omega), hz 1 (by omega), hz 2 (by omega), hz 3 (by omega)]; exact c
  · unfold rt_ at d ⊢
    rw [h0, hz 7 (by omega), hz 8 (by omega), hz 9 (by omega), hz 10 (by omega)]; exact d
  · exact hs_c (e s hs) (by rw [h8]) (by rw [h9]) (fun j hj => hz _ (by omega))
theorem r5_h (h : r5_ n R pt σ z) (h0 : ∀ j, j < 8 → σ' j = σ j) (hz : ∀ k, k < 60 → z' k = z k) (hh : ∀ s, s < 16 → hs_ R σ' z' s) : r5_ n R pt σ' z' := by
  obtain ⟨a, b, c, d, e, -⟩ := h
  refine ⟨a, ?_, ?_, ?_, ?_, hh⟩
  · unfold r0_ at b ⊢
    rw [h0 0 (by omega), hz 4 (by omega), hz 5 (by omega), hz 6 (by omega)]; exact b
  · unfold rs_ at c ⊢
    rw [h0 1 (by omega), hz 0 (by omega), hz 1 (by omega), hz 2 (by omega), hz 3 (by omega)]; exact c
  · unfold rt_ at d ⊢
    rw [h0 0 (by omega), hz 7 (by omega), hz 8 (by omega), hz 9 (by omega), hz 10 (by omega)]; exact d
  · unfold rp_ at e ⊢
    have hn := b.1
    rw [h0 2 (by omega), h0 3 (by omega), h0 4 (by omega), h0 5 (by omega), h0 6 (by omega), h0 7 (by omega)]
    refine ⟨fun p hp => ?_, e.2⟩
    rw [hz _ (by omega), hz _ (by omega), hz _ (by omega), hz _ (by omega), hz _ (by omega), hz _ (by omega)]
    exact e.1 p hp
theorem rp_c {pt' : Nat} (h : rp_ n pt σ z) (hn : n ≤ 8) (h0 : ∀ j, 2 ≤ j → j < 8 → σ' j = σ j) (hz : ∀ k, 12 ≤ k → k < 60 → z' k = z k) (hno : pt' = 0 → ∀ p, p < 8 → σ 7 p = NO) : rp_ n pt' σ' z' := by
  unfold rp_ at h ⊢
  rw [h0 2 (by omega) (by omega), h0 3 (by omega) (by omega), h0 4 (by omega) (by omega), h0 5 (by omega) (by omega), h0 6 (by omega) (by omega), h0 7 (by omega) (by omega)]
  refine ⟨fun p hp => ?_, h.2.1, h.2.2.1, hno, h.2.2.2.2⟩
  rw [hz _ (by omega) (by omega), hz _ (by omega) (by omega), hz _ (by omega) (by omega), hz _ (by omega) (by omega), hz _ (by omega) (by omega), hz _ (by omega) (by omega)]
  exact h.1 p hp
/-- the number of a player's row that a count of his is -/
theorem r5_add (h : r5_ n R pt σ z) {k j : Nat} (hk : k < n) (hj : j < 5) (x : Int32) : r5_ n R pt (sg_a σ (2 + j) (upd (σ (2 + j)) k x)) (upd z (12 + 6 * k + j) x) := by
  have hn := h.2.1.1
  obtain ⟨e1, e2, e3, e4, e5⟩ := h.2.2.2.2.1
  refine r5_p h (sg_an _ _ (by omega)) (sg_an _ _ (by omega)) (sg_an _ _ (by omega)) (sg_an _ _ (by omega)) (fun i hi => up_n _ _ (by omega)) ?_
  have c7 : sg_a σ (2 + j) (upd (σ (2 + j)) k x) 7 = σ 7 := sg_an _ _ (by omega)
  have key : ∀ p i, p < n → i < 5 → upd z (12 + 6 * k + j) x (12 + 6 * p + i) = sg_a σ (2 + j) (upd (σ (2 + j)) k x) (2 + i) p := by
    intro p i hp hi
    have old : z (12 + 6 * p + i) = σ (2 + i) p := by
      obtain ⟨a0, a1, a2, a3, a4, -⟩ := e1 p hp
      rcases (show i = 0 ∨ i = 1 ∨ i = 2 ∨ i = 3 ∨ i = 4 by omega) with rfl | rfl | rfl | rfl | rfl <;> assumption
    by_cases q : i = j
    · subst q
      rw [sg_as]
      by_cases q2 : p = k
      · subst q2; rw [up_s, up_s]
      · rw [up_n _ _ (by omega), up_n _ _ q2]; exact old
    · rw [sg_an _ _ (by omega), up_n _ _ (by omega)]; exact old
  have far : ∀ p i, n ≤ p → p < 8 → i < 5 → sg_a σ (2 + j) (upd (σ (2 + j)) k x) (2 + i) p = 0 := by
    intro p i hp hp8 hi
    have old : σ (2 + i) p = 0 := by
      obtain ⟨a0, a1, a2, a3, a4, -⟩ := e3 p hp hp8
      rcases (show i = 0 ∨ i = 1 ∨ i = 2 ∨ i = 3 ∨ i = 4 by omega) with rfl | rfl | rfl | rfl | rfl <;> assumption
    by_cases q : i = j
    · subst q
      rw [sg_as, up_n _ _ (by omega)]; exact old
    · rw [sg_an _ _ (by omega)]; exact old
  unfold rp_
  rw [c7]
  refine ⟨fun p hp => ⟨key p 0 hp (by decide), key p 1 hp (by decide), key p 2 hp (by decide), key p 3 hp (by decide), key p 4 hp (by decide), ?_⟩, e2, fun p h1 h2 => ⟨far p 0 h1 h2 (by decide), far p 1 h1 h2 (by decide), far p 2 h1 h2 (by decide), far p 3 h1 h2 (by decide), far p 4 h1 h2 (by decide), (e3 p h1 h2).2.2.2.2.2⟩, e4, e5⟩
  rw [up_n _ _ (by omega)]
  exact (e1 p hp).2.2.2.2.2
/-- he hides no more -/
theorem r5_no (h : r5_ n R pt σ z) {k : Nat} (hk : k < n) : r5_ n R pt (sg_a σ 7 (upd (σ 7) k NO)) (upd z (12 + 6 * k + 5) NO) := by
  have hn := h.2.1.1
  obtain ⟨e1, e2, e3, e4, e5⟩ := h.2.2.2.2.1
  refine r5_p h (sg_an _ _ (by omega)) (sg_an _ _ (by omega)) (sg_an _ _ (by omega)) (sg_an _ _ (by omega)) (fun i hi => up_n _ _ (by omega)) ?_
  unfold rp_
  rw [sg_as, sg_an _ _ (by decide), sg_an _ _ (by decide), sg_an _ _ (by decide), sg_an _ _ (by decide), sg_an _ _ (by decide)]
  have le : ∀ p, upd (σ 7) k NO p = NO ∨ upd (σ 7) k NO p = σ 7 p := fun p => by
    by_cases q : p = k
    · left; rw [q, up_s]
    · right; rw [up_n _ _ q]
  refine ⟨fun p hp => ?_, fun p hp => ?_, fun p h1 h2 => ?_, fun q p hp => ?_, fun s h1 h2 => ?_⟩
  · obtain ⟨a0, a1, a2, a3, a4, a5⟩ := e1 p hp
    rw [up_n _ _ (by omega), up_n _ _ (by omega), up_n _ _ (by omega), up_n _ _ (by omega), up_n _ _ (by omega)]
    refine ⟨a0, a1, a2, a3, a4, ?_⟩
    by_cases q : p = k
    · subst q; rw [up_s, up_s]
    · rw [up_n _ _ (by omega), up_n _ _ q]; exact a5
  · rcases le p with q | q
    · exact Or.inl q
    · rw [q]; exact e2 p hp
  · have := e3 p h1 h2
    rw [up_n _ _ (show p ≠ k by omega)]
    exact this
  · rcases le p with z1 | z1
    · exact z1
    · rw [z1]; exact e4 q p hp
  · refine Nat.le_trans (cn_m (fun p hp hP => ?_)) (e5 s h1 h2)
    rw [bo_] at hP ⊢
    rcases le p with q | q
    · rw [q] at hP
      exfalso
      rw [fa_eq, nI_toInt (by omega)] at hP
      have : (NO : Int32).toInt = -10006 := by decide
      omega
    · rw [← q]; exact hP
end Z
/-! the end of a round -/
theorem z_endl {R r : Nat} (hR : R + 1 < 2 ^ 30) (hr : r ≤ 9) : ∀ (d i f : Nat), i + d = 16 → d < f → ∀ (σ μ : sg_T), σ 1 2 = nI r → μ 1 2 = nI r → μ 1 5 = nI (R + 1) → (∀ s, s < i → hs_ (R + 1) σ (μ 1) s) → (∀ s, i ≤ s → s < 16 → hs_ R σ (μ 1) s) →
    ∃ (σ' : sg_T) (z' : Nat → Int32), lX2_endRound_43 f (nI i) σ = some σ' ∧ lX8_ends_54 f (nI i) μ = some (sg_a μ 1 z') ∧ (∀ j, j < 8 → σ' j = σ j) ∧ (∀ k, k < 60 → z' k = μ 1 k) ∧ (∀ s, s < 16 → hs_ (R + 1) σ' z' s) := by
  intro d
  induction d with
  | zero =>
    intro i f hi hf σ μ h1 h2 h3 h4 h5
    obtain ⟨f, rfl⟩ : ∃ g, f = g + 1 := ⟨f - 1, by omega⟩
    have hi : i = 16 := by omega
    subst hi
    rw [lX2_endRound_43, lX8_ends_54, if_pos (show (16 : Int32) ≤ nI 16 by decide), if_pos (show (16 : Int32) ≤ nI 16 by decide)]
    exact ⟨σ, μ 1, rfl, by rw [sg_ai], fun _ _ => rfl, fun _ _ => rfl, h4⟩
  | succ d ih =>
    intro i f hi hf σ μ h1 h2 h3 h4 h5
    obtain ⟨f, rfl⟩ : ∃ g, f = g + 1 := ⟨f - 1, by omega⟩
    have q0 : ¬ (16 : Int32) ≤ nI i := by rw [show (16 : Int32) = nI 16 from rfl, nI_leI (by decide) (by omega)]; omega
    have o1 := q_ofSpot (show i < 16 by omega) (j := 1) (by decide) μ
    have o2 := q_ofSpot (show i < 16 by omega) (j := 2) (by decide) μ
    have q1 : fX5_isRetired (nI i) σ = some (if σ 9 i = -1 then 0 else 1) := by
      unfold fX5_isRetired
      rw [ob_ (z_isS (show i < 16 by omega)), if_neg (by decide), ox_ (by omega) (by decide), cl_ (by omega)]
      by_cases q : σ 9 i = -1
      · rw [if_pos q, if_pos q]
      · rw [if_neg q, if_neg q]
    have q2 : fX8_isRetired (nI i) μ = some (if μ 1 (60 + 3 * i + 1) = 1 then 1 else 0) := by
      unfold fX8_isRetired
      refine (ob_ o1 _).trans ?_
      by_cases q : μ 1 (60 + 3 * i + 1) = 1
      · exact (if_pos q).trans (by rw [if_pos q])
      · exact (if_neg q).trans (by rw [if_neg q])
    rw [lX2_endRound_43, lX8_ends_54, if_neg q0, if_neg q0, ob_ q1, ob_ q2, nI_1]
    obtain ⟨f8, hh⟩ := h5 i (Nat.le_refl i) (by omega)
    rcases hh with ⟨a1, a2⟩ | ⟨t, ht, a1, a2, a3⟩
    · rw [if_pos a1, if_pos rfl, a2, if_neg (by decide : ¬ (0 : Int32) = 1), if_pos rfl]
      refine ih (i + 1) f (by omega) (by omega) σ μ h1 h2 h3 (fun s hs => ?_) (fun s hs hs2 => h5 s (by omega) hs2)
      by_cases q : s = i
      · subst q; exact ⟨f8, Or.inl ⟨a1, a2⟩⟩
      · exact h4 s (by omega)
    · have n1 : ¬ σ 9 i = -1 := by
        rw [a1, fa_eq, nI_toInt (by omega)]
        have : (-1 : Int32).toInt = -1 := by decide
        omega
      have keep : ∀ σ1 : sg_T, (∀ j, j < 8 → σ1 j = σ j) → (∀ s, s ≠ i → σ1 8 s = σ 8 s ∧ σ1 9 s = σ 9 s) → ∀ z1 : Nat → Int32, (∀ k, k ≠ 60 + 3 * i + 0 → k ≠ 60 + 3 * i + 1 → z1 k = μ 1 k) → hs_ (R + 1) σ1 z1 i → ∃ (σ' : sg_T) (z' : Nat → Int32), lX2_endRound_43 f (nI (i + 1)) σ1 = some σ' ∧ lX8_ends_54 f (nI (i + 1)) (sg_a μ 1 z1) = some (sg_a μ 1 z') ∧ (∀ j, j < 8 → σ' j = σ j) ∧ (∀ k, k < 60 → z' k = μ 1 k) ∧ (∀ s, s < 16 → hs_ (R + 1) σ' z' s) := by
        intro σ1 k1 k2 z1 k3 k4
        obtain ⟨σ', z', g1, g2, g3, g4, g5⟩ := ih (i + 1) f (by omega) (by omega) σ1 (sg_a μ 1 z1) (by rw [k1 1 (by omega)]; exact h1) (by rw [sg_as, k3 2 (by omega) (by omega)]; exact h2) (by rw [sg_as, k3 5 (by omega) (by omega)]; exact h3) (fun s hs => by
            rw [sg_as]
            by_cases q : s = i
            · subst q; exact k4
            · exact hs_c (h4 s (by omega)) (k2 s q).1 (k2 s q).2 (fun j hj => k3 _ (by omega) (by omega))) (fun s hs hs2 => by
            rw [sg_as]
            exact hs_c (h5 s (by omega) hs2) (k2 s (by omega)).1 (k2 s (by omega)).2 (fun j hj => k3 _ (by omega) (by omega)))
        refine ⟨σ', z', g1, by rw [g2, sg_aa], fun j hj => (g3 j hj).trans (k1 j hj), fun k hk => ?_, g5⟩
        rw [g4 k hk, sg_as]
        exact k3 k (by omega) (by omega)
      have up9 : nI t + 1 = nI (t + 1) := nI_1 t
      have keepC : ∀ z1 : Nat → Int32, z1 = μ 1 → hs_ (R + 1) (sg_a σ 9 (upd (σ 9) i (nI (t + 1)))) z1 i := by
        intro z1 e
        subst e
        refine ⟨by rw [sg_an _ _ (by decide)]; exact f8, Or.inr ⟨t + 1, by omega, by rw [sg_as, up_s], a2, ?_⟩⟩
        rw [a3]
        congr 1
        omega
      have stay : ∃ (σ' : sg_T) (z' : Nat → Int32), lX2_endRound_43 f (nI (i + 1)) (sg_a σ 9 (upd (σ 9) i (nI (t + 1)))) = some σ' ∧ lX8_ends_54 f (nI (i + 1)) μ = some (sg_a μ 1 z') ∧ (∀ j, j < 8 → σ' j = σ j) ∧ (∀ k, k < 60 → z' k = μ 1 k) ∧ (∀ s, s < 16 → hs_ (R + 1) σ' z' s) := by
        have g := keep (sg_a σ 9 (upd (σ 9) i (nI (t + 1)))) (fun j hj => sg_an _ _ (by omega)) (fun s hs => ⟨by rw [sg_an _ _ (by decide)], by rw [sg_as, up_n _ _ hs]⟩) (μ 1) (fun _ _ _ => rfl) (keepC _ rfl)
        rw [sg_ai] at g
        exact g
      rw [if_neg n1, if_neg (by decide : ¬ (1 : Int32) = 0), a2, if_pos (rfl : (1 : Int32) = 1), if_neg (by decide : ¬ (1 : Int32) = 0)]
      have rs : fX2_restSpot (nI i) σ = (if nI r = 0 then some (sg_a σ 9 (upd (σ 9) i (nI (t + 1)))) else if nI (t + 1) < nI r then some (sg_a σ 9 (upd (σ 9) i (nI (t + 1)))) else some (sg_a (sg_a (sg_a σ 9 (upd (σ 9) i (nI (t + 1)))) 9 (upd (upd (σ 9) i (nI (t + 1))) i (-1))) 8 (upd (σ 8) i 0))) := by
        unfold fX2_restSpot
        rw [ox_ (by omega) (by decide), cl_ (by omega), show (2 : Int32).toNatClampNeg = 2 from rfl, h1, a1, up9, up_s]
      rw [show (2 : Int32).toNatClampNeg = 2 from rfl, show (5 : Int32).toNatClampNeg = 5 from rfl, h2, h3, rs]
      by_cases r0 : r = 0
      · subst r0
        rw [if_pos nI_0, if_pos (show nI 0 ≤ 0 by decide), Option.bind_some]
        exact stay
      · rw [if_neg (nI_ne0 (by omega) (by omega)), if_neg (nI_nle (by omega) (by omega)), show fX8_ofSpot (nI i) 2 μ = fX8_ofSpot (nI i) (nI 2) μ from rfl, ob_ o2, a3, nI_sub' (by omega), show R + 1 - (R - t) = t + 1 by omega]
        by_cases r1 : nI (t + 1) < nI r
        · rw [if_pos r1, if_pos r1, Option.bind_some]
          exact stay
        · rw [if_neg r1, if_neg r1, Option.bind_some, show (60 : Int32) = nI 60 from rfl, show (3 : Int32) = nI 3 from rfl, show nI 60 + nI 3 * nI i + 1 = nI 60 + nI 3 * nI i + nI 1 from rfl, sz_, sz0_, ox_ (by omega) (by decide), ox_ (by omega) (by decide), cl_ (by omega), cl_ (by omega), sg_aa, sg_aa]
          refine keep _ (fun j hj => by rw [sg_an _ _ (by omega), sg_an _ _ (by omega)]) (fun s hs => ⟨by rw [sg_as, up_n _ _ hs], by rw [sg_an _ _ (by decide), sg_as, up_n _ _ hs, up_n _ _ hs]⟩) _ (fun k k1 k2 => by rw [up_n _ _ k2, up_n _ _ (by omega)]) ?_
          refine ⟨?_, Or.inl ⟨?_, ?_⟩⟩
          · rw [up_n _ _ (by omega), Nat.add_zero, up_s, sg_as, up_s]
          · rw [sg_an _ _ (by decide), sg_as, up_s]
          · rw [up_s]
