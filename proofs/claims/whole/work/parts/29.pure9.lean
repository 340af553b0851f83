/-! the moves, without what records -/
def mv_ (n R : Nat) (σ μ' : sg_T) (c : Option (Int32 × sg_T)) (why : Option Int32) (act : Option (Int32 × sg_T)) : Prop := (∃ e : Int32, e < 0 ∧ c = some (e, σ) ∧ why = some e) ∨ (∃ (r : Int32) (σ' : sg_T) (z' : Nat → Int32) (R' pt' : Nat), 0 ≤ r ∧ R' ≤ R + 1 ∧ c = some (r, σ') ∧ why = some 0 ∧ act = some (r, sg_a μ' 1 z') ∧ r5_ n R' pt' σ' z')
theorem sg_ac (σ : sg_T) {j k : Nat} (f g : Nat → Int32) (h : j ≠ k) : sg_a (sg_a σ j f) k g = sg_a (sg_a σ k g) j f := by
  funext i
  by_cases q : i = k
  · subst q; rw [sg_as, sg_an _ _ (fun e => h e.symm), sg_as]
  · rw [sg_an _ _ q]
    by_cases q2 : i = j
    · subst q2; rw [sg_as, sg_as]
    · rw [sg_an _ _ q2, sg_an _ _ q2, sg_an _ _ q]
theorem cn_one {P Q : Nat → Bool} {k : Nat} : ∀ {n : Nat}, (∀ i, i < n → i ≠ k → P i = true → Q i = true) → cn_ P n ≤ cn_ Q n + 1
  | 0, _ => Nat.zero_le _
  | n + 1, h => by
    show cn_ P n + (if P n = true then 1 else 0) ≤ cn_ Q n + (if Q n = true then 1 else 0) + 1
    by_cases e : n = k
    · subst e
      have := cn_m (P := P) (Q := Q) (n := n) (fun i hi => h i (by omega) (by omega))
      split <;> split <;> omega
    · have := cn_one (P := P) (Q := Q) (k := k) (n := n) (fun i hi => h i (by omega))
      by_cases q : P n = true
      · rw [if_pos q, if_pos (h n (by omega) e q)]; omega
      · rw [if_neg q]; omega
theorem n10 : ¬ (1 : Int32) = 0 := by decide
theorem p00 : (0 : Int32) = 0 := rfl
section Z
variable {n R pt : Nat} {σ σ' μ μ' : sg_T} {z z' : Nat → Int32}
theorem r5_t (h : r5_ n R pt σ z) (h1 : ∀ j, 1 ≤ j → σ' j = σ j) (h0 : ∀ k, k < 3 → σ' 0 k = σ 0 k) (hz : ∀ k, (k < 7 ∨ 10 < k) → z' k = z k) (ht : rt_ n pt σ' z') : r5_ n R pt σ' z' := by
  obtain ⟨a, b, c, -, d, e⟩ := h
  refine ⟨a, ?_, ?_, ht, ?_, fun s hs => hs_c (e s hs) (by rw [h1 8 (by decide)]) (by rw [h1 9 (by decide)]) (fun j hj => hz _ (by omega))⟩
  · unfold r0_ at b ⊢
    rw [h0 0 (by decide), h0 1 (by decide), h0 2 (by decide), hz 4 (by omega), hz 5 (by omega), hz 6 (by omega)]; exact b
  · unfold rs_ at c ⊢
    rw [h1 1 (by decide), hz 0 (by omega), hz 1 (by omega), hz 2 (by omega), hz 3 (by omega)]; exact c
  · exact rp_c d b.1 (fun j q1 q2 => h1 j (by omega)) (fun k q1 q2 => hz k (by omega)) (d.2.2.2.1)
theorem r5_f6 (h : r5_ n R 2 σ z) (x : Int32) : r5_ n R 2 (sg_a σ 0 (sg_u (σ 0) 6 x)) (upd z 10 x) := by
  obtain ⟨t1, t2, t3, t4, t5, t6⟩ := h.2.2.2.1
  refine r5_t h (fun j hj => sg_an _ _ (by omega)) (fun k hk => by rw [sg_as, sg_un _ _ (by omega)]) (fun k hk => up_n _ _ (by omega)) ?_
  unfold rt_
  rw [sg_as, sg_un _ _ (by decide), sg_un _ _ (by decide), sg_un _ _ (by decide), sg_us, up_n _ _ (by decide), up_n _ _ (by decide), up_n _ _ (by decide), up_s]
  exact ⟨t1, t2, t3, fun q => absurd rfl q, t5, rfl⟩
/-- a false cry -/
theorem z_false (h : r5_ n R pt σ (μ 1)) (hp : pt = 2) (hR : R + 1 < 2 ^ 30) {k : Nat} (hk : k < n) (p2 : Int32) (hne : ¬ σ 7 k = p2) : ∃ (σ' : sg_T) (z' : Nat → Int32) (R' pt' : Nat), R' ≤ R + 1 ∧ fX2_countFalseCry σ = some σ' ∧ fX8_cries (nI k) p2 μ = some (0, sg_a μ 1 z') ∧ r5_ n R' pt' σ' z' := by
  subst hp
  obtain ⟨hn, -⟩ := z_0 h
  obtain ⟨sk, b, hs, -, -, s3, s7, -, -⟩ := h.2.2.2.1.2.1 (by decide)
  obtain ⟨⟨-, -, -, m3⟩, -⟩ := h.2.2.1
  have m10 := h.2.2.2.1.2.2.2.2.2
  have e0 := (h.2.2.2.2.1.1 sk hs).1
  have e3 := (h.2.2.2.2.1.1 sk hs).2.2.2.1
  have h1 := r5_add (j := 0) h hs (by decide) (σ 2 sk + -1)
  have h2 := r5_add (j := 3) h1 hs (by decide) (σ 5 sk + 1)
  have h3 := r5_f6 h2 (σ 0 6 + 1)
  obtain ⟨σa, ha⟩ : ∃ x, x = sg_a (sg_a (sg_a σ 0 (sg_u (σ 0) 6 (σ 0 6 + 1))) 2 (upd (σ 2) sk (σ 2 sk + -1))) 5 (upd (σ 5) sk (σ 5 sk + 1)) := ⟨_, rfl⟩
  obtain ⟨za, hz⟩ : ∃ x, x = upd (upd (upd (μ 1) (12 + 6 * sk + 0) (σ 2 sk + -1)) (12 + 6 * sk + 3) (σ 5 sk + 1)) 10 (σ 0 6 + 1) := ⟨_, rfl⟩
  have h4 : r5_ n R 2 σa ((sg_a μ 1 za) 1) := by
    rw [sg_as, hz, ha, sg_ac σ _ _ (show 0 ≠ 2 by decide), sg_ac _ _ _ (show 0 ≠ 5 by decide)]
    exact h3
  have pp : fX5_isPlayer (σ 0 3) (sg_a σ 0 (sg_u (σ 0) 6 (σ 0 6 + 1))) = some 1 := by
    rw [s3]
    exact z_isP (μ := sg_a μ 1 (upd (μ 1) 10 (σ 0 6 + 1))) (by rw [sg_as]; exact r5_f6 h _) hs
  have cc : fX2_countFalseCry σ = (if σ 0 6 + 1 < σ 1 3 then some σa else (fX2_letAllEscape σa).bind fun σ11 => (fX2_endRound σ11).bind fun σ13 => some σ13) := by
    unfold fX2_countFalseCry
    rw [ob_ pp, if_neg n10, s3, ox_ (by omega) (by decide), cl_ (by omega), show (3 : Int32).toNatClampNeg = 3 from rfl, ha]
  have mm : fX8_cries (nI k) p2 μ = (if σ 0 6 + 1 < σ 1 3 then some (0, sg_a μ 1 za) else lX8_cries_95 70 (nI k) p2 (nI sk) (nI 0) (sg_a μ 1 za)) := by
    unfold fX8_cries
    rw [show (5 : Int32) = nI 5 from rfl, ob_ (q_of (show k < 8 by omega) (by decide) μ), z_h h hk, if_neg hne, show (7 : Int32).toNatClampNeg = 7 from rfl, s7]
    rw [show fX8_adds (nI sk) 0 (-1) μ = fX8_adds (nI sk) (nI 0) (-1) μ from rfl, ob_ (q_adds (by omega) (by decide) _ _), show ∀ x, fX8_adds (nI sk) 3 1 x = fX8_adds (nI sk) (nI 3) 1 x from fun _ => rfl, ob_ (q_adds (by omega) (by decide) _ _), show (10 : Int32).toNatClampNeg = 10 from rfl, show (3 : Int32).toNatClampNeg = 3 from rfl]
    simp only [sg_as, sg_aa]
    rw [up_n _ _ (by omega : 12 + 6 * sk + 3 ≠ 12 + 6 * sk + 0), e0, e3, up_s, up_n _ _ (by omega : 3 ≠ 10), up_n _ _ (by omega : 10 ≠ 12 + 6 * sk + 3), up_n _ _ (by omega : 10 ≠ 12 + 6 * sk + 0), up_n _ _ (by omega : 3 ≠ 12 + 6 * sk + 3), up_n _ _ (by omega : 3 ≠ 12 + 6 * sk + 0), m10, m3, ← hz]
    rfl
  rw [cc, mm]
  by_cases c : σ 0 6 + 1 < σ 1 3
  · rw [if_pos c, if_pos c]
    refine ⟨σa, za, R, 2, by omega, rfl, rfl, ?_⟩
    rw [sg_as] at h4
    exact h4
  · rw [if_neg c, if_neg c]
    obtain ⟨σ1, σ', z', g1, g2, g3, g4⟩ := z_allesc (nI k) p2 (nI sk) n 0 70 (by omega) (by omega) σa (sg_a μ 1 za) h4 hR (fun p hp => absurd hp (Nat.not_lt_zero p))
    have g1' : fX2_letAllEscape σa = some σ1 := g1
    rw [ob_ g1', ob_ g2]
    exact ⟨σ', z', R + 1, 0, Nat.le_refl _, rfl, by rw [g3, sg_aa], g4⟩
theorem z_part (h : r5_ n R pt σ (μ 1)) (j : Nat) (hj : j ≤ 2) : (σ 0 2 = nI j ↔ pt = j) ∧ (μ 1 6 = nI j ↔ pt = j) := by
  have e1 := h.2.1.2.2.2.2.2.2.1
  have e2 := h.2.1.2.2.2.2.2.2.2
  have := h.2.1.2.1
  rw [e1, e2, nI_eq (by omega) (by omega)]
  exact ⟨Iff.rfl, Iff.rfl⟩
/-- a cry -/
theorem z_cry (h : r5_ n R pt σ (μ 1)) (hm : μ' 1 = μ 1) (hR : R + 1 < 2 ^ 30) (p s : Int32) : mv_ n R σ μ' (fX2_cryName p s σ) (fX8_whyNotCry p s μ) (fX8_cries p s μ') := by
  obtain ⟨hn, -⟩ := z_0 h
  have h' : r5_ n R pt σ (μ' 1) := by rw [hm]; exact h
  unfold fX2_cryName fX8_whyNotCry
  rcases z_pl h p with ⟨a1, a2⟩ | ⟨k, hk, rfl, a1, a2⟩
  · rw [ob_ a1, ob_ a2, if_pos p00, if_pos p00]
    exact Or.inl ⟨_, by decide, rfl, rfl⟩
  · rw [ob_ a1, ob_ a2, if_neg n10, if_neg n10]
    rcases z_sp s with ⟨b1, b2⟩ | ⟨t, ht, rfl, b1, b2⟩
    · rw [ob_ b1, ob_ b2, if_pos p00, if_pos p00]
      exact Or.inl ⟨_, by decide, rfl, rfl⟩
    · rw [ob_ b1, ob_ b2, if_neg n10, if_neg n10, show (6 : Int32).toNatClampNeg = 6 from rfl, show (2 : Int32) = nI 2 from rfl]
      obtain ⟨c1, c2⟩ := z_part h 2 (by decide)
      by_cases hp : pt = 2
      · obtain ⟨sk, b, hs, -, -, s3, s7, -, -⟩ := h.2.2.2.1.2.1 (by omega)
        obtain ⟨a, ha, a5, a9⟩ := z_at h hp
        obtain ⟨q, hq, q1, q2⟩ := z_si h
        rw [if_pos (c1.mpr hp), if_pos (c2.mpr hp), s3, show (7 : Int32).toNatClampNeg = 7 from rfl, s7]
        by_cases e : nI k = nI sk
        · rw [if_pos e, if_pos e]
          exact Or.inl ⟨_, by decide, rfl, rfl⟩
        · rw [if_neg e, if_neg e, ob_ (z_sees ha a5 q1 ht), show (9 : Int32).toNatClampNeg = 9 from rfl, a9, ob_ (q_dist t ht a ha), show (0 : Int32).toNatClampNeg = 0 from rfl, q2, ds_c t ht a ha]
          by_cases v : nI q < nI (ds a t)
          · have v2 : ¬ nI (ds a t) ≤ nI q := by rw [fa_le]; rw [fa_lt] at v; omega
            rw [if_pos v, if_pos p00, if_neg v2]
            exact Or.inl ⟨_, by decide, rfl, rfl⟩
          · have v2 : nI (ds a t) ≤ nI q := by rw [fa_le]; rw [fa_lt] at v; omega
            rw [if_neg v, if_neg n10, if_pos v2, ox_ (by omega) (by decide), cl_ (by omega)]
            right
            by_cases w : σ 7 k = nI t
            · rw [if_pos w]
              obtain ⟨σ1, g, f1, f2, f3, f4, f5, f6⟩ := z_findS h' ht
              have k1 : r5_ n R pt σ1 ((sg_a μ' 1 (g (μ' 1))) 1) := by rw [sg_as]; exact f2
              obtain ⟨σ2, z2, R', pt', sk2, g1, g2, g3, g4, g5, g6⟩ := z_find1 k1 (by omega) hk 2 hR
              have es : sk2 = sk := by
                rw [sg_as, f6 _ 7 (by decide), hm, s7, nI_eq (by omega) (by omega)] at g3
                exact g3.symm
              subst es
              refine ⟨1, σ2, z2, R', pt', by decide, g1, ?_, rfl, ?_, g6⟩
              · rw [ob_ f1]; exact ob_ (x := fX2_findPlayer (nI k) (nI 2) σ1) g4 _
              · unfold fX8_cries
                rw [show (5 : Int32) = nI 5 from rfl, ob_ (q_of (show k < 8 by omega) (by decide) μ'), z_h h' hk, if_pos w, show (7 : Int32).toNatClampNeg = 7 from rfl, hm, s7, ob_ (q_hides (by omega) _ _), show ∀ x, fX8_adds (nI sk2) 0 2 x = fX8_adds (nI sk2) (nI 0) 2 x from fun _ => rfl, ob_ (q_adds (by omega) (by decide) _ _), show ∀ x, fX8_adds (nI sk2) 2 1 x = fX8_adds (nI sk2) (nI 2) 1 x from fun _ => rfl, ob_ (q_adds (by omega) (by decide) _ _)]
                simp only [sg_as, sg_aa]
                rw [up_n _ _ (by omega : 12 + 6 * sk2 + 0 ≠ 12 + 6 * k + 5), up_n _ _ (by omega : 12 + 6 * sk2 + 2 ≠ 12 + 6 * sk2 + 0), up_n _ _ (by omega : 12 + 6 * sk2 + 2 ≠ 12 + 6 * k + 5)]
                simp only [sg_as, sg_aa] at g5
                rw [f6 _ (12 + 6 * sk2 + 0) (by omega), f6 _ (12 + 6 * sk2 + 2) (by omega), ← f5 _ _ _ (by omega) (by omega), ← f5 _ _ _ (by omega) (by omega), ← f5 _ _ _ (by omega) (by omega)] at g5
                rw [ob_ (f4 _ (fun i hi => by rw [sg_as, up_n _ _ (by omega), up_n _ _ (by omega), up_n _ _ (by omega)]))]
                simp only [sg_as, sg_aa]
                rw [show (-10006 : Int32) = NO from rfl, ob_ g5]
            · rw [if_neg w]
              obtain ⟨σ', z', R', pt', g1, g2, g3, g4⟩ := z_false h' hp hR hk (nI t) w
              refine ⟨0, σ', z', R', pt', by decide, g1, by rw [ob_ g2], rfl, g3, g4⟩
      · rw [if_neg (fun q => hp (c1.mp q)), if_neg (fun q => hp (c2.mp q))]
        exact Or.inl ⟨_, by decide, rfl, rfl⟩
end Z
