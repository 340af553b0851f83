/-! the law's turns: joining, settings, hiding, seeking, walking -/
/-- what a turn leaves -/
def OK_ (n R P C : Nat) (x : Option (s3_T × (Nat → Nat) × sg_T)) : Prop := ∃ (Λ' : s3_T) (π' : Nat → Nat) (Ω' : sg_T) (R' pt' : Nat), x = some (Λ', π', Ω') ∧ rk_ Λ' π' ∧ R' ≤ R + 1 ∧ RQ n R' pt' P C (Λ' 0) Ω'
theorem rf_t {n R pt pt' : Nat} {σ σ' : sg_T} {f1 f2 f3 f4 g4 : Nat → Int32} (h : rf_ n R pt σ f1 f2 f3 f4) (hpt : pt' ≤ 2) (h1 : ∀ j, 1 ≤ j → σ' j = σ j) (a0 : σ' 0 0 = σ 0 0) (a1 : σ' 0 1 = σ 0 1) (a2 : σ' 0 2 = nI pt') (hz : ∀ k, k < 6 → g4 k = f4 k) (z6 : g4 6 = nI pt') (ht : rt_ n pt' σ' g4) (hno : pt' = 0 → ∀ p, p < 8 → σ 7 p = NO) : rf_ n R pt' σ' f1 f2 f3 g4 := by
  obtain ⟨hR, ⟨hn, -, b1, b2, b3, b4, -, -⟩, c, -, hp, hm, e⟩ := h
  refine ⟨hR, ⟨hn, hpt, a0.trans b1, (hz 4 (by decide)).trans b2, a1.trans b3, (hz 5 (by decide)).trans b4, a2, z6⟩, ?_, ht, pq_pt (pq_c hp (fun j j1 _ => h1 j (by omega))) (fun z => by rw [h1 7 (by decide)]; exact hno z), mf_c hm (fun j j1 _ => h1 j (by omega)), fun s hs => ?_⟩
  · unfold rs_ at c ⊢
    rw [h1 1 (by decide), hz 0 (by decide), hz 1 (by decide), hz 2 (by decide), hz 3 (by decide)]
    exact c
  · have := e s hs
    unfold hf_ at this ⊢
    rw [h1 8 (by decide), h1 9 (by decide)]
    exact this
section Z
variable {n R pt P C : Nat} {Λ : s3_T} {π : Nat → Nat} {σ Ω : sg_T}
theorem b_join (hk : rk_ Λ π) (h : RQ n R 0 P C (Λ 0) Ω) (a6 : Int32) : ∃ n', ((n = 8 ∧ n' = 8) ∨ n' = n + 1) ∧ ∃ (Λ' : s3_T) (π' : Nat → Nat) (Ω' : sg_T), bL_law_182 a6 Λ π Ω = some (Λ', π', Ω') ∧ rk_ Λ' π' ∧ RQ n' R 0 P C (Λ' 0) Ω' := by
  obtain ⟨hf, hn5, hb⟩ := h
  obtain ⟨hR, ⟨hn, -, b1, b2, b3, b4, b5, b6⟩, hs, ⟨t1, t2, t3, t4, t5, t6⟩, hp, hm, hh⟩ := id hf
  unfold bL_law_182
  rw [k_4, b2]
  have z2 : Λ 0 0 2 = 0 := b5
  by_cases q : n = 8
  · subst q
    have hF : fX2_addPlayer (Λ 0) = some (-10004, Λ 0) := by
      unfold fX2_addPlayer
      rw [if_pos z2, b1, if_neg (by decide)]
    obtain ⟨Λ', π', e1, e2, e3⟩ := rk_op fX2_addPlayer hk hF
    have e1 : fX7_join Λ π = some (-10004, Λ', π') := e1
    refine ⟨8, Or.inl ⟨rfl, rfl⟩, Λ', π', Ω, ?_, e3, ?_⟩
    · rw [if_pos (show (8 : Int32) ≤ nI 8 by decide), Option.bind_some, ob_ e1, if_pos p00, Option.bind_some, if_pos rfl, if_pos p00, Option.bind_some, Int32.add_zero, ← b2, fa_upd_same rfl, sg_ai]
    · rw [e2]; exact ⟨hf, hn5, hb⟩
  · have hF : fX2_addPlayer (Λ 0) = some (nI n, sg_a (Λ 0) 0 (sg_u (Λ 0 0) 0 (nI (n + 1)))) := by
      unfold fX2_addPlayer
      rw [if_pos z2, b1, if_pos (by rw [show (8 : Int32) = nI 8 from rfl, nI_ltI (by omega) (by decide)]; omega), nI_1]
    obtain ⟨Λ', π', e1, e2, e3⟩ := rk_op fX2_addPlayer hk hF
    have e1 : fX7_join Λ π = some (nI n, Λ', π') := e1
    have no := hp.2.2.1 rfl
    refine ⟨n + 1, Or.inr rfl, Λ', π', sg_a Ω 4 (upd (Ω 4) 4 (nI (n + 1))), ?_, e3, ?_⟩
    · rw [if_neg (by rw [show (8 : Int32) = nI 8 from rfl, nI_leI (by decide) (by omega)]; omega), Option.bind_some, ob_ e1, if_neg n10, Option.bind_some, if_pos rfl, if_neg n10, Option.bind_some, nI_1]
    · rw [e2]
      refine ⟨⟨hR, ⟨by omega, by decide, ?_, ?_, ?_, ?_, ?_, ?_⟩, ?_, ?_, ?_, ?_, ?_⟩, ?_, bd_o hb (by decide) (by decide) (by decide) _⟩
      · rw [sg_as, sg_us]
      · rw [sg_as, up_s]
      · rw [sg_as, sg_un _ _ (by decide)]; exact b3
      · rw [sg_as, up_n _ _ (by decide)]; exact b4
      · rw [sg_as, sg_un _ _ (by decide)]; exact b5
      · rw [sg_as, up_n _ _ (by decide)]; exact b6
      · unfold rs_ at hs ⊢
        rw [sg_as, sg_an _ _ (by decide), up_n _ _ (by decide), up_n _ _ (by decide), up_n _ _ (by decide), up_n _ _ (by decide)]
        exact hs
      · unfold rt_
        rw [sg_as, sg_as, sg_un _ _ (by decide), sg_un _ _ (by decide), sg_un _ _ (by decide), sg_un _ _ (by decide), up_n _ _ (by decide)]
        exact ⟨t1, fun w => absurd rfl w, fun w => absurd w (by decide), t4, fun w => absurd w (by decide), t6⟩
      · have p0 := pq_o hp (j := 0) (by omega) (sg_u (Λ 0 0) 0 (nI (n + 1)))
        refine ⟨p0.1, fun p h1 h2 => p0.2.1 p (by omega) h2, p0.2.2.1, fun s h1 h2 => ?_⟩
        have : cn_ (fun p => decide (sg_a (Λ 0) 0 (sg_u (Λ 0 0) 0 (nI (n + 1))) 7 p = nI s)) (n + 1) = 0 := by
          refine cn_0.mpr (fun i hi => ?_)
          show decide (sg_a (Λ 0) 0 (sg_u (Λ 0 0) 0 (nI (n + 1))) 7 i = nI s) = false
          rw [sg_an _ _ (by decide), no i (by omega)]
          exact decide_eq_false (fun w => nI_NO (by omega) w.symm)
        omega
      · rw [sg_an _ _ (by decide)]
        exact mf_0 hm _
      · intro s hs2
        rw [sg_an _ _ (by decide), sg_an _ _ (by decide)]
        have := hh s hs2
        unfold hf_ at this ⊢
        rw [sg_an _ _ (by decide), sg_an _ _ (by decide)]
        exact this
      · rw [sg_an _ _ (by decide)]
        exact nf_o hn5 (by decide) _
/-- a setting -/
theorem b_val (x : Int32) {j : Nat} (hj : j < 4) : ∃ w, (j = 0 → w ≤ 3) ∧ (j = 1 → 1 ≤ w) ∧ (j = 3 → 1 ≤ w) ∧ w ≤ 4 ∧ (if nI j = 0 then ((fL_low x (4 : Int32)).bind fun r_19 => (some r_19)) else (if nI j = (2 : Int32) then ((fL_low x (5 : Int32)).bind fun r_17 => (some r_17)) else ((fL_low x (4 : Int32)).bind fun r_15 => (some ((1 : Int32) + r_15))))) = some (nI w) := by
  obtain ⟨w4, l4, e4⟩ := a_low x (m := 4) (by decide) (by decide)
  obtain ⟨w5, l5, e5⟩ := a_low x (m := 5) (by decide) (by decide)
  have e4 : fL_low x (4 : Int32) = some (nI w4) := e4
  have e5 : fL_low x (5 : Int32) = some (nI w5) := e5
  rcases (show j = 0 ∨ j = 1 ∨ j = 2 ∨ j = 3 by omega) with rfl | rfl | rfl | rfl
  · exact ⟨w4, fun _ => by omega, fun z => by omega, fun z => by omega, by omega, by rw [if_pos nI_0, ob_ e4]⟩
  · exact ⟨1 + w4, fun z => by omega, fun z => by omega, fun z => by omega, by omega, by rw [if_neg (by decide), if_neg (by decide), ob_ e4, show (1 : Int32) = nI 1 from rfl, nI_add]⟩
  · exact ⟨w5, fun z => by omega, fun z => by omega, fun z => by omega, by omega, by rw [if_neg (by decide), if_pos (by decide), ob_ e5]⟩
  · exact ⟨1 + w4, fun z => by omega, fun z => by omega, fun z => by omega, by omega, by rw [if_neg (by decide), if_neg (by decide), ob_ e4, show (1 : Int32) = nI 1 from rfl, nI_add]⟩
theorem zs_lo {j w : Nat} (hj : j < 4) (h1 : j = 1 → 1 ≤ w) (h3 : j = 3 → 1 ≤ w) (hw : w ≤ 4) : ¬ nI w < zs_f 0 j := by
  rcases (show j = 0 ∨ j = 1 ∨ j = 2 ∨ j = 3 by omega) with rfl | rfl | rfl | rfl
  · show ¬ nI w < nI 0
    rw [nI_ltI (by omega) (by decide)]; omega
  · show ¬ nI w < nI 1
    rw [nI_ltI (by omega) (by decide)]; omega
  · show ¬ nI w < nI 0
    rw [nI_ltI (by omega) (by decide)]; omega
  · show ¬ nI w < nI 1
    rw [nI_ltI (by omega) (by decide)]; omega
theorem zs_hi {j w : Nat} (hj : j < 4) (h0 : j = 0 → w ≤ 3) (hw : w ≤ 4) : nI w ≤ zs_f 1 j := by
  rcases (show j = 0 ∨ j = 1 ∨ j = 2 ∨ j = 3 by omega) with rfl | rfl | rfl | rfl
  · show nI w ≤ nI 3
    rw [nI_leI (by omega) (by decide)]; omega
  · show nI w ≤ nI 9
    rw [nI_leI (by omega) (by decide)]; omega
  · show nI w ≤ nI 9
    rw [nI_leI (by omega) (by decide)]; omega
  · show nI w ≤ nI 9
    rw [nI_leI (by omega) (by decide)]; omega
theorem rs_set {z : Nat → Int32} {j w : Nat} (h : rs_ σ z) (hj : j < 4) (h0 : j = 0 → w ≤ 3) (h1 : j = 1 → 1 ≤ w) (h3 : j = 3 → 1 ≤ w) (hw : w ≤ 4) : rs_ (sg_a σ 1 (upd (σ 1) j (nI w))) (upd z j (nI w)) := by
  obtain ⟨⟨s0, s1, s2, s3⟩, r0, r1, r2, r3⟩ := h
  unfold rs_
  rw [sg_as]
  rcases (show j = 0 ∨ j = 1 ∨ j = 2 ∨ j = 3 by omega) with rfl | rfl | rfl | rfl
  · refine ⟨⟨by rw [up_s, up_s], by rw [up_n _ _ (by decide), up_n _ _ (by decide)]; exact s1, by rw [up_n _ _ (by decide), up_n _ _ (by decide)]; exact s2, by rw [up_n _ _ (by decide), up_n _ _ (by decide)]; exact s3⟩, ⟨w, h0 rfl, by rw [up_s]⟩, by rw [up_n _ _ (by decide)]; exact r1, by rw [up_n _ _ (by decide)]; exact r2, by rw [up_n _ _ (by decide)]; exact r3⟩
  · refine ⟨⟨by rw [up_n _ _ (by decide), up_n _ _ (by decide)]; exact s0, by rw [up_s, up_s], by rw [up_n _ _ (by decide), up_n _ _ (by decide)]; exact s2, by rw [up_n _ _ (by decide), up_n _ _ (by decide)]; exact s3⟩, by rw [up_n _ _ (by decide)]; exact r0, ⟨w, h1 rfl, by omega, by rw [up_s]⟩, by rw [up_n _ _ (by decide)]; exact r2, by rw [up_n _ _ (by decide)]; exact r3⟩
  · refine ⟨⟨by rw [up_n _ _ (by decide), up_n _ _ (by decide)]; exact s0, by rw [up_n _ _ (by decide), up_n _ _ (by decide)]; exact s1, by rw [up_s, up_s], by rw [up_n _ _ (by decide), up_n _ _ (by decide)]; exact s3⟩, by rw [up_n _ _ (by decide)]; exact r0, by rw [up_n _ _ (by decide)]; exact r1, ⟨w, by omega, by rw [up_s]⟩, by rw [up_n _ _ (by decide)]; exact r3⟩
  · refine ⟨⟨by rw [up_n _ _ (by decide), up_n _ _ (by decide)]; exact s0, by rw [up_n _ _ (by decide), up_n _ _ (by decide)]; exact s1, by rw [up_n _ _ (by decide), up_n _ _ (by decide)]; exact s2, by rw [up_s, up_s]⟩, by rw [up_n _ _ (by decide)]; exact r0, by rw [up_n _ _ (by decide)]; exact r1, by rw [up_n _ _ (by decide)]; exact r2, ⟨w, h3 rfl, by omega, by rw [up_s]⟩⟩
theorem b_set (hk : rk_ Λ π) (h : RQ n R pt P C (Λ 0) Ω) (a6 c : Int32) : OK_ n R P C (bL_law_253 a6 c Λ π Ω) := by
  obtain ⟨hf, hn5, hb⟩ := h
  obtain ⟨hR, hr0, hs, ht, hp, hm, hh⟩ := id hf
  obtain ⟨j, hj, ej⟩ := a_low (c >>> ((9 : Int32) &&& 31)) (m := 4) (by decide) (by decide)
  have ej : fL_low (c >>> ((9 : Int32) &&& 31)) (4 : Int32) = some (nI j) := ej
  obtain ⟨w, w0, w1, w3, w4, ew⟩ := b_val (c >>> ((12 : Int32) &&& 31)) hj
  have old : Ω 4 j = Λ 0 1 j := by
    obtain ⟨⟨s0, s1, s2, s3⟩, -⟩ := hs
    rcases (show j = 0 ∨ j = 1 ∨ j = 2 ∨ j = 3 by omega) with rfl | rfl | rfl | rfl
    · exact s0
    · exact s1
    · exact s2
    · exact s3
  have is : fX5_isSetting (nI j) = some 1 := by
    unfold fX5_isSetting
    rw [if_neg (nI_pos (by omega)), if_neg (by rw [show (3 : Int32) = nI 3 from rfl, nI_ltI (by decide) (by omega)]; omega)]
  have hF : fX2_changeSetting (nI j) (nI w) (Λ 0) = some (Λ 0 1 j, sg_a (Λ 0) 1 (upd (Λ 0 1) j (nI w))) := by
    unfold fX2_changeSetting
    rw [ob_ is, if_neg n10, ox_ hj (by decide), cl_ (by omega), if_neg (zs_lo hj w1 w3 w4), if_pos (zs_hi hj w0 w4)]
  obtain ⟨Λ', π', e1, e2, e3⟩ := rk_op (fX2_changeSetting (nI j) (nI w)) hk hF
  have e1 : fX7_set (nI j) (nI w) Λ π = some (Λ 0 1 j, Λ', π') := e1
  have es : fX7_setting (nI j) Λ' π' = some (nI w) := by
    unfold fX7_setting
    rw [ob_ is, if_neg n10, ox_ hj (by decide), cl_ (by omega), e2, sg_as, up_s]
  refine ⟨Λ', π', sg_a Ω 4 (upd (Ω 4) j (nI w)), R, pt, ?_, e3, by omega, ?_⟩
  · unfold bL_law_253
    rw [ob_ ej, ob_ ew, ob_ e1, ox_ (by omega) (by decide), cl_ (by omega), old, if_pos rfl, ob_ es, if_pos rfl]
  · rw [e2]
    obtain ⟨hn, hpt, b1, b2, b3, b4, b5, b6⟩ := hr0
    refine ⟨⟨hR, ⟨hn, hpt, ?_, ?_, ?_, ?_, ?_, ?_⟩, ?_, ?_, pq_o hp (by omega) _, ?_, ?_⟩, ?_, bd_o hb (by decide) (by decide) (by decide) _⟩
    · rw [sg_an _ _ (by decide)]; exact b1
    · rw [sg_as, up_n _ _ (by omega)]; exact b2
    · rw [sg_an _ _ (by decide)]; exact b3
    · rw [sg_as, up_n _ _ (by omega)]; exact b4
    · rw [sg_an _ _ (by decide)]; exact b5
    · rw [sg_as, up_n _ _ (by omega)]; exact b6
    · rw [sg_as]
      exact rs_set hs hj w0 w1 w3 w4
    · unfold rt_ at ht ⊢
      rw [sg_an _ _ (by decide), sg_as, up_n _ _ (by omega), up_n _ _ (by omega), up_n _ _ (by omega), up_n _ _ (by omega)]
      exact ht
    · rw [sg_an _ _ (by decide)]
      exact fun p hp j hj => by rw [sg_an _ _ (by omega)]; exact hm p hp j hj
    · intro s hs2
      rw [sg_an _ _ (by decide), sg_an _ _ (by decide)]
      have := hh s hs2
      unfold hf_ at this ⊢
      rw [sg_an _ _ (by decide), sg_an _ _ (by decide)]
      exact this
    · rw [sg_an _ _ (by decide)]
      exact nf_o hn5 (by decide) _
end Z
