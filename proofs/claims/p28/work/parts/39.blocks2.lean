/-! the law's turns: hiding, the seeking begins, walking, a round begins -/
def wy_ (v : Int32) (a : Nat) : Nat := if v = 0 then a else if v = 1 then (a + 1) % 16 else (a + 15) % 16
theorem p_bes : ∀ a, a < 16 → fX6_beside (nI a) 1 = some (nI (wy_ 1 a)) ∧ fX6_beside (nI a) 0 = some (nI (wy_ 0 a)) ∧ fX6_beside (nI a) (-1) = some (nI (wy_ (-1) a)) := by decide +kernel
theorem q_bes : ∀ a, a < 16 → (nI a + 1 + 16) - (nI a + 1 + 16) / 16 * 16 = nI (wy_ 1 a) ∧ (nI a + 0 + 16) - (nI a + 0 + 16) / 16 * 16 = nI (wy_ 0 a) ∧ (nI a + -1 + 16) - (nI a + -1 + 16) / 16 * 16 = nI (wy_ (-1) a) := by decide +kernel
theorem wy_lt (v : Int32) {a : Nat} (h : a < 16) : wy_ v a < 16 := by unfold wy_; split <;> (try split) <;> omega
section Z
variable {n R pt P C : Nat} {Λ : s3_T} {π : Nat → Nat} {σ Ω : sg_T}
theorem z_pl1 (h : r0_ n R pt σ (Ω 4)) {k : Nat} (hk : k < n) : fX5_isPlayer (nI k) σ = some 1 := by
  obtain ⟨hn, -, e1, -⟩ := h
  unfold fX5_isPlayer
  rw [if_neg (nI_pos (by omega)), e1, if_neg (by rw [nI_leI (by omega) (by omega)]; omega)]
theorem pt_i (h : r0_ n R pt σ (Ω 4)) (j : Nat) (hj : j ≤ 2) : σ 0 2 = nI j ↔ pt = j := by
  rw [h.2.2.2.2.2.2.1, nI_eq (by have := h.2.1; omega) (by omega)]
theorem b_hide (hk : rk_ Λ π) (h : RQ n R 1 P C (Λ 0) Ω) (a6 : Int32) {t k : Nat} (ht : t < 16) (hkn : k < n) : OK_ n R P C (bL_law_537 a6 (nI t) (nI k) Λ π Ω) := by
  have h5 := rq_r5 (RQ_ri h)
  have hri := RQ_ri h
  have h2 := (RQ_rq h).2
  obtain ⟨hf, hn5, hb⟩ := h
  obtain ⟨hR, hr0, hs, ⟨t1, t2, t3, t4, t5, t6⟩, hp, hm, hh⟩ := id hf
  have hn := hr0.1
  obtain ⟨sk, b, hsk, hb1, hb2, s3, z7, s4, z8⟩ := t2 (by decide)
  have h5' : Λ 0 7 k = NO ∨ ∃ s, 1 ≤ s ∧ s < 16 ∧ Λ 0 7 k = nI s := hp.1 k (by omega)
  have xo : Ω 1 (6 * k + 5) = hq_ (Λ 0 7 k) := hn5 k (by omega)
  -- the count there
  have ct := a_cn hri ht
  have hc2 := cn_le (at_ (Λ 0) t) n
  obtain ⟨fu, fu1, fu2⟩ : ∃ fu : Int32, ((fu = 0 ∧ (t ≠ 0 → cn_ (at_ (Λ 0) t) n < 2)) ∨ (fu = 1 ∧ ¬ cn_ (at_ (Λ 0) t) n < 2)) ∧ (if nI (cn_ (at_ (Λ 0) t) n) = (2 : Int32) then (some (1 : Int32)) else (some (0 : Int32))) = some fu := by
    by_cases q : nI (cn_ (at_ (Λ 0) t) n) = (2 : Int32)
    · refine ⟨1, Or.inr ⟨rfl, ?_⟩, if_pos q⟩
      rw [show (2 : Int32) = nI 2 from rfl, nI_eq (by omega) (by decide)] at q
      omega
    · refine ⟨0, Or.inl ⟨rfl, fun t0 => ?_⟩, if_neg q⟩
      rw [show (2 : Int32) = nI 2 from rfl, nI_eq (by omega) (by decide)] at q
      have : cn_ (at_ (Λ 0) t) n ≤ 2 := hp.2.2.2 t (by omega) ht
      omega
  unfold bL_law_537
  rw [k_7, z7]
  simp only [o6_5 (show k < 8 by omega), c6_5 (show k < 8 by omega), xo]
  -- what is refused
  have refuse : ∀ (r : Int32), fX2_hidePlayer (nI k) (nI t) (Λ 0) = some (r, Λ 0) → ∃ (Λ' : s3_T) (π' : Nat → Nat), fX7_hide (nI k) (nI t) Λ π = some (r, Λ', π') ∧ rk_ Λ' π' ∧ RQ n R 1 P C (Λ' 0) Ω := by
    intro r hF
    obtain ⟨Λ', π', e1, e2, e3⟩ := rk_op (fX2_hidePlayer (nI k) (nI t)) hk hF
    exact ⟨Λ', π', e1, e3, by rw [e2]; exact ⟨hf, hn5, hb⟩⟩
  have same : sg_a Ω 1 (upd (Ω 1) (6 * k + 5) (hq_ (Λ 0 7 k))) = Ω := by rw [← xo, fa_upd_same rfl, sg_ai]
  have pre : ∀ r, (if nI k = nI sk then some (-10003, Λ 0) else ((fX5_isHidden (nI k) (Λ 0)).bind fun r_9 => (if r_9 = 0 then ((fX5_isHidingPlace (nI t) (Λ 0)).bind fun r_12 => (if r_12 = 0 then (some ((-10003 : Int32), Λ 0)) else ((fX5_isFull (nI t) (Λ 0)).bind fun r_15 => (if r_15 = 0 then (o_x (nI k) 8 ((fX6_fromBase (nI t)).bind fun r_19 => (some (r_19, (sg_a (Λ 0) 7 (upd (Λ 0 7) (nI k).toNatClampNeg (nI t))))))) else (some ((-10004 : Int32), Λ 0)))))) else (some ((-10003 : Int32), Λ 0))))) = r → fX2_hidePlayer (nI k) (nI t) (Λ 0) = r := by
    intro r e
    unfold fX2_hidePlayer
    rw [ob_ (z_pl1 hr0 hkn), if_neg n10, ob_ (z_isS ht), if_neg n10, if_pos (show Λ 0 0 2 = 1 from (pt_i hr0 1 (by decide)).mpr rfl), s3]
    exact e
  have hid := z_hid h5 hkn
  by_cases c1 : nI k = nI sk
  · obtain ⟨Λ', π', e1, e3, e4⟩ := refuse (-10003) (pre _ (if_pos c1))
    refine ⟨Λ', π', Ω, R, 1, ?_, e3, by omega, e4⟩
    rw [if_pos c1, Option.bind_some, ob_ (a_here h2 ht), ob_ ct, ob_ fu2, ob_ e1, if_pos p00, Option.bind_some, if_pos rfl, if_pos p00, Option.bind_some, same]
  · rw [if_neg c1]
    rcases hq_0 hp (show k < 8 by omega) with ⟨q, y⟩ | ⟨s, s1, s2, es, q, y⟩
    · rw [y, if_neg (show ¬ (0 : Int32) ≤ -1 by decide)]
      rw [if_pos q] at hid
      have same1 : sg_a Ω 1 (upd (Ω 1) (6 * k + 5) (-1)) = Ω := by rw [← y]; exact same
      rcases a_good hri hb2 z8 ht with ⟨g1, g2⟩ | ⟨g1, g2⟩
      · have t0 : t ≠ 0 := g1.1
        have t1' : 1 ≤ t := by omega
        rcases z_good h5 ht hb2 s4 (by show zq_ R (Λ 0) Ω 8 = nI b; rw [zq_l (by decide)]; exact z8) with ⟨-, k2, -⟩ | ⟨k1, -⟩
        · rw [ob_ g2, if_neg n10, Option.bind_some, ob_ (a_here h2 ht), ob_ ct, ob_ fu2]
          rcases z_full h5 ht with ⟨o2, o3⟩ | ⟨o1, o3⟩
          · rcases fu1 with ⟨rfl, -⟩ | ⟨-, w⟩
            · have hF := pre (some (nI (ds t 0), sg_a (Λ 0) 7 (upd (Λ 0 7) k (nI t)))) (by rw [if_neg c1, ob_ hid, if_pos p00, ob_ k2, if_neg n10, ob_ o3, if_pos p00, ox_ (by omega) (by decide), ob_ (p_base ht), cl_ (by omega)])
              obtain ⟨Λ', π', e1, e2, e3⟩ := rk_op (fX2_hidePlayer (nI k) (nI t)) hk hF
              have e1 : fX7_hide (nI k) (nI t) Λ π = some (nI (ds t 0), Λ', π') := e1
              refine ⟨Λ', π', sg_a Ω 1 (upd (Ω 1) (6 * k + 5) (nI t)), R, 1, ?_, e3, by omega, ?_⟩
              · rw [ob_ e1, if_neg n10, if_pos p00, ob_ (a_ap0 ht), Option.bind_some, if_pos rfl, if_neg n10, if_pos p00, Option.bind_some]
              · rw [e2]
                refine ⟨rf_p hf (sg_an _ _ (by decide)) (sg_an _ _ (by decide)) (sg_an _ _ (by decide)) (sg_an _ _ (by decide)) (pq_hide hp (by decide) hkn t1' ht o2) ?_, ?_, bd_o hb (by decide) (by decide) (by decide) _⟩
                · rw [sg_as]
                  exact mf_u5 (mf_7 hm _) _
                · rw [sg_as]
                  exact nf_hide hn5 (by omega) ht
            · exact absurd o2 w
          · rcases fu1 with ⟨-, w⟩ | ⟨rfl, -⟩
            · exact absurd (w t0) o1
            · obtain ⟨Λ', π', e1, e3, e4⟩ := refuse (-10004) (pre _ (by rw [if_neg c1, ob_ hid, if_pos p00, ob_ k2, if_neg n10, ob_ o3, if_neg n10]))
              refine ⟨Λ', π', Ω, R, 1, ?_, e3, by omega, e4⟩
              rw [ob_ e1, if_neg n10, if_neg n10, Option.bind_some, if_pos rfl, if_neg n10, if_neg n10, Option.bind_some, same1]
        · exact absurd g1 k1
      · rcases z_good h5 ht hb2 s4 (by show zq_ R (Λ 0) Ω 8 = nI b; rw [zq_l (by decide)]; exact z8) with ⟨k1, -⟩ | ⟨-, k2, -⟩
        · exact absurd k1 g1
        · obtain ⟨Λ', π', e1, e3, e4⟩ := refuse (-10003) (pre _ (by rw [if_neg c1, ob_ hid, if_pos p00, ob_ k2, if_pos p00]))
          refine ⟨Λ', π', Ω, R, 1, ?_, e3, by omega, e4⟩
          rw [ob_ g2, if_pos p00, Option.bind_some, ob_ (a_here h2 ht), ob_ ct, ob_ fu2, ob_ e1, if_pos p00, Option.bind_some, if_pos rfl, if_pos p00, Option.bind_some, same1]
    · rw [if_neg q] at hid
      obtain ⟨Λ', π', e1, e3, e4⟩ := refuse (-10003) (pre _ (by rw [if_neg c1, ob_ hid, if_neg n10]))
      refine ⟨Λ', π', Ω, R, 1, ?_, e3, by omega, e4⟩
      rw [y, if_pos (nI_pos' (by omega)), Option.bind_some, ob_ (a_here h2 ht), ob_ ct, ob_ fu2, ob_ e1, if_pos p00, Option.bind_some, if_pos rfl, if_pos p00, Option.bind_some, ← y, same]
/-- the seeking begins -/
theorem b_seek (hk : rk_ Λ π) (h : RQ n R 1 P C (Λ 0) Ω) (hR1 : R + 1 < 2 ^ 30) (a6 : Int32) : OK_ n R P C (bL_law_688 a6 Λ π Ω) := by
  have hri := RQ_ri h
  obtain ⟨hf, hn5, hb⟩ := h
  obtain ⟨hR, hr0, hs, ⟨t1, t2, t3, t4, t5, t6⟩, hp, hm, hh⟩ := id hf
  have hn := hr0.1
  obtain ⟨sk, b, hsk, hb1, hb2, s3, z7, s4, z8⟩ := t2 (by decide)
  have c1 := a_hid hp (RQ_rq ⟨hf, hn5, hb⟩ : rq_ n R 1 (Λ 0) Ω).2
  obtain ⟨F, hF⟩ : ∃ F, F = sg_u (sg_u (Λ 0 0) 2 2) 5 0 := ⟨_, rfl⟩
  have F5 : F 5 = 0 := by rw [hF, sg_us]
  have F2 : F 2 = nI 2 := by rw [hF, sg_un _ _ (by decide), sg_us]; rfl
  have Fo : ∀ i, i ≠ 2 → i ≠ 5 → F i = Λ 0 0 i := fun i h1 h2 => by rw [hF, sg_un _ _ h2, sg_un _ _ h1]
  have hx : RQ n R 2 P C (sg_a (Λ 0) 0 F) (sg_a Ω 4 (upd (Ω 4) 6 2)) := by
    refine ⟨?_, ?_, bd_o hb (by decide) (by decide) (by decide) _⟩
    · rw [sg_as, sg_an _ _ (show 1 ≠ 4 by decide), sg_an _ _ (show 2 ≠ 4 by decide), sg_an _ _ (show 3 ≠ 4 by decide)]
      refine rf_t hf (by decide) (fun j hj => sg_an _ _ (by omega)) ?_ ?_ ?_ (fun k hk => up_n _ _ (by omega)) (up_s _ _ _) ?_ (fun z => absurd z (by decide))
      · rw [sg_as, Fo 0 (by decide) (by decide)]
      · rw [sg_as, Fo 1 (by decide) (by decide)]
      · rw [sg_as]; exact F2
      · unfold rt_
        rw [sg_as, up_n _ _ (by decide), up_n _ _ (by decide), up_n _ _ (by decide), up_n _ _ (by decide), F5, Fo 3 (by decide) (by decide), Fo 4 (by decide) (by decide), Fo 6 (by decide) (by decide)]
        exact ⟨fun q => absurd q (by decide), fun _ => ⟨sk, b, hsk, hb1, hb2, s3, z7, s4, z8⟩, fun _ => ⟨0, by decide, rfl, t5 rfl⟩, fun q => absurd rfl q, fun q => absurd q (by decide), t6⟩
    · rw [sg_an _ _ (by decide)]
      exact nf_o hn5 (by decide) _
  have hc := (z_hc (rq_r5 (RQ_ri hx))).1
  have hc2 := a_hid hx.1.2.2.2.2.1 (RQ_rq hx).2
  have e8 : cn_ (hd_ (sg_a (Λ 0) 0 F)) 8 = cn_ (hd_ (Λ 0)) 8 := cn_c (fun i hi => by unfold hd_; rw [sg_an _ _ (by decide)])
  rw [← q_hd (RQ_ri hx), e8] at hc
  rw [e8] at hc2
  have b2 : Λ 0 0 2 = 1 := hr0.2.2.2.2.2.2.1
  have bs : ∀ σ', fX2_endRoundIfNobodyIsHidden (sg_a (Λ 0) 0 F) = some σ' → fX2_beginSeeking (Λ 0) = some (nI (cn_ (hd_ (Λ 0)) 8), σ') := fun σ' e => by
    unfold fX2_beginSeeking
    rw [b2, if_pos rfl, sg_aa, ← hF, ob_ hc, ob_ e]
  unfold bL_law_688
  rw [ob_ c1, k_6]
  rcases e_endE hx hR1 with ⟨g1, σ', Ω', g2, g3, g4⟩ | ⟨v, v1, g1, g2⟩
  · have z : nI (cn_ (hd_ (Λ 0)) 8) = 0 := Option.some.inj (hc2.symm.trans g1)
    obtain ⟨Λ', π', e1, e2, e3⟩ := rk_op fX2_beginSeeking hk (bs _ g2)
    have e1 : fX7_seek Λ π = some (nI (cn_ (hd_ (Λ 0)) 8), Λ', π') := e1
    refine ⟨Λ', π', Ω', R + 1, 0, ?_, e3, Nat.le_refl _, by rw [e2]; exact g4⟩
    rw [ob_ e1, if_pos rfl, if_pos z, ob_ g3, Option.bind_some]
  · have z : ¬ nI (cn_ (hd_ (Λ 0)) 8) = 0 := fun q => v1 ((Option.some.inj (hc2.symm.trans g1)).symm.trans q)
    obtain ⟨Λ', π', e1, e2, e3⟩ := rk_op fX2_beginSeeking hk (bs _ g2)
    have e1 : fX7_seek Λ π = some (nI (cn_ (hd_ (Λ 0)) 8), Λ', π') := e1
    refine ⟨Λ', π', _, R, 2, ?_, e3, by omega, by rw [e2]; exact hx⟩
    rw [ob_ e1, if_pos rfl, if_neg z, Option.bind_some]
/-- a step -/
theorem b_walk (hk : rk_ Λ π) (h : RQ n R 2 P C (Λ 0) Ω) (a6 c : Int32) : OK_ n R P C (bL_law_740 a6 c Λ π Ω) := by
  obtain ⟨hf, hn5, hb⟩ := h
  obtain ⟨hR, hr0, hs, ⟨t1, t2, t3, t4, t5, t6⟩, hp, hm, hh⟩ := id hf
  obtain ⟨r, hr, er⟩ := a_low (c >>> ((12 : Int32) &&& 31)) (m := 3) (by decide) (by decide)
  have er : fL_low (c >>> ((12 : Int32) &&& 31)) (3 : Int32) = some (nI r) := er
  obtain ⟨a, ha, a5, a9⟩ := t3 rfl
  have b2 : Λ 0 0 2 = 2 := hr0.2.2.2.2.2.2.1
  obtain ⟨v, hv, v1, v2, e1, e2⟩ : ∃ v : Int32, nI r - 1 = v ∧ ¬ v < -1 ∧ v ≤ 1 ∧ fX6_beside (nI a) v = some (nI (wy_ v a)) ∧ (nI a + v + 16) - (nI a + v + 16) / 16 * 16 = nI (wy_ v a) := by
    obtain ⟨x1, x2, x3⟩ := p_bes a ha
    obtain ⟨y1, y2, y3⟩ := q_bes a ha
    rcases (show r = 0 ∨ r = 1 ∨ r = 2 by omega) with rfl | rfl | rfl
    · exact ⟨-1, by decide, by decide, by decide, x3, y3⟩
    · exact ⟨0, by decide, by decide, by decide, x2, y2⟩
    · exact ⟨1, by decide, by decide, by decide, x1, y1⟩
  have hw := wy_lt v ha
  have hF : fX2_moveSeeker v (Λ 0) = some (nI (wy_ v a), sg_a (Λ 0) 0 (sg_u (Λ 0 0) 5 (nI (wy_ v a)))) := by
    unfold fX2_moveSeeker
    rw [if_neg v1, if_pos v2, if_pos b2, a5, ob_ e1]
  obtain ⟨Λ', π', g1, g2, g3⟩ := rk_op (fX2_moveSeeker v) hk hF
  have g1 : fX7_walk v Λ π = some (nI (wy_ v a), Λ', π') := g1
  refine ⟨Λ', π', sg_a Ω 4 (upd (Ω 4) 9 (nI (wy_ v a))), R, 2, ?_, g3, by omega, ?_⟩
  · unfold bL_law_740
    rw [ob_ er, k_9, a9, hv, e2, ob_ g1, up_s, if_pos rfl]
  · rw [g2]
    refine ⟨?_, ?_, bd_o hb (by decide) (by decide) (by decide) _⟩
    · rw [sg_as, sg_an _ _ (show 1 ≠ 4 by decide), sg_an _ _ (show 2 ≠ 4 by decide), sg_an _ _ (show 3 ≠ 4 by decide)]
      refine rf_t hf (by decide) (fun j hj => sg_an _ _ (by omega)) ?_ ?_ ?_ (fun k hk => up_n _ _ (by omega)) ?_ ?_ (fun z => absurd z (by decide))
      · rw [sg_as, sg_un _ _ (by decide)]
      · rw [sg_as, sg_un _ _ (by decide)]
      · rw [sg_as, sg_un _ _ (by decide)]; exact b2
      · rw [up_n _ _ (by decide)]; exact hr0.2.2.2.2.2.2.2
      · unfold rt_
        rw [sg_as, sg_un _ _ (by decide), sg_un _ _ (by decide), sg_us, sg_un _ _ (by decide), up_n _ _ (by decide), up_n _ _ (by decide), up_s, up_n _ _ (by decide)]
        exact ⟨t1, t2, fun _ => ⟨wy_ v a, hw, rfl, rfl⟩, fun q => absurd rfl q, fun q => absurd q (by decide), t6⟩
    · rw [sg_an _ _ (by decide)]
      exact nf_o hn5 (by decide) _
end Z
