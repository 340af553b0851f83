section Z
variable {B : Nat} {Λ : s3_T} {π : Nat → Nat} {μ : sg_T}
theorem z_play (h : rg_ B Λ π μ) (hB : B + 64 < 2 ^ 30) : ∃ (r : Int32) (Λ' : s3_T) (π' : Nat → Nat) (μ' : sg_T), fX7_play Λ π = some (r, Λ', π') ∧ fX8_play μ = some (r, μ') ∧ rg_ (B + 31) Λ' π' μ' := by
  obtain ⟨r, μe, s1, s2, s3, s4⟩ := z_err h
  have hE := rg_F h s3
  unfold fX7_play fX8_play
  rw [ob_ s1, ob_ s2]
  rcases s4 with ⟨rfl, t, n, pe, ht, c0, T, hP⟩ | ⟨e, e1, rfl⟩
  · have hn := pms_le _ _ _ hP
    cases n with
    | zero =>
      have : 0 = t + 1 := hP
      omega
    | succ n =>
      obtain ⟨c, c1, c2, c3, p1, p2, d⟩ := z_draft hE
      obtain ⟨μ1, m1, m2, m3, -⟩ := z_rec c1 c3
      obtain ⟨nn, R, pt, hR, hz⟩ := hE.1
      have e9 : sg_3 Λ (π c) (Λ 0) 9 = Λ 9 := sg_3n _ _ (by omega)
      have e0 : sg_3 Λ (π c) (Λ 0) 0 = Λ 0 := sg_3n _ _ (by omega)
      obtain ⟨j, σ', μ2, j1, j2, j3, j4, j5, j6, j7⟩ := pl_loop (Λ := sg_3 Λ (π c) (Λ 0)) (π := π) (f := Λ 9 1) (g := μe 5) (nn := nn) (by rw [e9]; exact c0) (by rw [e9]) ht n 0 0 70 70 (Λ 0) μ1 R pt hP (m2 5 (by decide) (by decide)) (by rw [m3 3 (by decide), T.2.1, Nat.zero_add]) (by omega) (by rw [m2 1 (by decide) (by decide)]; exact hz) (by omega) (Or.inl rfl) (by omega) (by omega)
      rw [sg_3i _ 0 (Λ 0) e0] at j2
      obtain ⟨Λ', π', μ1', k1, k2, k3, k4, k5, k6⟩ := z_keepY hE c1 c2 (r := nI j) (nI_pos' (by omega)) (show B ≤ B + 31 by omega) (σ' := σ') (τ := sg_a (Λ 9) 0 (sg_u (Λ 9 0) 0 0))
      rw [m1] at k2
      cases k2
      refine ⟨nI j, Λ', π', μ2, ?_, ?_, k6 μ2 (j4 2 (by decide)) (j4 3 (by decide)) (j5 0 (by decide)) (j5 1 (by decide)) (RZ_m j7 (by omega)) ?_⟩
      · show (if (NO : Int32) = -10006 then _ else _) = _
        rw [if_pos (show NO = -10006 from rfl), ob_ d]
        show lX7_play_32 70 (nI 0) (nI 0) (sg_3 Λ (π c) (Λ 0)) π = _
        rw [mL_play, ob_ j2]
        have e9' : sg_3 (sg_3 Λ (π c) (Λ 0)) 0 σ' 9 = Λ 9 := by rw [sg_3n _ _ (by decide), e9]
        show ((fX1_empty (sg_3 (sg_3 Λ (π c) (Λ 0)) 0 σ' 9)).bind fun q_8 => (fX3_keep (nI j) (sg_3 (sg_3 (sg_3 Λ (π c) (Λ 0)) 0 σ') 9 q_8.2) π).bind fun q_10 => some (q_10.1, q_10.2.1, q_10.2.2)) = _
        rw [e9']
        unfold fX1_empty
        show ((fX3_keep (nI j) (sg_3 (sg_3 (sg_3 Λ (π c) (Λ 0)) 0 σ') 9 (sg_a (Λ 9) 0 (sg_u (Λ 9 0) 0 0))) π).bind fun q_10 => some (q_10.1, q_10.2.1, q_10.2.2)) = _
        rw [ob_ k1]
      · show (if (NO : Int32) = -10006 then (fX8_record μe).bind fun σ5 => lX8_play_20 70 0 σ5 else _) = _
        rw [if_pos (show NO = -10006 from rfl), ob_ m1]
        exact j3
      · refine ⟨0, by omega, ?_, j6, fun k hk => absurd hk (by omega)⟩
        rw [k5, sg_as, sg_us]; rfl
  · refine ⟨-10005, Λ, π, μe, ?_, ?_, rg_m hE (by omega)⟩
    · exact if_neg (show ¬ nI e = -10006 from nNO (by omega))
    · exact if_neg (show ¬ nI e = -10006 from nNO (by omega))
end Z
def rel_ (i : Nat) (Λ : s3_T) (π : Nat → Nat) (μ : sg_T) : Prop := rg_ (31 * i) Λ π μ
theorem rel_o {i : Nat} {Λ : s3_T} {π : Nat → Nat} {μ : sg_T} (hi : i < 512) (h : rel_ i Λ π μ) {c : sg_T → Option (Int32 × sg_T)} {m : Option (Int32 × sg_T)} (H : ∀ (n R pt : Nat), r5_ n R pt (Λ 0) (μ 1) → R + 1 < 2 ^ 30 → R ≤ 31 * i → mo_ (Λ 0) μ (31 * i + 1) (c (Λ 0)) m) : ∃ (r : Int32) (Λ' : s3_T) (π' : Nat → Nat) (μ' : sg_T), ((fX3_draft Λ π).bind fun q_1 => ((c (q_1.1 0)).bind fun q_3 => ((fX3_keep q_3.1 (sg_3 q_1.1 0 q_3.2) q_1.2).bind fun q_5 => (some (q_5.1, q_5.2.1, q_5.2.2))))) = some (r, Λ', π') ∧ m = some (r, μ') ∧ rel_ (i + 1) Λ' π' μ' := by
  obtain ⟨n, R, pt, hR, hz⟩ := h.1
  obtain ⟨r, Λ', π', μ', s1, s2, s3⟩ := z_op h (H n R pt hz (by omega) hR) (by omega)
  exact ⟨r, Λ', π', μ', s1, s2, rg_m s3 (by omega)⟩
theorem ops_rel : ops_ rel_ := by
  refine ⟨fun i Λ π μ h => rg_m h (by omega), fun i Λ π μ a b hi h => ?_, fun i Λ π μ a hi h => ?_, fun i Λ π μ hi h => ?_, fun i Λ π μ a b hi h => ?_, fun i Λ π μ a b hi h => ?_, fun i Λ π μ hi h => ?_, fun i Λ π μ a hi h => ?_, fun i Λ π μ a b hi h => ?_, fun i Λ π μ a hi h => ?_, fun i Λ π μ a b hi h => ?_, fun i Λ π μ a b hi h => ?_, fun i Λ π μ a hi h => ?_, fun i Λ π μ hi h => ?_, fun i Λ π μ a hi h => ?_, fun i Λ π μ hi h => ?_, fun i Λ π μ hi h => ?_, fun i Λ π μ hi h => ?_, fun i Λ π μ hi h => ?_, fun i Λ π μ a hi h => ?_, fun i Λ π μ hi h => ?_, fun i Λ π μ hi h => ?_, fun i Λ π μ hi h => ?_, fun i Λ π μ hi h => ?_, fun i Λ π μ hi h => ?_, fun i Λ π μ hi h => ?_⟩
  · exact rel_o hi h (c := fX2_changeSetting a b) (fun n R pt hz h1 h2 => mo_set hz h2 a b)
  · obtain ⟨n, R, pt, hR, hz⟩ := h.1
    exact z_setting hz a
  · exact rel_o hi h (c := fX2_addPlayer) (fun n R pt hz h1 h2 => mo_join hz h2)
  · exact rel_o hi h (c := fX2_beginRound a b) (fun n R pt hz h1 h2 => mo_start hz h2 a b)
  · exact rel_o hi h (c := fX2_hidePlayer a b) (fun n R pt hz h1 h2 => mo_hide hz h1 h2 a b)
  · exact rel_o hi h (c := fX2_beginSeeking) (fun n R pt hz h1 h2 => mo_seek hz h1 h2)
  · exact rel_o hi h (c := fX2_moveSeeker a) (fun n R pt hz h1 h2 => mo_walk hz h2 a)
  · exact rel_o hi h (c := fX2_cryName a b) (fun n R pt hz h1 h2 => mo_cry hz h1 h2 a b)
  · exact rel_o hi h (c := fX2_dashHome a) (fun n R pt hz h1 h2 => mo_dash hz h1 h2 a)
  · obtain ⟨n, R, pt, hR, hz⟩ := h.1
    exact z_player hz a b
  · obtain ⟨n, R, pt, hR, hz⟩ := h.1
    exact z_spot hz a b
  · obtain ⟨n, R, pt, hR, hz⟩ := h.1
    obtain ⟨r, r1, r2⟩ := z_ranked hz a
    exact ⟨r, by unfold fX7_ranked; rw [ob_ r1], r2⟩
  · obtain ⟨n, R, pt, hR, hz⟩ := h.1
    obtain ⟨r, r1, r2⟩ := z_next hz
    exact ⟨r, by unfold fX7_nextSeeker; rw [ob_ r1], r2⟩
  · obtain ⟨n, R, pt, hR, hz⟩ := h.1
    exact z_total hz a
  · obtain ⟨n, R, pt, hR, hz⟩ := h.1
    obtain ⟨r, r1, r2⟩ := z_inS hz
    exact ⟨r, by unfold fX7_inSight; rw [ob_ r1], r2⟩
  · obtain ⟨n, R, pt, hR, hz⟩ := h.1
    obtain ⟨r, r1, r2⟩ := z_cou hz
    exact ⟨r, by unfold fX7_couldDash; rw [ob_ r1], r2⟩
  · obtain ⟨n, R, pt, hR, hz⟩ := h.1
    obtain ⟨r, r1, r2⟩ := z_best hz
    exact ⟨r, by unfold fX7_bestSpot; rw [ob_ r1], r2⟩
  · obtain ⟨n, R, pt, hR, hz⟩ := h.1
    obtain ⟨r, r1, r2⟩ := z_few hz
    exact ⟨r, by unfold fX7_fewestSteps; rw [ob_ r1], r2⟩
  · obtain ⟨r, Λ', π', μ', s1, s2, s3⟩ := z_append h a
    exact ⟨r, Λ', π', μ', s1, s2, rg_m s3 (by omega)⟩
  · obtain ⟨r, Λ', π', μ', s1, s2, s3⟩ := z_clear h
    exact ⟨r, Λ', π', μ', s1, s2, rg_m s3 (by omega)⟩
  · obtain ⟨r, μ', s1, s2, s3⟩ := z_errpos h
    exact ⟨r, μ', s1, s2, rg_m s3 (by omega)⟩
  · obtain ⟨r, Λ', π', μ', s1, s2, s3⟩ := z_play h (by omega)
    exact ⟨r, Λ', π', μ', s1, s2, rg_m s3 (by omega)⟩
  · obtain ⟨r, Λ', π', μ', s1, s2, s3⟩ := z_undo h
    exact ⟨r, Λ', π', μ', s1, s2, rg_m s3 (by omega)⟩
  · obtain ⟨r, Λ', π', μ', s1, s2, s3⟩ := z_save h
    exact ⟨r, Λ', π', μ', s1, s2, rg_m s3 (by omega)⟩
  · obtain ⟨r, Λ', π', μ', s1, s2, s3⟩ := z_restore h
    exact ⟨r, Λ', π', μ', s1, s2, rg_m s3 (by omega)⟩
