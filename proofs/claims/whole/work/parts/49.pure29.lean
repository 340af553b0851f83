/-! the first states -/
theorem rel_0 : rel_ 0 gL0 pi0 gM0 := by
  have hz : r5_ 0 0 0 gS0 (gM0 1) := by
    refine ⟨by decide, ⟨by decide, by decide, rfl, rfl, rfl, rfl, rfl, rfl⟩, ⟨⟨rfl, rfl, rfl, rfl⟩, ⟨1, by decide, rfl⟩, ⟨2, by decide, by decide, rfl⟩, ⟨2, by decide, rfl⟩, ⟨2, by decide, by decide, rfl⟩⟩, ⟨fun _ => ⟨rfl, rfl⟩, fun w => absurd rfl w, fun w => absurd w (by decide), fun _ => ⟨rfl, rfl⟩, fun w => absurd w (by decide), rfl⟩, ⟨fun p hp => absurd hp (by omega), fun p hp => ?_, fun p h1 hp => ⟨rfl, rfl, rfl, rfl, rfl, ?_⟩, fun _ p hp => ?_, fun s h1 h2 => by show (0 : Nat) ≤ 2; decide⟩, ?_⟩
    · exact Or.inl (show fil_ (fun _ => 0) (-10006 : Int32) 8 p = _ from if_pos hp)
    · exact (show fil_ (fun _ => 0) (-10006 : Int32) 8 p = _ from if_pos hp)
    · exact (show fil_ (fun _ => 0) (-10006 : Int32) 8 p = _ from if_pos hp)
    · intro s hs
      have e9 : gS0 9 s = -1 := (show fil_ (fun _ => 0) (-1 : Int32) 16 s = _ from if_pos hs)
      have e1 : ∀ k, 4 ≤ k → gM0 1 k = 0 := fun k hk => by
        show upd (upd (upd (upd (fun _ => 0) 0 (1 : Int32)) 1 (2 : Int32)) 2 (2 : Int32)) 3 (2 : Int32) k = 0
        rw [up_n _ _ (by omega), up_n _ _ (by omega), up_n _ _ (by omega), up_n _ _ (by omega)]
      exact ⟨(e1 _ (by omega)).trans rfl, Or.inl ⟨e9, e1 _ (by omega)⟩⟩
  refine ⟨⟨0, 0, 0, by decide, hz⟩, ⟨⟨0, by decide, rfl, rfl, fun k hk => absurd hk (by omega)⟩, fun k hk => ?_, fun j k h1 h2 h3 => ?_⟩, Or.inl ⟨rfl, rfl⟩, ⟨0, by decide, rfl, rfl, fun k hk => absurd hk (by omega)⟩⟩
  · show 2 ≤ k + 2 ∧ k + 2 < 8
    omega
  · have h3 : j + 2 = k + 2 := h3
    omega
