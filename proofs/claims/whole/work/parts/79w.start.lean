/-! ===== the start ===== -/
theorem sm_0 {hi : Nat} : sm 0 hi := ⟨0, Nat.zero_le _, rfl⟩
theorem s0_joy : ∀ b p : Fin 5, S0 (11 + b.val) p.val = S0 59 (5 * b.val + p.val) ∧ (S0 59 (5 * b.val + p.val) = 0 ∨ S0 59 (5 * b.val + p.val) = 9) := by decide +kernel
theorem s0_46 : ∀ e : Fin 10, S0 46 e.val = -1 := by decide +kernel
theorem s0_50 : ∀ s : Fin 4, S0 50 s.val = -1 := by decide +kernel
theorem s0_pp : ∀ b : Fin 5, S0 2 b.val = 100 ∧ S0 56 b.val = 100 ∧ S0 3 b.val = nI b.val ∧ S0 57 b.val = nI b.val := by decide +kernel
theorem s0_row : ∀ b : Fin 5, ∀ e : Fin 10, S0 (5 + b.val) e.val = 0 ∧ S0 (17 + b.val) e.val = 0 := by decide +kernel
theorem Inv_start {w : gw} (h : gN w = 73) : Inv w S0 0 := by
  have h48 : w48 w S0 := ⟨by omega, by rw [h], by omega, fun j => Or.inl (show (-1 : Int32) < 0 by decide)⟩
  have hSh : Sh w S0 := by
    refine ⟨h48, fun s hs => Or.inl ⟨rfl, s0_50 ⟨s, hs⟩⟩, fun s t _ _ _ hn => absurd (show (-1 : Int32) < 0 by decide) hn⟩
  refine ⟨(Sh_msk hSh).1, ⟨fun b hb => ?_, fun b hb => ?_, fun b e hb he => ?_, fun b p hb hp => ?_, fun b hb => ?_, fun e he => ?_, fun e he => ?_, ?_, ?_, ?_⟩, ?_, ?_, Sh_msk hSh, ?_, ?_⟩
  · obtain ⟨g1, g2, -⟩ := s0_pp ⟨b, hb⟩
    show S0 2 b = S0 56 b ∧ sm (S0 56 b) 999
    have g1 : S0 2 b = 100 := g1
    have g2 : S0 56 b = 100 := g2
    rw [g1, g2]
    exact ⟨rfl, 100, by omega, rfl⟩
  · obtain ⟨-, -, g1, g2⟩ := s0_pp ⟨b, hb⟩
    show S0 3 b = S0 57 b ∧ sm (S0 57 b) 4
    have g1 : S0 3 b = nI b := g1
    have g2 : S0 57 b = nI b := g2
    rw [g1, g2]
    exact ⟨rfl, b, by omega, rfl⟩
  · rw [mk_row S0 (by omega)]
    show S0 (5 + b) e = S0 58 (10 * b + e) ∧ sm (S0 58 (10 * b + e)) 99
    have g1 : S0 (5 + b) e = 0 := (s0_row ⟨b, hb⟩ ⟨e, he⟩).1
    have g2 : S0 58 (10 * b + e) = 0 := rfl
    rw [g1, g2]
    exact ⟨rfl, sm_0⟩
  · rw [mk_row S0 (by omega)]
    obtain ⟨g1, g2⟩ := s0_joy ⟨b, hb⟩ ⟨p, hp⟩
    refine ⟨g1, ?_⟩
    show sm (S0 59 (5 * b + p)) 9
    rcases g2 with g2 | g2
    · have g2 : S0 59 (5 * b + p) = 0 := g2
      rw [g2]; exact sm_0
    · have g2 : S0 59 (5 * b + p) = 9 := g2
      rw [g2]; exact ⟨9, by omega, rfl⟩
  · refine ⟨0, by omega, rfl, fun e he => ?_⟩
    rw [mk_row S0 (by omega), Nat.zero_div]
    exact (s0_row ⟨b, hb⟩ ⟨e, he⟩).2
  · exact ⟨rfl, sm_0⟩
  · exact ⟨rfl, sm_0⟩
  · exact ⟨rfl, 1, by omega, by omega, rfl⟩
  · exact ⟨rfl, sm_0⟩
  · exact ⟨rfl, 10, by omega, by omega, rfl⟩
  · exact ⟨0, by omega, rfl, rfl, fun j hj => absurd hj (Nat.not_lt_zero j)⟩
  · exact ⟨0, by omega, rfl, rfl, fun j hj => absurd hj (Nat.not_lt_zero j), fun e he => s0_46 ⟨e, he⟩, rfl⟩
  · rfl
  · exact ⟨1, by omega, by omega, rfl, ⟨0, by omega, rfl, fun g => by omega⟩, ⟨0, by omega, rfl, fun g => by omega⟩, ⟨0, by omega, rfl, fun g => by omega⟩⟩
