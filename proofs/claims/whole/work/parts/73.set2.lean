theorem Cf_of' {S S' : St} (h : Cf S) (hl : ∀ k, k < 25 → k ≠ 0 → S' k = S k) (hm : ∀ k, 56 ≤ k → k < 64 → S' k = S k) : Cf S' := by
  obtain ⟨h1, h2, h3, h4, h5, h6, h7, h8, h9, h10⟩ := h
  have e56 := hm 56 (by omega) (by omega)
  have e57 := hm 57 (by omega) (by omega)
  have e58 := hm 58 (by omega) (by omega)
  have e59 := hm 59 (by omega) (by omega)
  have e60 := hm 60 (by omega) (by omega)
  have e61 := hm 61 (by omega) (by omega)
  have e62 := hm 62 (by omega) (by omega)
  have e63 := hm 63 (by omega) (by omega)
  refine ⟨?_, ?_, ?_, ?_, ?_, ?_, ?_, ?_, ?_, ?_⟩
  · rw [hl 2 (by omega) (by omega), e56]; exact h1
  · rw [hl 3 (by omega) (by omega), e57]; exact h2
  · intro b e hb he; rw [hl (5 + b) (by omega) (by omega), e58]; exact h3 b e hb he
  · intro b p hb hp; rw [hl (11 + b) (by omega) (by omega), e59]; exact h4 b p hb hp
  · intro b hb; rw [hl (17 + b) (by omega) (by omega), e63]; exact h5 b hb
  · rw [hl 22 (by omega) (by omega), e60]; exact h6
  · rw [hl 23 (by omega) (by omega), e61]; exact h7
  · rw [hl 24 (by omega) (by omega), e62]; exact h8
  · rw [hl 24 (by omega) (by omega), e62]; exact h9
  · rw [hl 24 (by omega) (by omega), e62]; exact h10
theorem op_joy {w : gw} {S : St} {i : Nat} (h : Inv w S i) (hi : i < 512) (a1 : Int32) (a2 : Int32) (a3 : Int32) : ∃ z1 z2, X_joy S a1 a2 a3 = some z1 ∧ M_joy z1.2 a1 a2 a3 = some z2 ∧ z1.1 = z2.1 ∧ Inv w z2.2 (i + 1) := by
  have hbad : (¬ sm a1 4 ∨ ¬ sm a2 4 ∨ ¬ sm a3 9) → ∃ z1 z2, X_joy S a1 a2 a3 = some z1 ∧ M_joy z1.2 a1 a2 a3 = some z2 ∧ z1.1 = z2.1 ∧ Inv w z2.2 (i + 1) := by
    intro hb
    refine ⟨(-2, S), (-2, S), ?_, ?_, rfl, Inv_next h⟩
    · unfold X_joy X_isBidder X_isProgramme
      by_cases g1 : X_within a1 0 4 = 0
      · rw [if_pos g1]
      · rw [if_neg g1]
        by_cases g2 : X_within a2 0 4 = 0
        · rw [if_pos g2]
        · rw [if_neg g2]
          rw [if_pos]
          rcases hb with hb | hb | hb
          · exact absurd (xw_f hb (by decide)) g1
          · exact absurd (xw_f hb (by decide)) g2
          · exact xw_f hb (by decide)
    · show M_joy S a1 a2 a3 = _
      unfold M_joy M_isBidder
      by_cases g1 : M_in a1.toInt64 0 4 = 0
      · rw [if_pos g1]
      · rw [if_neg g1]
        by_cases g2 : M_in a2.toInt64 0 4 = 0
        · rw [if_pos g2]
        · rw [if_neg g2]
          rw [if_pos]
          rcases hb with hb | hb | hb
          · exact absurd (mi_f hb (by decide)) g1
          · exact absurd (mi_f hb (by decide)) g2
          · exact mi_f hb (by decide)
  rcases sm_or a1 4 with h1 | h1
  · rcases sm_or a2 4 with h2 | h2
    · rcases sm_or a3 9 with h3 | h3
      · obtain ⟨b, hb, rfl⟩ := id h1
        obtain ⟨e, he, rfl⟩ := id h2
        refine ⟨(S (11 + b) e, up (up S (11 + b) e a3) 0 9 (S 0 9 + 1)), (S 59 (5 * b + e), up (up (up S (11 + b) e a3) 0 9 (S 0 9 + 1)) 59 (5 * b + e) a3), ?_, ?_, ?_, ?_⟩
        · unfold X_joy X_isBidder X_isProgramme
          rw [if_neg (by rw [show X_within (nI b) 0 4 = 1 from xw_t h1 (by decide)]; exact n10), if_neg (by rw [show X_within (nI e) 0 4 = 1 from xw_t h2 (by decide)]; exact n10), if_neg (by rw [show X_within a3 0 9 = 1 from xw_t h3 (by decide)]; exact n10), chk_t (inb_nI (by omega) (by decide)), ix_nI (by omega), bnd_t (rep_t rfl (by omega) (by decide) (by omega))]
        · show M_joy (up (up S (11 + b) e a3) 0 9 (S 0 9 + 1)) _ _ _ = _
          unfold M_joy M_isBidder
          rw [if_neg (by rw [show M_in (nI b).toInt64 0 4 = 1 from mi_t h1 (by decide)]; exact n10), if_neg (by rw [show M_in (nI e).toInt64 0 4 = 1 from mi_t h2 (by decide)]; exact n10), if_neg (by rw [show M_in a3.toInt64 0 9 = 1 from mi_t h3 (by decide)]; exact n10), bnd_t (tel_t (j := 5 * b + e) (by rw [show (5 : Int32) = nI 5 from rfl, pk_mul, nI_add]) (by omega) (by decide))]
          rw [up_ne (show 59 ≠ 0 by decide), up_ne (show 59 ≠ 11 + b by omega)]
        · have := (h.2.1.2.2.2.1 b e (by omega) (by omega)).1
          rw [mk_row S (by omega)] at this
          exact this
        · exact set_inv h hi ⟨by omega, by omega⟩ ⟨by decide, by decide⟩ (Cf_joy h.2.1 (by omega) (by omega) h3)
      · exact hbad (Or.inr (Or.inr h3))
    · exact hbad (Or.inr (Or.inl h2))
  · exact hbad (Or.inl h1)
theorem op_bidder {w : gw} {S : St} {i : Nat} (h : Inv w S i) (hi : i < 512) (a1 : Int32) (a2 : Int32) (a3 : Int32) : ∃ z1 z2, X_bidder S a1 a2 a3 = some z1 ∧ M_bidder z1.2 a1 a2 a3 = some z2 ∧ z1.1 = z2.1 ∧ Inv w z2.2 (i + 1) := by
  rcases sm_or a1 4 with h1 | h1
  · obtain ⟨b, hb, rfl⟩ := id h1
    have gx : ¬ X_isBidder (nI b) = 0 := by rw [show X_isBidder (nI b) = 1 from xw_t h1 (by decide)]; exact n10
    have gm : ¬ M_isBidder (nI b) = 0 := by rw [show M_isBidder (nI b) = 1 from mi_t h1 (by decide)]; exact n10
    by_cases q0 : a2 = 0
    · subst q0
      have t0 : ¬ M_isTwo 0 = 0 := by rw [show M_isTwo 0 = 1 from mi_t (x := 0) (hi := 1) ⟨0, by omega, rfl⟩ (by decide)]; exact n10
      rcases sm_or a3 999 with h3 | h3
      · refine ⟨(S 2 b, up (up S 2 b a3) 0 9 (S 0 9 + 1)), (S 56 b, up (up (up S 2 b a3) 0 9 (S 0 9 + 1)) 56 b a3), ?_, ?_, ?_, ?_⟩
        · unfold X_bidder
          rw [if_neg gx, if_pos rfl, if_neg (by rw [show X_within a3 0 999 = 1 from xw_t h3 (by decide)]; exact n10), bnd_t (rep_t rfl (by omega) (by decide) (by omega))]
        · show M_bidder (up (up S 2 b a3) 0 9 (S 0 9 + 1)) _ _ _ = _
          unfold M_bidder M_bidder_J30
          rw [if_neg gm, if_neg t0, if_pos rfl, if_neg (by rw [show M_in a3.toInt64 0 999 = 1 from mi_t h3 (by decide)]; exact n10), if_pos rfl, bnd_t (tel_t (j := b) rfl (by omega) (by decide))]
          rw [up_ne (show 56 ≠ 0 by decide), up_ne (show 56 ≠ 2 by decide)]
        · exact (h.2.1.1 b (by omega)).1
        · exact set_inv h hi ⟨by omega, by omega⟩ ⟨by decide, by decide⟩ (Cf_purse h.2.1 h3)
      · refine ⟨(-2, S), (-2, S), ?_, ?_, rfl, Inv_next h⟩
        · unfold X_bidder X_bidder_J39
          rw [if_neg gx, if_pos rfl, if_pos (show X_within a3 0 999 = 0 from xw_f h3 (by decide)), if_neg (by decide)]
        · show M_bidder S _ _ _ = _
          unfold M_bidder M_bidder_J30
          rw [if_neg gm, if_neg t0, if_pos rfl, if_pos (show M_in a3.toInt64 0 999 = 0 from mi_f h3 (by decide))]
    · by_cases q1 : a2 = 1
      · subst q1
        have t1 : ¬ M_isTwo 1 = 0 := by rw [show M_isTwo 1 = 1 from mi_t (x := 1) (hi := 1) ⟨1, by omega, rfl⟩ (by decide)]; exact n10
        rcases sm_or a3 4 with h3 | h3
        · refine ⟨(S 3 b, up (up S 3 b a3) 0 9 (S 0 9 + 1)), (S 57 b, up (up (up S 3 b a3) 0 9 (S 0 9 + 1)) 57 b a3), ?_, ?_, ?_, ?_⟩
          · unfold X_bidder X_bidder_J39 X_isProgramme
            rw [if_neg gx, if_neg q0, if_pos rfl, if_neg (by rw [show X_within a3 0 4 = 1 from xw_t h3 (by decide)]; exact n10), bnd_t (rep_t rfl (by omega) (by decide) (by omega))]
          · show M_bidder (up (up S 3 b a3) 0 9 (S 0 9 + 1)) _ _ _ = _
            unfold M_bidder M_bidder_J30
            rw [if_neg gm, if_neg t1, if_neg q0, if_neg (by rw [show M_in a3.toInt64 0 4 = 1 from mi_t h3 (by decide)]; exact n10), if_neg q0, bnd_t (tel_t (j := b) rfl (by omega) (by decide))]
            rw [up_ne (show 57 ≠ 0 by decide), up_ne (show 57 ≠ 3 by decide)]
          · exact (h.2.1.2.1 b (by omega)).1
          · exact set_inv h hi ⟨by omega, by omega⟩ ⟨by decide, by decide⟩ (Cf_prog h.2.1 h3)
        · refine ⟨(-2, S), (-2, S), ?_, ?_, rfl, Inv_next h⟩
          · unfold X_bidder X_bidder_J39 X_isProgramme
            rw [if_neg gx, if_neg q0, if_pos rfl, if_pos (show X_within a3 0 4 = 0 from xw_f h3 (by decide))]
          · show M_bidder S _ _ _ = _
            unfold M_bidder M_bidder_J30
            rw [if_neg gm, if_neg t1, if_neg q0, if_pos (show M_in a3.toInt64 0 4 = 0 from mi_f h3 (by decide))]
      · have hn : ¬ sm a2 1 := by
          rintro ⟨v, hv, rfl⟩
          rcases (show v = 0 ∨ v = 1 by omega) with rfl | rfl
          · exact q0 rfl
          · exact q1 rfl
        refine ⟨(-2, S), (-2, S), ?_, ?_, rfl, Inv_next h⟩
        · unfold X_bidder X_bidder_J39
          rw [if_neg gx, if_neg q0, if_neg q1]
        · show M_bidder S _ _ _ = _
          unfold M_bidder
          rw [if_neg gm, if_pos (show M_isTwo a2 = 0 from mi_f hn (by decide))]
  · refine ⟨(-2, S), (-2, S), ?_, ?_, rfl, Inv_next h⟩
    · unfold X_bidder
      rw [if_pos (show X_isBidder a1 = 0 from xw_f h1 (by decide))]
    · show M_bidder S _ _ _ = _
      unfold M_bidder
      rw [if_pos (show M_isBidder a1 = 0 from mi_f h1 (by decide))]
theorem op_evening {w : gw} {S : St} {i : Nat} (h : Inv w S i) (hi : i < 512) (a1 : Int32) (a2 : Int32) (a3 : Int32) : ∃ z1 z2, X_evening S a1 a2 a3 = some z1 ∧ M_evening z1.2 a1 a2 a3 = some z2 ∧ z1.1 = z2.1 ∧ Inv w z2.2 (i + 1) := by
  rcases sm_or a1 9 with h1 | h1
  · obtain ⟨b, hb, rfl⟩ := id h1
    have gx : ¬ X_isEvening (nI b) = 0 := by rw [show X_isEvening (nI b) = 1 from xw_t h1 (by decide)]; exact n10
    have gm : ¬ M_isEvening (nI b) = 0 := by rw [show M_isEvening (nI b) = 1 from mi_t h1 (by decide)]; exact n10
    by_cases q0 : a2 = 0
    · subst q0
      have t0 : ¬ M_isTwo 0 = 0 := by rw [show M_isTwo 0 = 1 from mi_t (x := 0) (hi := 1) ⟨0, by omega, rfl⟩ (by decide)]; exact n10
      rcases sm_or a3 99 with h3 | h3
      · refine ⟨(S 22 b, up (up S 22 b a3) 0 9 (S 0 9 + 1)), (S 60 b, up (up (up S 22 b a3) 0 9 (S 0 9 + 1)) 60 b a3), ?_, ?_, ?_, ?_⟩
        · unfold X_evening
          rw [if_neg gx, if_pos rfl, if_neg (by rw [show X_within a3 0 99 = 1 from xw_t h3 (by decide)]; exact n10), bnd_t (rep_t rfl (by omega) (by decide) (by omega))]
        · show M_evening (up (up S 22 b a3) 0 9 (S 0 9 + 1)) _ _ _ = _
          unfold M_evening M_evening_J30
          rw [if_neg gm, if_neg t0, if_pos rfl, if_neg (by rw [show M_in a3.toInt64 0 99 = 1 from mi_t h3 (by decide)]; exact n10), if_pos rfl, bnd_t (tel_t (j := b) rfl (by omega) (by decide))]
          rw [up_ne (show 60 ≠ 0 by decide), up_ne (show 60 ≠ 22 by decide)]
        · exact (h.2.1.2.2.2.2.2.1 b (by omega)).1
        · exact set_inv h hi ⟨by omega, by omega⟩ ⟨by decide, by decide⟩ (Cf_reserve h.2.1 h3)
      · refine ⟨(-2, S), (-2, S), ?_, ?_, rfl, Inv_next h⟩
        · unfold X_evening X_evening_J38
          rw [if_neg gx, if_pos rfl, if_pos (show X_within a3 0 99 = 0 from xw_f h3 (by decide)), if_neg (by decide)]
        · show M_evening S _ _ _ = _
          unfold M_evening M_evening_J30
          rw [if_neg gm, if_neg t0, if_pos rfl, if_pos (show M_in a3.toInt64 0 99 = 0 from mi_f h3 (by decide))]
    · by_cases q1 : a2 = 1
      · subst q1
        have t1 : ¬ M_isTwo 1 = 0 := by rw [show M_isTwo 1 = 1 from mi_t (x := 1) (hi := 1) ⟨1, by omega, rfl⟩ (by decide)]; exact n10
        rcases sm_or a3 16 with h3 | h3
        · refine ⟨(S 23 b, up (up S 23 b a3) 0 9 (S 0 9 + 1)), (S 61 b, up (up (up S 23 b a3) 0 9 (S 0 9 + 1)) 61 b a3), ?_, ?_, ?_, ?_⟩
          · unfold X_evening X_evening_J38
            rw [if_neg gx, if_neg q0, if_pos rfl, if_neg (by rw [show X_within a3 0 16 = 1 from xw_t h3 (by decide)]; exact n10), bnd_t (rep_t rfl (by omega) (by decide) (by omega))]
          · show M_evening (up (up S 23 b a3) 0 9 (S 0 9 + 1)) _ _ _ = _
            unfold M_evening M_evening_J30
            rw [if_neg gm, if_neg t1, if_neg q0, if_neg (by rw [show M_in a3.toInt64 0 16 = 1 from mi_t h3 (by decide)]; exact n10), if_neg q0, bnd_t (tel_t (j := b) rfl (by omega) (by decide))]
            rw [up_ne (show 61 ≠ 0 by decide), up_ne (show 61 ≠ 23 by decide)]
          · exact (h.2.1.2.2.2.2.2.2.1 b (by omega)).1
          · exact set_inv h hi ⟨by omega, by omega⟩ ⟨by decide, by decide⟩ (Cf_cloud h.2.1 h3)
        · refine ⟨(-2, S), (-2, S), ?_, ?_, rfl, Inv_next h⟩
          · unfold X_evening X_evening_J38
            rw [if_neg gx, if_neg q0, if_pos rfl, if_pos (show X_within a3 0 16 = 0 from xw_f h3 (by decide))]
          · show M_evening S _ _ _ = _
            unfold M_evening M_evening_J30
            rw [if_neg gm, if_neg t1, if_neg q0, if_pos (show M_in a3.toInt64 0 16 = 0 from mi_f h3 (by decide))]
      · have hn : ¬ sm a2 1 := by
          rintro ⟨v, hv, rfl⟩
          rcases (show v = 0 ∨ v = 1 by omega) with rfl | rfl
          · exact q0 rfl
          · exact q1 rfl
        refine ⟨(-2, S), (-2, S), ?_, ?_, rfl, Inv_next h⟩
        · unfold X_evening X_evening_J38
          rw [if_neg gx, if_neg q0, if_neg q1]
        · show M_evening S _ _ _ = _
          unfold M_evening
          rw [if_neg gm, if_pos (show M_isTwo a2 = 0 from mi_f hn (by decide))]
  · refine ⟨(-2, S), (-2, S), ?_, ?_, rfl, Inv_next h⟩
    · unfold X_evening
      rw [if_pos (show X_isEvening a1 = 0 from xw_f h1 (by decide))]
    · show M_evening S _ _ _ = _
      unfold M_evening
      rw [if_pos (show M_isEvening a1 = 0 from mi_f h1 (by decide))]
theorem op_wipe {w : gw} {S : St} {i : Nat} (h : Inv w S i) (hi : i < 512)  : ∃ z1 z2, X_wipe S = some z1 ∧ M_wipe z1.2 = some z2 ∧ z1.1 = z2.1 ∧ Inv w z2.2 (i + 1) := by
  refine ⟨(S 25 1, up (up S 25 1 0) 0 9 (S 0 9 + 1)), (S 49 6, up (up (up S 25 1 0) 0 9 (S 0 9 + 1)) 49 6 0), ?_, ?_, ?_, ?_⟩
  · unfold X_wipe
    rw [up_ne (show 0 ≠ 25 by decide)]
  · show M_wipe (up (up S 25 1 0) 0 9 (S 0 9 + 1)) = _
    unfold M_wipe
    rw [up_ne (show 49 ≠ 0 by decide), up_ne (show 49 ≠ 25 by decide)]
  · obtain ⟨n, -, e1, e2, -⟩ := h.2.2.1
    exact e1.trans e2.symm
  · unfold Inv
    have e : msk (up (up (up S 25 1 0) 0 9 (S 0 9 + 1)) 49 6 0) = up (up (up (msk S) 25 1 0) 0 9 (S 0 9 + 1)) 49 6 0 := by
      rw [msk_up49n (by decide), msk_upn (scr_lo (by omega)) (by omega), msk_upn (scr_lo (by omega)) (by omega)]
    rw [e]
    obtain ⟨h0, h1, h2, h3, h4, h5, h6⟩ := h
    have hne : ∀ k, k ≠ 25 → k ≠ 0 → k ≠ 49 → (up (up (up (msk S) 25 1 0) 0 9 (S 0 9 + 1)) 49 6 0) k = msk S k := fun k a1 a2 a3 => by
      rw [up_ne a3, up_ne a2, up_ne a1]
    have h49 : ∀ j, j ≠ 6 → (up (up (up (msk S) 25 1 0) 0 9 (S 0 9 + 1)) 49 6 0) 49 j = msk S 49 j := fun j hj => by
      rw [up_oth hj, up_ne (by omega), up_ne (by omega)]
    refine ⟨w48_of h0 (hne 48 (by omega) (by omega) (by omega)), Cf_of' h1 (fun k hk hk0 => hne k (by omega) (by omega) (by omega)) (fun k hk hk2 => hne k (by omega) (by omega) (by omega)), ?_, Sg_of h3 (by rw [hne 45 (by omega) (by omega) (by omega)]) (h49 22 (by omega)) (hne 46 (by omega) (by omega) (by omega)) (hne 67 (by omega) (by omega) (by omega)) (by rw [hne 45 (by omega) (by omega) (by omega)]), Sh_of h4 (hne 48 (by omega) (by omega) (by omega)) (hne 50 (by omega) (by omega) (by omega)) (hne 51 (by omega) (by omega) (by omega)) (hne 52 (by omega) (by omega) (by omega)) (fun k hk => hne k (by omega) (by omega) (by omega)), ?_, ?_⟩
    · exact ⟨0, by omega, by rw [up_ne (by omega), up_ne (by omega), up_self]; rfl, by rw [up_self]; rfl, fun j hj => by omega⟩
    · rw [h49 4 (by omega), up_ne (show 0 ≠ 49 by omega), up_oth (show 8 ≠ 9 by omega), up_ne (show 0 ≠ 25 by omega)]
      exact h5
    · refine Ed_up (d := 1) h6 hi ⟨by omega, by omega⟩ ?_ (by rw [hne 27 (by omega) (by omega) (by omega)]) (by rw [hne 39 (by omega) (by omega) (by omega)]) (by rw [hne 43 (by omega) (by omega) (by omega)])
      rw [up_ne (by omega), up_self]
      rfl
