/-! ===== busy, seen ===== -/
theorem b_mod (B e : Nat) : (nI B >>> (nI e &&& 31)) &&& 1 = nI (B / 2 ^ e % 2) ∨ ¬ (B < 1024 ∧ e < 10) := by
  by_cases h : B < 1024 ∧ e < 10
  · left
    have e1 : nI B >>> (nI e &&& 31) = nI (B / 2 ^ e) := by
      refine pk_shrN (by omega) _ e ?_
      have he := h.2
      match e, he with
      | 0, _ | 1, _ | 2, _ | 3, _ | 4, _ | 5, _ | 6, _ | 7, _ | 8, _ | 9, _ => rfl
      | e + 10, he => exact absurd he (by omega)
    rw [e1]
    exact pk_andN (by have : B / 2 ^ e ≤ B := Nat.div_le_self _ _; omega) 1 (by decide)
  · exact Or.inr h
theorem bit_rd {B e : Nat} (hB : B < 1024) (he : e < 10) : (nI B >>> (nI e &&& 31)) &&& 1 = nI (B / 2 ^ e % 2) := by
  rcases b_mod B e with h | h
  · exact h
  · exact absurd ⟨hB, he⟩ h
theorem bit_wr {B e v : Nat} (hB : B < 1024) (he : e < 10) (hv : v ≤ 1) : ((nI B &&& (((1 : Int32) <<< (nI e &&& 31)) ^^^ (-1))) ||| (nI v <<< (nI e &&& 31))) = nI (bset B e v) := bit_wr_dec ⟨e, he⟩ ⟨v, by omega⟩ ⟨B, hB⟩
theorem bset_bit {B e v q : Nat} (hv : v ≤ 1) : bset B e v / 2 ^ q % 2 = (if q = e then v else B / 2 ^ q % 2) := by
  have hlo : B % 2 ^ e < 2 ^ e := Nat.mod_lt _ (Nat.two_pow_pos e)
  have eB : B = 2 ^ e * (B / 2 ^ e) + B % 2 ^ e := (Nat.div_add_mod B (2 ^ e)).symm
  have t1 : (bset B e v).testBit q = if q < e then (B % 2 ^ e).testBit q else (2 * (B / 2 ^ e / 2) + v).testBit (q - e) := Nat.testBit_two_pow_mul_add _ hlo q
  have t2 : B.testBit q = if q < e then (B % 2 ^ e).testBit q else (B / 2 ^ e).testBit (q - e) := by
    conv => lhs; rw [eB]
    exact Nat.testBit_two_pow_mul_add _ hlo q
  rw [← Nat.toNat_testBit, ← Nat.toNat_testBit]
  by_cases hq : q < e
  · rw [if_neg (by omega), t1, t2, if_pos hq, if_pos hq]
  · rw [t1, if_neg hq]
    by_cases hqe : q = e
    · subst hqe
      rw [if_pos rfl, Nat.sub_self, Nat.toNat_testBit]
      omega
    · rw [if_neg hqe, t2, if_neg hq]
      obtain ⟨d, hd⟩ : ∃ d, q - e = d + 1 := ⟨q - e - 1, by omega⟩
      rw [hd, Nat.testBit_succ, Nat.testBit_succ]
      have e1 : (2 * (B / 2 ^ e / 2) + v) / 2 = B / 2 ^ e / 2 := by omega
      rw [e1]
theorem bset_lt {B e v : Nat} (hB : B < 1024) (he : e < 10) (hv : v ≤ 1) : bset B e v < 1024 := by
  unfold bset
  match e, he with
  | 0, _ | 1, _ | 2, _ | 3, _ | 4, _ | 5, _ | 6, _ | 7, _ | 8, _ | 9, _ => simp only [Nat.reducePow]; omega
  | e + 10, he => exact absurd he (by omega)
theorem bset_at {B e v : Nat} (hB : B < 1024) (he : e < 10) (hv : v ≤ 1) : bset B e v < 1024 ∧ ∀ q, q < 10 → bset B e v / 2 ^ q % 2 = (if q = e then v else B / 2 ^ q % 2) :=
  ⟨bset_lt hB he hv, fun q _ => bset_bit hv⟩
theorem Cf_busy {T : St} {b e v B : Nat} (h : Cf T) (hb : b < 5) (he : e < 10) (hv : v ≤ 1) (hB : B < 1024) (h63 : T 63 b = nI B) : Cf (up (up T (17 + b) e (nI v)) 63 b (nI (bset B e v))) := by
  obtain ⟨h1, h2, h3, h4, h5, h6, h7, h8, h9, h10⟩ := h
  obtain ⟨r1, r2⟩ := ru_oth (T := T) (K := 17 + b) (R := 63) (p := e) (q := b) (v := nI v) (v' := nI (bset B e v)) (by omega) (by decide) (by omega) (by decide)
  refine ⟨pr_oth h1 (by omega) (by decide) (by omega) (by decide), pr_oth h2 (by omega) (by decide) (by omega) (by decide), gr_oth h3 (fun b hb => by omega) (fun b hb => by omega) (by omega) (by decide), gr_oth h4 (fun b hb => by omega) (fun b hb => by omega) (by omega) (by decide), ?_, pr_oth h6 (by omega) (by decide) (by omega) (by decide), pr_oth h7 (by omega) (by decide) (by omega) (by decide), by rw [r1, r2]; exact h8, by rw [r1, r2]; exact h9, by rw [r1, r2]; exact h10⟩
  intro c hc
  obtain ⟨B2, q1, q2, q3⟩ := h5 c hc
  by_cases hcb : c = b
  · subst hcb
    have eB : B2 = B := (nI_eq (by omega) (by omega)).mp (q2.symm.trans h63)
    subst eB
    obtain ⟨g1, g2⟩ := bset_at hB he hv
    refine ⟨bset B2 e v, g1, by rw [up_self], fun q hq => ?_⟩
    rw [up_ne (by omega), up_eq, g2 q hq]
    by_cases hqe : q = e
    · subst hqe
      rw [pk_us, if_pos rfl]
    · rw [pk_un hqe, if_neg hqe]
      exact q3 q hq
  · refine ⟨B2, q1, ?_, fun q hq => ?_⟩
    · rw [up_oth hcb, up_ne (by omega)]
      exact q2
    · rw [up_ne (by omega), up_ne (by omega)]
      exact q3 q hq
theorem op_busy {w : gw} {S : St} {i : Nat} (h : Inv w S i) (hi : i < 512) (a1 : Int32) (a2 : Int32) (a3 : Int32) : ∃ z1 z2, X_busy S a1 a2 a3 = some z1 ∧ M_busy z1.2 a1 a2 a3 = some z2 ∧ z1.1 = z2.1 ∧ Inv w z2.2 (i + 1) := by
  have hbad : (¬ sm a1 4 ∨ ¬ sm a2 9 ∨ ¬ sm a3 1) → ∃ z1 z2, X_busy S a1 a2 a3 = some z1 ∧ M_busy z1.2 a1 a2 a3 = some z2 ∧ z1.1 = z2.1 ∧ Inv w z2.2 (i + 1) := by
    intro hb
    refine ⟨(-2, S), (-2, S), ?_, ?_, rfl, Inv_next h⟩
    · unfold X_busy X_isBidder X_isEvening
      by_cases g1 : X_within a1 0 4 = 0
      · rw [if_pos g1]
      · rw [if_neg g1]
        by_cases g2 : X_within a2 0 9 = 0
        · rw [if_pos g2]
        · rw [if_neg g2]
          rw [if_pos]
          rcases hb with hb | hb | hb
          · exact absurd (xw_f hb (by decide)) g1
          · exact absurd (xw_f hb (by decide)) g2
          · exact xw_f hb (by decide)
    · show M_busy S a1 a2 a3 = _
      unfold M_busy M_isBidder M_isEvening M_isTwo
      by_cases g1 : M_in a1.toInt64 0 4 = 0
      · rw [if_pos g1]
      · rw [if_neg g1]
        by_cases g2 : M_in a2.toInt64 0 9 = 0
        · rw [if_pos g2]
        · rw [if_neg g2]
          rw [if_pos]
          rcases hb with hb | hb | hb
          · exact absurd (mi_f hb (by decide)) g1
          · exact absurd (mi_f hb (by decide)) g2
          · exact mi_f hb (by decide)
  rcases sm_or a1 4 with h1 | h1
  · rcases sm_or a2 9 with h2 | h2
    · rcases sm_or a3 1 with h3 | h3
      · obtain ⟨b, hb, rfl⟩ := id h1
        obtain ⟨e, he, rfl⟩ := id h2
        obtain ⟨v, hv, rfl⟩ := id h3
        obtain ⟨B, hB, e63, hrow⟩ := h.2.1.2.2.2.2.1 b (by omega)
        have e63 : S 63 b = nI B := e63
        refine ⟨(S (17 + b) e, up (up S (17 + b) e (nI v)) 0 9 (S 0 9 + 1)), (nI (B / 2 ^ e % 2), up (up (up S (17 + b) e (nI v)) 0 9 (S 0 9 + 1)) 63 b (nI (bset B e v))), ?_, ?_, ?_, ?_⟩
        · unfold X_busy X_isBidder X_isEvening
          rw [if_neg (by rw [show X_within (nI b) 0 4 = 1 from xw_t h1 (by decide)]; exact n10), if_neg (by rw [show X_within (nI e) 0 9 = 1 from xw_t h2 (by decide)]; exact n10), if_neg (by rw [show X_within (nI v) 0 1 = 1 from xw_t h3 (by decide)]; exact n10), chk_t (inb_nI (by omega) (by decide)), ix_nI (by omega), bnd_t (rep_t rfl (by omega) (by decide) (by omega))]
        · show M_busy (up (up S (17 + b) e (nI v)) 0 9 (S 0 9 + 1)) _ _ _ = _
          unfold M_busy M_isBidder M_isEvening M_isTwo
          rw [if_neg (by rw [show M_in (nI b).toInt64 0 4 = 1 from mi_t h1 (by decide)]; exact n10), if_neg (by rw [show M_in (nI e).toInt64 0 9 = 1 from mi_t h2 (by decide)]; exact n10), if_neg (by rw [show M_in (nI v).toInt64 0 1 = 1 from mi_t h3 (by decide)]; exact n10), chk_t (inb_nI (by omega) (by decide)), chk_t (inb_nI (by omega) (by decide)), chk_t (inb_nI (by omega) (by decide)), ix_nI (by omega)]
          have e9 : (up (up S (17 + b) e (nI v)) 0 9 (S 0 9 + 1)) 63 b = nI B := by rw [up_ne (show 63 ≠ 0 by decide), up_ne (show 63 ≠ 17 + b by omega)]; exact e63
          rw [e9, bit_rd hB (by omega), bit_wr hB (by omega) hv]
        · have := hrow e (by omega)
          rw [mk_row S (by omega)] at this
          exact this
        · exact set_inv h hi ⟨by omega, by omega⟩ ⟨by decide, by decide⟩ (Cf_busy h.2.1 (by omega) (by omega) hv hB e63)
      · exact hbad (Or.inr (Or.inr h3))
    · exact hbad (Or.inr (Or.inl h2))
  · exact hbad (Or.inl h1)
