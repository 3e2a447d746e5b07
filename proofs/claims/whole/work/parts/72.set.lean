/-! ===== calls that set one thing ===== -/
theorem msk_upn {S : St} {k i : Nat} {v : Int32} (h : scr k = false) (h49 : k ≠ 49) : msk (up S k i v) = up (msk S) k i v := by
  funext j
  by_cases hj : j = k
  · subst hj
    rw [msk_at h h49, up_eq, up_eq, msk_at h h49]
  · rw [up_ne hj]
    unfold msk
    rw [up_ne hj, up_ne (Ne.symm h49)]
theorem msk_up49n {S : St} {i : Nat} {v : Int32} (h : (Nat.beq i 7 || Nat.beq i 8 || Nat.beq i 20) = false) : msk (up S 49 i v) = up (msk S) 49 i v := by
  funext j
  by_cases hj : j = 49
  · subst hj
    rw [up_eq]
    funext q
    show cond (Nat.beq q 7 || Nat.beq q 8 || Nat.beq q 20) 0 (up S 49 i v 49 q) = upd (msk S 49) i v q
    rw [up_eq]
    by_cases hq : q = i
    · subst hq
      rw [h, pk_us, pk_us]
      rfl
    · rw [pk_un hq, pk_un hq]
      rfl
  · rw [up_ne hj]
    unfold msk
    rw [up_ne hj]
    have h2 : Nat.beq j 49 = false := by
      cases hb : Nat.beq j 49 with
      | false => rfl
      | true => exact absurd (Nat.eq_of_beq_eq_true hb) hj
    rw [h2]
    rfl
theorem scr_lo {k : Nat} (h : k < 33) : scr k = false := by
  unfold scr
  cases hc : List.contains [33, 34, 35, 36, 37, 38, 40, 47, 53, 55, 64, 65, 66, 68, 69, 70, 71, 72] k with
  | false => rfl
  | true =>
    rw [List.contains_iff_mem] at hc
    simp only [List.mem_cons, List.not_mem_nil, or_false] at hc
    omega
theorem scr_mid {k : Nat} (h : 56 ≤ k) (h2 : k < 64) : scr k = false := by
  unfold scr
  cases hc : List.contains [33, 34, 35, 36, 37, 38, 40, 47, 53, 55, 64, 65, 66, 68, 69, 70, 71, 72] k with
  | false => rfl
  | true =>
    rw [List.contains_iff_mem] at hc
    simp only [List.mem_cons, List.not_mem_nil, or_false] at hc
    omega
theorem set_inv {w : gw} {S : St} {i K p R q : Nat} {v v' : Int32} (h : Inv w S i) (hi : i < 512) (hK : 2 ≤ K ∧ K < 25) (hR : 56 ≤ R ∧ R < 64) (hC : Cf (up (up (msk S) K p v) R q v')) : Inv w (up (up (up S K p v) 0 9 (S 0 9 + 1)) R q v') (i + 1) := by
  unfold Inv
  have e : msk (up (up (up S K p v) 0 9 (S 0 9 + 1)) R q v') = up (up (up (msk S) K p v) 0 9 (S 0 9 + 1)) R q v' := by
    rw [msk_upn (scr_mid hR.1 hR.2) (by omega), msk_upn (scr_lo (by omega)) (by omega), msk_upn (scr_lo (by omega)) (by omega)]
  rw [e]
  obtain ⟨h0, h1, h2, h3, h4, h5, h6⟩ := h
  have hne : ∀ k, k ≠ K → k ≠ 0 → k ≠ R → (up (up (up (msk S) K p v) 0 9 (S 0 9 + 1)) R q v') k = msk S k := fun k a1 a2 a3 => by
    rw [up_ne a3, up_ne a2, up_ne a1]
  have hz : ∀ j, j ≠ 9 → (up (up (up (msk S) K p v) 0 9 (S 0 9 + 1)) R q v') 0 j = msk S 0 j := fun j hj => by
    rw [up_ne (by omega), up_oth hj, up_ne (by omega)]
  refine ⟨w48_of h0 (hne 48 (by omega) (by omega) (by omega)), ?_, Tx_of h2 (by rw [hne 25 (by omega) (by omega) (by omega)]) (by rw [hne 49 (by omega) (by omega) (by omega)]) (hne 26 (by omega) (by omega) (by omega)) (hne 54 (by omega) (by omega) (by omega)), Sg_of h3 (by rw [hne 45 (by omega) (by omega) (by omega)]) (by rw [hne 49 (by omega) (by omega) (by omega)]) (hne 46 (by omega) (by omega) (by omega)) (hne 67 (by omega) (by omega) (by omega)) (by rw [hne 45 (by omega) (by omega) (by omega)]), Sh_of h4 (hne 48 (by omega) (by omega) (by omega)) (hne 50 (by omega) (by omega) (by omega)) (hne 51 (by omega) (by omega) (by omega)) (hne 52 (by omega) (by omega) (by omega)) (fun k hk => hne k (by omega) (by omega) (by omega)), ?_, ?_⟩
  · have e2 : ∀ k, k ≠ 0 → (up (up (up (msk S) K p v) 0 9 (S 0 9 + 1)) R q v') k = (up (up (msk S) K p v) R q v') k := by
      intro k hk
      by_cases hkR : k = R
      · subst hkR
        rw [up_eq, up_eq, up_ne hk]
      · rw [up_ne hkR, up_ne hkR, up_ne hk]
    obtain ⟨c1, c2, c3, c4, c5, c6, c7, c8, c9, c10⟩ := hC
    refine ⟨?_, ?_, ?_, ?_, ?_, ?_, ?_, ?_, ?_, ?_⟩
    · rw [e2 2 (by omega), e2 56 (by omega)]; exact c1
    · rw [e2 3 (by omega), e2 57 (by omega)]; exact c2
    · intro b e hb he; rw [e2 (5 + b) (by omega), e2 58 (by omega)]; exact c3 b e hb he
    · intro b e hb he; rw [e2 (11 + b) (by omega), e2 59 (by omega)]; exact c4 b e hb he
    · intro b hb; rw [e2 (17 + b) (by omega), e2 63 (by omega)]; exact c5 b hb
    · rw [e2 22 (by omega), e2 60 (by omega)]; exact c6
    · rw [e2 23 (by omega), e2 61 (by omega)]; exact c7
    · rw [e2 24 (by omega), e2 62 (by omega)]; exact c8
    · rw [e2 24 (by omega), e2 62 (by omega)]; exact c9
    · rw [e2 24 (by omega), e2 62 (by omega)]; exact c10
  · rw [hz 8 (by omega), hne 49 (by omega) (by omega) (by omega)]; exact h5
  · refine Ed_up (d := 1) h6 hi ⟨by omega, by omega⟩ ?_ (by rw [hne 27 (by omega) (by omega) (by omega)]) (by rw [hne 39 (by omega) (by omega) (by omega)]) (by rw [hne 43 (by omega) (by omega) (by omega)])
    rw [up_ne (by omega), up_self]
    rfl
/-- rows of class and reference that are alike -/
theorem pr_oth {T : St} {K R K' R' n hi p q : Nat} {v v' : Int32} (h : ∀ b, b < n → T K' b = T R' b ∧ sm (T R' b) hi) (h1 : K' ≠ K) (h2 : K' ≠ R) (h3 : R' ≠ K) (h4 : R' ≠ R) : ∀ b, b < n → (up (up T K p v) R q v') K' b = (up (up T K p v) R q v') R' b ∧ sm ((up (up T K p v) R q v') R' b) hi := by
  rw [up_ne h2, up_ne h1, up_ne h4, up_ne h3]
  exact h
theorem pr_set {T : St} {K R n hi j : Nat} {v : Int32} (h : ∀ b, b < n → T K b = T R b ∧ sm (T R b) hi) (hKR : K ≠ R) (hv : sm v hi) : ∀ b, b < n → (up (up T K j v) R j v) K b = (up (up T K j v) R j v) R b ∧ sm ((up (up T K j v) R j v) R b) hi := by
  intro b hb
  rw [up_ne hKR, up_eq, up_eq, up_ne (Ne.symm hKR)]
  by_cases hj : b = j
  · subst hj
    rw [pk_us, pk_us]
    exact ⟨rfl, hv⟩
  · rw [pk_un hj, pk_un hj]
    exact h b hb
/-- rows of rows -/
theorem gr_oth {T : St} {K R K0 R' n m hi p q g : Nat} {v v' : Int32} (h : ∀ b e, b < n → e < m → T (K0 + b) e = T R' (g * b + e) ∧ sm (T R' (g * b + e)) hi) (h1 : ∀ b, b < n → K0 + b ≠ K) (h2 : ∀ b, b < n → K0 + b ≠ R) (h3 : R' ≠ K) (h4 : R' ≠ R) : ∀ b e, b < n → e < m → (up (up T K p v) R q v') (K0 + b) e = (up (up T K p v) R q v') R' (g * b + e) ∧ sm ((up (up T K p v) R q v') R' (g * b + e)) hi := by
  intro b e hb he
  rw [up_ne (h2 b hb), up_ne (h1 b hb), up_ne h4, up_ne h3]
  exact h b e hb he
theorem gr_set {T : St} {R K0 n m hi b0 e0 : Nat} {v : Int32} (h : ∀ b e, b < n → e < m → T (K0 + b) e = T R (m * b + e) ∧ sm (T R (m * b + e)) hi) (h2 : ∀ b, b < n → K0 + b ≠ R) (hb0 : b0 < n) (he0 : e0 < m) (hv : sm v hi) : ∀ b e, b < n → e < m → (up (up T (K0 + b0) e0 v) R (m * b0 + e0) v) (K0 + b) e = (up (up T (K0 + b0) e0 v) R (m * b0 + e0) v) R (m * b + e) ∧ sm ((up (up T (K0 + b0) e0 v) R (m * b0 + e0) v) R (m * b + e)) hi := by
  intro b e hb he
  rw [up_ne (h2 b hb), up_eq, up_ne (Ne.symm (h2 b0 hb0))]
  by_cases hbb : b = b0
  · subst hbb
    rw [up_eq]
    by_cases hee : e = e0
    · subst hee
      rw [pk_us, pk_us]
      exact ⟨rfl, hv⟩
    · rw [pk_un hee, pk_un (by omega)]
      exact h b e hb he
  · rw [up_ne (by omega)]
    have hne : m * b + e ≠ m * b0 + e0 := by
      intro q
      rcases Nat.lt_or_ge b b0 with g | g
      · have : m * (b + 1) ≤ m * b0 := Nat.mul_le_mul_left m g
        rw [Nat.mul_succ] at this
        omega
      · have g2 : b0 + 1 ≤ b := by omega
        have : m * (b0 + 1) ≤ m * b := Nat.mul_le_mul_left m g2
        rw [Nat.mul_succ] at this
        omega
    rw [pk_un hne]
    exact h b e hb he
theorem bu_oth {T : St} {K R p q : Nat} {v v' : Int32} (h : ∀ b, b < 5 → ∃ B, B < 1024 ∧ T 63 b = nI B ∧ ∀ e, e < 10 → T (17 + b) e = nI (B / 2 ^ e % 2)) (h1 : ∀ b, b < 5 → 17 + b ≠ K) (h2 : ∀ b, b < 5 → 17 + b ≠ R) (h3 : 63 ≠ K) (h4 : 63 ≠ R) : ∀ b, b < 5 → ∃ B, B < 1024 ∧ (up (up T K p v) R q v') 63 b = nI B ∧ ∀ e, e < 10 → (up (up T K p v) R q v') (17 + b) e = nI (B / 2 ^ e % 2) := by
  intro b hb
  rw [up_ne h4, up_ne h3, up_ne (h2 b hb), up_ne (h1 b hb)]
  exact h b hb
theorem ru_oth {T : St} {K R p q : Nat} {v v' : Int32} (h1 : 24 ≠ K) (h2 : 24 ≠ R) (h3 : 62 ≠ K) (h4 : 62 ≠ R) : (up (up T K p v) R q v') 24 = T 24 ∧ (up (up T K p v) R q v') 62 = T 62 := by
  rw [up_ne h2, up_ne h1, up_ne h4, up_ne h3]
  exact ⟨rfl, rfl⟩
theorem Cf_purse {T : St} {b : Nat} {v : Int32} (h : Cf T) (hv : sm v 999) : Cf (up (up T 2 b v) 56 b v) := by
  obtain ⟨h1, h2, h3, h4, h5, h6, h7, h8, h9, h10⟩ := h
  obtain ⟨r1, r2⟩ := ru_oth (T := T) (K := 2) (R := 56) (p := b) (q := b) (v := v) (v' := v) (by decide) (by decide) (by decide) (by decide)
  exact ⟨pr_set h1 (by decide) hv, pr_oth h2 (by decide) (by decide) (by decide) (by decide), gr_oth h3 (fun b hb => by omega) (fun b hb => by omega) (by decide) (by decide), gr_oth h4 (fun b hb => by omega) (fun b hb => by omega) (by decide) (by decide), bu_oth h5 (fun b hb => by omega) (fun b hb => by omega) (by decide) (by decide), pr_oth h6 (by decide) (by decide) (by decide) (by decide), pr_oth h7 (by decide) (by decide) (by decide) (by decide), by rw [r1, r2]; exact h8, by rw [r1, r2]; exact h9, by rw [r1, r2]; exact h10⟩
theorem Cf_prog {T : St} {b : Nat} {v : Int32} (h : Cf T) (hv : sm v 4) : Cf (up (up T 3 b v) 57 b v) := by
  obtain ⟨h1, h2, h3, h4, h5, h6, h7, h8, h9, h10⟩ := h
  obtain ⟨r1, r2⟩ := ru_oth (T := T) (K := 3) (R := 57) (p := b) (q := b) (v := v) (v' := v) (by decide) (by decide) (by decide) (by decide)
  exact ⟨pr_oth h1 (by decide) (by decide) (by decide) (by decide), pr_set h2 (by decide) hv, gr_oth h3 (fun b hb => by omega) (fun b hb => by omega) (by decide) (by decide), gr_oth h4 (fun b hb => by omega) (fun b hb => by omega) (by decide) (by decide), bu_oth h5 (fun b hb => by omega) (fun b hb => by omega) (by decide) (by decide), pr_oth h6 (by decide) (by decide) (by decide) (by decide), pr_oth h7 (by decide) (by decide) (by decide) (by decide), by rw [r1, r2]; exact h8, by rw [r1, r2]; exact h9, by rw [r1, r2]; exact h10⟩
theorem Cf_reserve {T : St} {b : Nat} {v : Int32} (h : Cf T) (hv : sm v 99) : Cf (up (up T 22 b v) 60 b v) := by
  obtain ⟨h1, h2, h3, h4, h5, h6, h7, h8, h9, h10⟩ := h
  obtain ⟨r1, r2⟩ := ru_oth (T := T) (K := 22) (R := 60) (p := b) (q := b) (v := v) (v' := v) (by decide) (by decide) (by decide) (by decide)
  exact ⟨pr_oth h1 (by decide) (by decide) (by decide) (by decide), pr_oth h2 (by decide) (by decide) (by decide) (by decide), gr_oth h3 (fun b hb => by omega) (fun b hb => by omega) (by decide) (by decide), gr_oth h4 (fun b hb => by omega) (fun b hb => by omega) (by decide) (by decide), bu_oth h5 (fun b hb => by omega) (fun b hb => by omega) (by decide) (by decide), pr_set h6 (by decide) hv, pr_oth h7 (by decide) (by decide) (by decide) (by decide), by rw [r1, r2]; exact h8, by rw [r1, r2]; exact h9, by rw [r1, r2]; exact h10⟩
theorem Cf_cloud {T : St} {b : Nat} {v : Int32} (h : Cf T) (hv : sm v 16) : Cf (up (up T 23 b v) 61 b v) := by
  obtain ⟨h1, h2, h3, h4, h5, h6, h7, h8, h9, h10⟩ := h
  obtain ⟨r1, r2⟩ := ru_oth (T := T) (K := 23) (R := 61) (p := b) (q := b) (v := v) (v' := v) (by decide) (by decide) (by decide) (by decide)
  exact ⟨pr_oth h1 (by decide) (by decide) (by decide) (by decide), pr_oth h2 (by decide) (by decide) (by decide) (by decide), gr_oth h3 (fun b hb => by omega) (fun b hb => by omega) (by decide) (by decide), gr_oth h4 (fun b hb => by omega) (fun b hb => by omega) (by decide) (by decide), bu_oth h5 (fun b hb => by omega) (fun b hb => by omega) (by decide) (by decide), pr_oth h6 (by decide) (by decide) (by decide) (by decide), pr_set h7 (by decide) hv, by rw [r1, r2]; exact h8, by rw [r1, r2]; exact h9, by rw [r1, r2]; exact h10⟩
theorem Cf_value {T : St} {b e : Nat} {v : Int32} (h : Cf T) (hb : b < 5) (he : e < 10) (hv : sm v 99) : Cf (up (up T (5 + b) e v) 58 (10 * b + e) v) := by
  obtain ⟨h1, h2, h3, h4, h5, h6, h7, h8, h9, h10⟩ := h
  obtain ⟨r1, r2⟩ := ru_oth (T := T) (K := 5 + b) (R := 58) (p := e) (q := 10 * b + e) (v := v) (v' := v) (by omega) (by decide) (by omega) (by decide)
  exact ⟨pr_oth h1 (by omega) (by decide) (by omega) (by decide), pr_oth h2 (by omega) (by decide) (by omega) (by decide), gr_set h3 (fun b hb => by omega) hb he hv, gr_oth h4 (fun b hb => by omega) (fun b hb => by omega) (by omega) (by decide), bu_oth h5 (fun b hb => by omega) (fun b hb => by omega) (by omega) (by decide), pr_oth h6 (by omega) (by decide) (by omega) (by decide), pr_oth h7 (by omega) (by decide) (by omega) (by decide), by rw [r1, r2]; exact h8, by rw [r1, r2]; exact h9, by rw [r1, r2]; exact h10⟩
theorem Cf_joy {T : St} {b e : Nat} {v : Int32} (h : Cf T) (hb : b < 5) (he : e < 5) (hv : sm v 9) : Cf (up (up T (11 + b) e v) 59 (5 * b + e) v) := by
  obtain ⟨h1, h2, h3, h4, h5, h6, h7, h8, h9, h10⟩ := h
  obtain ⟨r1, r2⟩ := ru_oth (T := T) (K := 11 + b) (R := 59) (p := e) (q := 5 * b + e) (v := v) (v' := v) (by omega) (by decide) (by omega) (by decide)
  exact ⟨pr_oth h1 (by omega) (by decide) (by omega) (by decide), pr_oth h2 (by omega) (by decide) (by omega) (by decide), gr_oth h3 (fun b hb => by omega) (fun b hb => by omega) (by omega) (by decide), gr_set h4 (fun b hb => by omega) hb he hv, bu_oth h5 (fun b hb => by omega) (fun b hb => by omega) (by omega) (by decide), pr_oth h6 (by omega) (by decide) (by omega) (by decide), pr_oth h7 (by omega) (by decide) (by omega) (by decide), by rw [r1, r2]; exact h8, by rw [r1, r2]; exact h9, by rw [r1, r2]; exact h10⟩
theorem rep_t {S : St} {K n j : Nat} {x v : Int32} (hx : x = nI j) (hj : j < n) (hn : n < 2 ^ 31) (hK : K ≠ 0) : X_replace S K n x v = some (S K j, up (up S K j v) 0 9 (S 0 9 + 1)) := by
  subst hx
  unfold X_replace
  rw [chk_t (inb_nI hj hn), chk_t (inb_nI hj hn), ix_nI (by omega)]
  have e : (up S K j v) 0 9 = S 0 9 := by rw [up_ne (Ne.symm hK)]
  rw [e]
theorem tel_t {S : St} {K n j : Nat} {x v : Int32} (hx : x = nI j) (hj : j < n) (hn : n < 2 ^ 31) : M_tells S K n x v = some (S K j, up S K j v) := by
  subst hx
  unfold M_tells
  rw [chk_t (inb_nI hj hn), chk_t (inb_nI hj hn), ix_nI (by omega)]
theorem n10 : ¬ (1 : Int32) = 0 := by decide
theorem op_value {w : gw} {S : St} {i : Nat} (h : Inv w S i) (hi : i < 512) (a1 : Int32) (a2 : Int32) (a3 : Int32) : ∃ z1 z2, X_value S a1 a2 a3 = some z1 ∧ M_value z1.2 a1 a2 a3 = some z2 ∧ z1.1 = z2.1 ∧ Inv w z2.2 (i + 1) := by
  have hbad : (¬ sm a1 4 ∨ ¬ sm a2 9 ∨ ¬ sm a3 99) → ∃ z1 z2, X_value S a1 a2 a3 = some z1 ∧ M_value z1.2 a1 a2 a3 = some z2 ∧ z1.1 = z2.1 ∧ Inv w z2.2 (i + 1) := by
    intro hb
    refine ⟨(-2, S), (-2, S), ?_, ?_, rfl, Inv_next h⟩
    · unfold X_value X_isBidder X_isEvening X_isValue
      by_cases g1 : X_within a1 0 4 = 0
      · rw [if_pos g1]
      · rw [if_neg g1]
        by_cases g2 : X_within a2 0 9 = 0
        · rw [if_pos g2]
        · rw [if_neg g2]
          rw [if_pos]
          rcases hb with hb | hb | hb
          · exact absurd (xw_f hb (by decide)) g1
          · exact absurd (xw_f hb (by decide)) g2
          · exact xw_f hb (by decide)
    · show M_value S a1 a2 a3 = _
      unfold M_value M_isBidder M_isEvening
      by_cases g1 : M_in a1.toInt64 0 4 = 0
      · rw [if_pos g1]
      · rw [if_neg g1]
        by_cases g2 : M_in a2.toInt64 0 9 = 0
        · rw [if_pos g2]
        · rw [if_neg g2]
          rw [if_pos]
          rcases hb with hb | hb | hb
          · exact absurd (mi_f hb (by decide)) g1
          · exact absurd (mi_f hb (by decide)) g2
          · exact mi_f hb (by decide)
  rcases sm_or a1 4 with h1 | h1
  · rcases sm_or a2 9 with h2 | h2
    · rcases sm_or a3 99 with h3 | h3
      · obtain ⟨b, hb, rfl⟩ := id h1
        obtain ⟨e, he, rfl⟩ := id h2
        refine ⟨(S (5 + b) e, up (up S (5 + b) e a3) 0 9 (S 0 9 + 1)), (S 58 (10 * b + e), up (up (up S (5 + b) e a3) 0 9 (S 0 9 + 1)) 58 (10 * b + e) a3), ?_, ?_, ?_, ?_⟩
        · unfold X_value X_isBidder X_isEvening X_isValue
          rw [if_neg (by rw [show X_within (nI b) 0 4 = 1 from xw_t h1 (by decide)]; exact n10), if_neg (by rw [show X_within (nI e) 0 9 = 1 from xw_t h2 (by decide)]; exact n10), if_neg (by rw [show X_within a3 0 99 = 1 from xw_t h3 (by decide)]; exact n10), chk_t (inb_nI (by omega) (by decide)), ix_nI (by omega), bnd_t (rep_t rfl (by omega) (by decide) (by omega))]
        · show M_value (up (up S (5 + b) e a3) 0 9 (S 0 9 + 1)) _ _ _ = _
          unfold M_value M_isBidder M_isEvening
          rw [if_neg (by rw [show M_in (nI b).toInt64 0 4 = 1 from mi_t h1 (by decide)]; exact n10), if_neg (by rw [show M_in (nI e).toInt64 0 9 = 1 from mi_t h2 (by decide)]; exact n10), if_neg (by rw [show M_in a3.toInt64 0 99 = 1 from mi_t h3 (by decide)]; exact n10), bnd_t (tel_t (j := 10 * b + e) (by rw [show (10 : Int32) = nI 10 from rfl, pk_mul, nI_add]) (by omega) (by decide))]
          rw [up_ne (show 58 ≠ 0 by decide), up_ne (show 58 ≠ 5 + b by omega)]
        · have := (h.2.1.2.2.1 b e (by omega) (by omega)).1
          rw [mk_row S (by omega)] at this
          exact this
        · exact set_inv h hi ⟨by omega, by omega⟩ ⟨by decide, by decide⟩ (Cf_value h.2.1 (by omega) (by omega) h3)
      · exact hbad (Or.inr (Or.inr h3))
    · exact hbad (Or.inr (Or.inl h2))
  · exact hbad (Or.inl h1)
