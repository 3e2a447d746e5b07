/-! ===== the text: what fits, the first that doesn't, the bids ===== -/
theorem ff_le (tx : Nat → Nat) : ∀ n, ff tx n ≤ n := by
  intro n
  induction n with
  | zero => exact Nat.le_refl 0
  | succ n ih =>
    unfold ff
    split
    · omega
    · split <;> omega
theorem ff_fit (tx : Nat → Nat) : ∀ n p, p < ff tx n → fit tx p = true := by
  intro n
  induction n with
  | zero => intro p hp; exact absurd hp (Nat.not_lt_zero p)
  | succ n ih =>
    intro p hp
    unfold ff at hp
    have hl := ff_le tx n
    by_cases h1 : ff tx n < n
    · rw [if_pos h1] at hp; exact ih p hp
    · rw [if_neg h1] at hp
      by_cases h2 : fit tx n = true
      · rw [if_pos h2] at hp
        by_cases h3 : p = n
        · rw [h3]; exact h2
        · exact ih p (by omega)
      · rw [if_neg h2] at hp
        exact ih p (by omega)
theorem ff_not (tx : Nat → Nat) : ∀ n, ff tx n < n → ¬ fit tx (ff tx n) = true := by
  intro n
  induction n with
  | zero => intro h; exact absurd h (Nat.not_lt_zero _)
  | succ n ih =>
    intro h
    have hl := ff_le tx n
    unfold ff at h ⊢
    by_cases h1 : ff tx n < n
    · rw [if_pos h1]; exact ih h1
    · rw [if_neg h1] at h ⊢
      by_cases h2 : fit tx n = true
      · rw [if_pos h2] at h; omega
      · rw [if_neg h2]; exact h2
theorem ff_at {tx : Nat → Nat} {n f : Nat} (h1 : f ≤ n) (h2 : ∀ p, p < f → fit tx p = true) (h3 : f < n → ¬ fit tx f = true) : ff tx n = f := by
  have a := ff_le tx n
  have b := ff_fit tx n
  have c := ff_not tx n
  rcases Nat.lt_trichotomy (ff tx n) f with h | h | h
  · exact absurd (h2 _ h) (c (by omega))
  · exact h
  · exact absurd (b _ h) (h3 (by omega))
theorem fit_0 {tx : Nat → Nat} {k : Nat} (h : fit tx (5 * k) = true) : 48 ≤ tx (5 * k) ∧ tx (5 * k) ≤ 57 := by
  unfold fit at h
  rw [if_neg (by omega), if_neg (by omega), if_neg (by omega), decide_eq_true_eq] at h
  exact h
theorem fit_1 {tx : Nat → Nat} {k : Nat} (h : fit tx (5 * k + 1) = true) : 48 ≤ tx (5 * k + 1) ∧ tx (5 * k + 1) ≤ 52 := by
  unfold fit at h
  rw [if_pos (by omega), decide_eq_true_eq] at h
  exact h
theorem fit_2 {tx : Nat → Nat} {k : Nat} (h : fit tx (5 * k + 2) = true) : 48 ≤ tx (5 * k + 2) ∧ tx (5 * k + 2) ≤ 57 := by
  unfold fit at h
  rw [if_neg (by omega), if_neg (by omega), if_neg (by omega), decide_eq_true_eq] at h
  exact h
theorem fit_3 {tx : Nat → Nat} {k : Nat} (h : fit tx (5 * k + 3) = true) : 48 ≤ tx (5 * k + 3) ∧ tx (5 * k + 3) ≤ 57 ∧ ¬ (tx (5 * k + 3) = 48 ∧ tx (5 * k + 2) = 48) := by
  unfold fit at h
  rw [if_neg (by omega), if_pos (by omega), decide_eq_true_eq] at h
  exact h
theorem nb_le {tx : Nat → Nat} {n : Nat} (hn : n ≤ 100) : nb tx n ≤ 20 := by
  unfold nb
  split
  · omega
  · split
    · rename_i h; rcases h with h | h <;> omega
    · omega
theorem nb_n {tx : Nat → Nat} {n k : Nat} (h : k < nb tx n) : n = 5 * nb tx n - 1 ∧ ff tx n = n := by
  have hl := ff_le tx n
  unfold nb at h ⊢
  by_cases h1 : ff tx n < n
  · rw [if_pos h1] at h; omega
  · rw [if_neg h1] at h ⊢
    by_cases h2 : n = 0 ∨ n % 5 = 4
    · rw [if_pos h2] at h ⊢
      rcases h2 with h2 | h2 <;> omega
    · rw [if_neg h2] at h; omega
theorem bid_rng {tx : Nat → Nat} {n k : Nat} (h : k < nb tx n) : (48 ≤ tx (5 * k) ∧ tx (5 * k) ≤ 57) ∧ (48 ≤ tx (5 * k + 1) ∧ tx (5 * k + 1) ≤ 52) ∧ (48 ≤ tx (5 * k + 2) ∧ tx (5 * k + 2) ≤ 57) ∧ (48 ≤ tx (5 * k + 3) ∧ tx (5 * k + 3) ≤ 57) ∧ ¬ (tx (5 * k + 3) = 48 ∧ tx (5 * k + 2) = 48) := by
  obtain ⟨h1, h2⟩ := nb_n h
  have hf := ff_fit tx n
  have h3 := fit_3 (hf (5 * k + 3) (by omega))
  exact ⟨fit_0 (hf (5 * k) (by omega)), fit_1 (hf (5 * k + 1) (by omega)), fit_2 (hf (5 * k + 2) (by omega)), ⟨h3.1, h3.2.1⟩, h3.2.2⟩
theorem bid_lt {tx : Nat → Nat} {n k : Nat} (h : k < nb tx n) : evk tx k < 10 ∧ bdk tx k < 5 ∧ 1 ≤ amk tx k ∧ amk tx k ≤ 99 := by
  obtain ⟨h1, h2, h3, h4, h5⟩ := bid_rng h
  unfold evk bdk amk
  omega
theorem xw_n {a lo hi : Nat} (ha : a < 2147483648) (hl : lo < 2147483648) (hh : hi < 2147483648) : X_within (nI a) (nI lo) (nI hi) = if lo ≤ a ∧ a ≤ hi then 1 else 0 := by
  unfold X_within
  by_cases h1 : a < lo
  · rw [if_pos ((nI_ltI (by omega) (by omega)).mpr h1), if_neg (by omega)]
  · rw [if_neg (fun g => h1 ((nI_ltI (by omega) (by omega)).mp g))]
    by_cases h2 : hi < a
    · rw [if_pos ((nI_ltI (by omega) (by omega)).mpr h2), if_neg (by omega)]
    · rw [if_neg (fun g => h2 ((nI_ltI (by omega) (by omega)).mp g)), if_pos (by omega)]
theorem rem5 {a : Nat} (ha : a < 2147483648) : nI a - nI a / nI 5 * nI 5 = nI (a % 5) := pk_rem (by omega) (by omega) (by omega)
theorem BT_fits_t {S : St} {tx : Nat → Nat} {n j : Nat} (hn : n ≤ 100) (ht : ∀ j, j < n → S 26 j = nI (tx j) ∧ tx j ≤ 255) (hj : j < n) : BT_fits S (nI j) = some (if fit tx j = true then 1 else 0) := by
  obtain ⟨e, h255⟩ := ht j hj
  unfold BT_fits
  rw [n_5, rem5 (by omega)]
  try simp (disch := omega) only [↓m_1, n_0, n_1, n_2, n_3, n_4, n_5, n_6, n_7, n_8, n_9, n_10, n_16, n_20, n_24, n_31, n_32, n_48, n_52, n_57, n_59, n_60, n_64, n_100, n_1024, nI_add, pk_mul, pk_sub, leI_t, leI_f, ltI_t, ltI_f, eqI_t, eqI_f, geM_t, eqM_f, eqM_g, ltM_f, ltM_t, leM_f, inb_nI, ix_nI, chk_tt, bnd_ss, up_ne, up_self, up_oth, if_true, if_false, reduceCtorEq, Nat.succ_ne_zero, e]
  unfold fit
  by_cases h1 : j % 5 = 1
  · try simp (disch := omega) only [↓m_1, n_0, n_1, n_2, n_3, n_4, n_5, n_6, n_7, n_8, n_9, n_10, n_16, n_20, n_24, n_31, n_32, n_48, n_52, n_57, n_59, n_60, n_64, n_100, n_1024, nI_add, pk_mul, pk_sub, leI_t, leI_f, ltI_t, ltI_f, eqI_t, eqI_f, geM_t, eqM_f, eqM_g, ltM_f, ltM_t, leM_f, inb_nI, ix_nI, chk_tt, bnd_ss, up_ne, up_self, up_oth, if_true, if_false, reduceCtorEq, Nat.succ_ne_zero, h1, xw_n, decide_eq_true_eq]
  · rw [if_neg h1]
    by_cases h3 : j % 5 = 3
    · obtain ⟨e2, h2552⟩ := ht (j - 1) (by omega)
      try simp (disch := omega) only [↓m_1, n_0, n_1, n_2, n_3, n_4, n_5, n_6, n_7, n_8, n_9, n_10, n_16, n_20, n_24, n_31, n_32, n_48, n_52, n_57, n_59, n_60, n_64, n_100, n_1024, nI_add, pk_mul, pk_sub, leI_t, leI_f, ltI_t, ltI_f, eqI_t, eqI_f, geM_t, eqM_f, eqM_g, ltM_f, ltM_t, leM_f, inb_nI, ix_nI, chk_tt, bnd_ss, up_ne, up_self, up_oth, if_true, if_false, reduceCtorEq, Nat.succ_ne_zero, h3, e2]
      unfold BT_fits_J72 BT_fits_J73
      try simp (disch := omega) only [↓m_1, n_0, n_1, n_2, n_3, n_4, n_5, n_6, n_7, n_8, n_9, n_10, n_16, n_20, n_24, n_31, n_32, n_48, n_52, n_57, n_59, n_60, n_64, n_100, n_1024, nI_add, pk_mul, pk_sub, leI_t, leI_f, ltI_t, ltI_f, eqI_t, eqI_f, geM_t, eqM_f, eqM_g, ltM_f, ltM_t, leM_f, inb_nI, ix_nI, chk_tt, bnd_ss, up_ne, up_self, up_oth, if_true, if_false, reduceCtorEq, Nat.succ_ne_zero, xw_n, decide_eq_true_eq]
      by_cases c1 : tx j = 48
      · rw [if_pos (show 48 ≤ tx j ∧ tx j ≤ 57 by omega)]
        by_cases c2 : tx (j - 1) = 48
        · rw [if_neg (show ¬ (48 ≤ tx j ∧ tx j ≤ 57 ∧ ¬ (tx j = 48 ∧ tx (j - 1) = 48)) by omega)]
          try simp (disch := omega) only [↓m_1, n_0, n_1, n_2, n_3, n_4, n_5, n_6, n_7, n_8, n_9, n_10, n_16, n_20, n_24, n_31, n_32, n_48, n_52, n_57, n_59, n_60, n_64, n_100, n_1024, nI_add, pk_mul, pk_sub, leI_t, leI_f, ltI_t, ltI_f, eqI_t, eqI_f, geM_t, eqM_f, eqM_g, ltM_f, ltM_t, leM_f, inb_nI, ix_nI, chk_tt, bnd_ss, up_ne, up_self, up_oth, if_true, if_false, reduceCtorEq, Nat.succ_ne_zero]
        · rw [if_pos (show (48 ≤ tx j ∧ tx j ≤ 57 ∧ ¬ (tx j = 48 ∧ tx (j - 1) = 48)) by omega)]
          try simp (disch := omega) only [↓m_1, n_0, n_1, n_2, n_3, n_4, n_5, n_6, n_7, n_8, n_9, n_10, n_16, n_20, n_24, n_31, n_32, n_48, n_52, n_57, n_59, n_60, n_64, n_100, n_1024, nI_add, pk_mul, pk_sub, leI_t, leI_f, ltI_t, ltI_f, eqI_t, eqI_f, geM_t, eqM_f, eqM_g, ltM_f, ltM_t, leM_f, inb_nI, ix_nI, chk_tt, bnd_ss, up_ne, up_self, up_oth, if_true, if_false, reduceCtorEq, Nat.succ_ne_zero]
      · by_cases c2 : 48 ≤ tx j ∧ tx j ≤ 57
        · rw [if_pos c2, if_pos (show (48 ≤ tx j ∧ tx j ≤ 57 ∧ ¬ (tx j = 48 ∧ tx (j - 1) = 48)) by omega)]
          try simp (disch := omega) only [↓m_1, n_0, n_1, n_2, n_3, n_4, n_5, n_6, n_7, n_8, n_9, n_10, n_16, n_20, n_24, n_31, n_32, n_48, n_52, n_57, n_59, n_60, n_64, n_100, n_1024, nI_add, pk_mul, pk_sub, leI_t, leI_f, ltI_t, ltI_f, eqI_t, eqI_f, geM_t, eqM_f, eqM_g, ltM_f, ltM_t, leM_f, inb_nI, ix_nI, chk_tt, bnd_ss, up_ne, up_self, up_oth, if_true, if_false, reduceCtorEq, Nat.succ_ne_zero]
        · rw [if_neg c2, if_neg (show ¬ (48 ≤ tx j ∧ tx j ≤ 57 ∧ ¬ (tx j = 48 ∧ tx (j - 1) = 48)) by omega)]
          try simp (disch := omega) only [↓m_1, n_0, n_1, n_2, n_3, n_4, n_5, n_6, n_7, n_8, n_9, n_10, n_16, n_20, n_24, n_31, n_32, n_48, n_52, n_57, n_59, n_60, n_64, n_100, n_1024, nI_add, pk_mul, pk_sub, leI_t, leI_f, ltI_t, ltI_f, eqI_t, eqI_f, geM_t, eqM_f, eqM_g, ltM_f, ltM_t, leM_f, inb_nI, ix_nI, chk_tt, bnd_ss, up_ne, up_self, up_oth, if_true, if_false, reduceCtorEq, Nat.succ_ne_zero]
    · rw [if_neg h3]
      by_cases h4 : j % 5 = 4
      · try simp (disch := omega) only [↓m_1, n_0, n_1, n_2, n_3, n_4, n_5, n_6, n_7, n_8, n_9, n_10, n_16, n_20, n_24, n_31, n_32, n_48, n_52, n_57, n_59, n_60, n_64, n_100, n_1024, nI_add, pk_mul, pk_sub, leI_t, leI_f, ltI_t, ltI_f, eqI_t, eqI_f, geM_t, eqM_f, eqM_g, ltM_f, ltM_t, leM_f, inb_nI, ix_nI, chk_tt, bnd_ss, up_ne, up_self, up_oth, if_true, if_false, reduceCtorEq, Nat.succ_ne_zero, h4, decide_eq_true_eq]
        by_cases c1 : tx j = 59
        · try simp (disch := omega) only [↓m_1, n_0, n_1, n_2, n_3, n_4, n_5, n_6, n_7, n_8, n_9, n_10, n_16, n_20, n_24, n_31, n_32, n_48, n_52, n_57, n_59, n_60, n_64, n_100, n_1024, nI_add, pk_mul, pk_sub, leI_t, leI_f, ltI_t, ltI_f, eqI_t, eqI_f, geM_t, eqM_f, eqM_g, ltM_f, ltM_t, leM_f, inb_nI, ix_nI, chk_tt, bnd_ss, up_ne, up_self, up_oth, if_true, if_false, reduceCtorEq, Nat.succ_ne_zero, c1]
        · try simp (disch := omega) only [↓m_1, n_0, n_1, n_2, n_3, n_4, n_5, n_6, n_7, n_8, n_9, n_10, n_16, n_20, n_24, n_31, n_32, n_48, n_52, n_57, n_59, n_60, n_64, n_100, n_1024, nI_add, pk_mul, pk_sub, leI_t, leI_f, ltI_t, ltI_f, eqI_t, eqI_f, geM_t, eqM_f, eqM_g, ltM_f, ltM_t, leM_f, inb_nI, ix_nI, chk_tt, bnd_ss, up_ne, up_self, up_oth, if_true, if_false, reduceCtorEq, Nat.succ_ne_zero, c1]
      · rw [if_neg h4]
        try simp (disch := omega) only [↓m_1, n_0, n_1, n_2, n_3, n_4, n_5, n_6, n_7, n_8, n_9, n_10, n_16, n_20, n_24, n_31, n_32, n_48, n_52, n_57, n_59, n_60, n_64, n_100, n_1024, nI_add, pk_mul, pk_sub, leI_t, leI_f, ltI_t, ltI_f, eqI_t, eqI_f, geM_t, eqM_f, eqM_g, ltM_f, ltM_t, leM_f, inb_nI, ix_nI, chk_tt, bnd_ss, up_ne, up_self, up_oth, if_true, if_false, reduceCtorEq, Nat.succ_ne_zero, xw_n, decide_eq_true_eq]
theorem BT_parse_t {S : St} {tx : Nat → Nat} {n : Nat} (hn : n ≤ 100) (h1 : S 25 1 = nI n) (ht : ∀ j, j < n → S 26 j = nI (tx j) ∧ tx j ≤ 255) : ∃ T, BT_parse S = some T ∧ T 25 2 = flt tx n ∧ T 25 3 = nI (nb tx n) ∧ T 25 1 = nI n ∧ ∀ k, k ≠ 25 → T k = S k := by
  obtain ⟨r, hr, hP1, hP2, hP3⟩ := lp_inv (st := fun q : Int32 × St => BT_parse_L7 q.2 q.1) (fun j q => j ≤ n ∧ q.1 = nI j ∧ (ff tx j = j ∨ ff tx j + 1 = j ∧ ff tx n = ff tx j) ∧ q.2 25 1 = nI n ∧ q.2 25 2 = (if ff tx j < j then nI (ff tx j) else mI) ∧ ∀ k, k ≠ 25 → q.2 k = S k) n (fun r => r.1.2 25 2 = (if ff tx n < n then nI (ff tx n) else mI) ∧ r.1.2 25 1 = nI n ∧ ∀ k, k ≠ 25 → r.1.2 k = S k) (by omega) (fun j q h => by
    obtain ⟨hj, hq, hf, g1, g2, g3⟩ := h
    obtain ⟨x, T⟩ := q
    have hq : x = nI j := hq
    subst hq
    have g1 : T 25 1 = nI n := g1
    have g2 : T 25 2 = (if ff tx j < j then nI (ff tx j) else mI) := g2
    have g3 : ∀ k, k ≠ 25 → T k = S k := g3
    show ∃ r, BT_parse_L7 T (nI j) = some r ∧ _
    unfold BT_parse_L7
    rw [g1, g2]
    by_cases hjn : j = n
    · subst hjn
      try simp (disch := omega) only [↓m_1, n_0, n_1, n_2, n_3, n_4, n_5, n_6, n_7, n_8, n_9, n_10, n_16, n_20, n_24, n_31, n_32, n_48, n_52, n_57, n_59, n_60, n_64, n_100, n_1024, nI_add, pk_mul, pk_sub, leI_t, leI_f, ltI_t, ltI_f, eqI_t, eqI_f, geM_t, eqM_f, eqM_g, ltM_f, ltM_t, leM_f, inb_nI, ix_nI, chk_tt, bnd_ss, up_ne, up_self, up_oth, if_true, if_false, reduceCtorEq, Nat.succ_ne_zero]
      exact ⟨_, rfl, Or.inr ⟨Nat.succ_ne_zero 0, g2, g1, g3⟩⟩
    · try simp (disch := omega) only [↓m_1, n_0, n_1, n_2, n_3, n_4, n_5, n_6, n_7, n_8, n_9, n_10, n_16, n_20, n_24, n_31, n_32, n_48, n_52, n_57, n_59, n_60, n_64, n_100, n_1024, nI_add, pk_mul, pk_sub, leI_t, leI_f, ltI_t, ltI_f, eqI_t, eqI_f, geM_t, eqM_f, eqM_g, ltM_f, ltM_t, leM_f, inb_nI, ix_nI, chk_tt, bnd_ss, up_ne, up_self, up_oth, if_true, if_false, reduceCtorEq, Nat.succ_ne_zero]
      have hl := ff_le tx j
      rcases hf with hf | ⟨hf, hf2⟩
      · have ht' : ∀ j, j < n → T 26 j = nI (tx j) ∧ tx j ≤ 255 := by rw [g3 26 (by omega)]; exact ht
        rw [if_neg (show ¬ ff tx j < j by omega), if_pos rfl, BT_fits_t hn ht' (by omega), bnd_ss]
        have hs : ff tx (j + 1) = if fit tx j = true then j + 1 else j := by
          show (if ff tx j < j then ff tx j else if fit tx j = true then j + 1 else j) = _
          rw [if_neg (by omega)]
        by_cases c : fit tx j = true
        · rw [if_pos c] at hs ⊢
          try simp (disch := omega) only [↓m_1, n_0, n_1, n_2, n_3, n_4, n_5, n_6, n_7, n_8, n_9, n_10, n_16, n_20, n_24, n_31, n_32, n_48, n_52, n_57, n_59, n_60, n_64, n_100, n_1024, nI_add, pk_mul, pk_sub, leI_t, leI_f, ltI_t, ltI_f, eqI_t, eqI_f, geM_t, eqM_f, eqM_g, ltM_f, ltM_t, leM_f, inb_nI, ix_nI, chk_tt, bnd_ss, up_ne, up_self, up_oth, if_true, if_false, reduceCtorEq, Nat.succ_ne_zero]
          refine ⟨_, rfl, Or.inl ⟨rfl, by omega, by omega, rfl, Or.inl hs, g1, ?_, g3⟩⟩
          show T 25 2 = _
          rw [hs, if_neg (by omega), g2, if_neg (by omega)]
        · rw [if_neg c] at hs ⊢
          try simp (disch := omega) only [↓m_1, n_0, n_1, n_2, n_3, n_4, n_5, n_6, n_7, n_8, n_9, n_10, n_16, n_20, n_24, n_31, n_32, n_48, n_52, n_57, n_59, n_60, n_64, n_100, n_1024, nI_add, pk_mul, pk_sub, leI_t, leI_f, ltI_t, ltI_f, eqI_t, eqI_f, geM_t, eqM_f, eqM_g, ltM_f, ltM_t, leM_f, inb_nI, ix_nI, chk_tt, bnd_ss, up_ne, up_self, up_oth, if_true, if_false, reduceCtorEq, Nat.succ_ne_zero]
          refine ⟨_, rfl, Or.inl ⟨rfl, by omega, by omega, rfl, Or.inr ⟨by rw [hs], ?_⟩, ?_, ?_, ?_⟩⟩
          · rw [hs]
            exact ff_at (by omega) (fun p hp => ff_fit tx j p (by omega)) (fun _ => c)
          · try simp (disch := omega) only [↓m_1, n_0, n_1, n_2, n_3, n_4, n_5, n_6, n_7, n_8, n_9, n_10, n_16, n_20, n_24, n_31, n_32, n_48, n_52, n_57, n_59, n_60, n_64, n_100, n_1024, nI_add, pk_mul, pk_sub, leI_t, leI_f, ltI_t, ltI_f, eqI_t, eqI_f, geM_t, eqM_f, eqM_g, ltM_f, ltM_t, leM_f, inb_nI, ix_nI, chk_tt, bnd_ss, up_ne, up_self, up_oth, if_true, if_false, reduceCtorEq, Nat.succ_ne_zero]; exact g1
          · show up T 25 2 (nI j) 25 2 = _
            rw [up_self, hs, if_pos (by omega)]
          · intro k hk
            show up T 25 2 (nI j) k = S k
            rw [up_ne hk, g3 k hk]
      · rw [if_pos (show ff tx j < j by omega)]
        try simp (disch := omega) only [↓m_1, n_0, n_1, n_2, n_3, n_4, n_5, n_6, n_7, n_8, n_9, n_10, n_16, n_20, n_24, n_31, n_32, n_48, n_52, n_57, n_59, n_60, n_64, n_100, n_1024, nI_add, pk_mul, pk_sub, leI_t, leI_f, ltI_t, ltI_f, eqI_t, eqI_f, geM_t, eqM_f, eqM_g, ltM_f, ltM_t, leM_f, inb_nI, ix_nI, chk_tt, bnd_ss, up_ne, up_self, up_oth, if_true, if_false, reduceCtorEq, Nat.succ_ne_zero]
        refine ⟨_, rfl, Or.inr ⟨Nat.succ_ne_zero 0, ?_, g1, g3⟩⟩
        show T 25 2 = _
        rw [g2, hf2, if_pos (by omega), if_pos (by omega)]) (q0 := (0, up S 25 2 (-1))) ⟨Nat.zero_le n, rfl, Or.inl rfl, (show up S 25 2 mI 25 1 = nI n by rw [up_oth (by decide)]; exact h1), (show up S 25 2 mI 25 2 = _ by rw [up_self]; rfl), fun k hk => up_ne hk⟩
  obtain ⟨⟨x, T⟩, t⟩ := r
  have hP1 : T 25 2 = (if ff tx n < n then nI (ff tx n) else mI) := hP1
  have hP2 : T 25 1 = nI n := hP2
  have hP3 : ∀ k, k ≠ 25 → T k = S k := hP3
  have hl := ff_le tx n
  unfold BT_parse
  rw [hr, bnd_ss]
  show ∃ T', BT_parse_J42 T = some T' ∧ _
  have key : ∀ (U : St) (v : Int32) (m : Nat), U 25 2 = v → U 25 1 = nI n → (∀ k, k ≠ 25 → U k = S k) → BT_parse_J85 U = some (up U 25 3 (nI m)) → v = flt tx n → m = nb tx n → ∃ T', BT_parse_J85 U = some T' ∧ T' 25 2 = flt tx n ∧ T' 25 3 = nI (nb tx n) ∧ T' 25 1 = nI n ∧ ∀ k, k ≠ 25 → T' k = S k := by
    intro U v m a1 a2 a3 a4 a5 a6
    refine ⟨_, a4, ?_, ?_, ?_, ?_⟩
    · rw [up_oth (by decide), a1, a5]
    · rw [up_self, a6]
    · rw [up_oth (by decide), a2]
    · intro k hk; rw [up_ne hk, a3 k hk]
  unfold BT_parse_J42 BT_parse_J59 BT_parse_J64
  rw [hP2, hP1, n_5, rem5 (by omega)]
  by_cases c : ff tx n < n
  · rw [if_pos c]
    have e5 : BT_parse_J85 T = some (up T 25 3 (nI 0)) := by
      unfold BT_parse_J85
      rw [hP1, if_pos c]
      try simp (disch := omega) only [↓m_1, n_0, n_1, n_2, n_3, n_4, n_5, n_6, n_7, n_8, n_9, n_10, n_16, n_20, n_24, n_31, n_32, n_48, n_52, n_57, n_59, n_60, n_64, n_100, n_1024, nI_add, pk_mul, pk_sub, leI_t, leI_f, ltI_t, ltI_f, eqI_t, eqI_f, geM_t, eqM_f, eqM_g, ltM_f, ltM_t, leM_f, inb_nI, ix_nI, chk_tt, bnd_ss, up_ne, up_self, up_oth, if_true, if_false, reduceCtorEq, Nat.succ_ne_zero]
    have hk := key T _ 0 hP1 hP2 hP3 e5 (by unfold flt; rw [if_pos c, if_pos c]) (by unfold nb; rw [if_pos c])
    try simp (disch := omega) only [↓m_1, n_0, n_1, n_2, n_3, n_4, n_5, n_6, n_7, n_8, n_9, n_10, n_16, n_20, n_24, n_31, n_32, n_48, n_52, n_57, n_59, n_60, n_64, n_100, n_1024, nI_add, pk_mul, pk_sub, leI_t, leI_f, ltI_t, ltI_f, eqI_t, eqI_f, geM_t, eqM_f, eqM_g, ltM_f, ltM_t, leM_f, inb_nI, ix_nI, chk_tt, bnd_ss, up_ne, up_self, up_oth, if_true, if_false, reduceCtorEq, Nat.succ_ne_zero]
    by_cases c2 : n = 0
    · try simp (disch := omega) only [↓m_1, n_0, n_1, n_2, n_3, n_4, n_5, n_6, n_7, n_8, n_9, n_10, n_16, n_20, n_24, n_31, n_32, n_48, n_52, n_57, n_59, n_60, n_64, n_100, n_1024, nI_add, pk_mul, pk_sub, leI_t, leI_f, ltI_t, ltI_f, eqI_t, eqI_f, geM_t, eqM_f, eqM_g, ltM_f, ltM_t, leM_f, inb_nI, ix_nI, chk_tt, bnd_ss, up_ne, up_self, up_oth, if_true, if_false, reduceCtorEq, Nat.succ_ne_zero, c2]; rw [c2] at hk; exact hk
    · try simp (disch := omega) only [↓m_1, n_0, n_1, n_2, n_3, n_4, n_5, n_6, n_7, n_8, n_9, n_10, n_16, n_20, n_24, n_31, n_32, n_48, n_52, n_57, n_59, n_60, n_64, n_100, n_1024, nI_add, pk_mul, pk_sub, leI_t, leI_f, ltI_t, ltI_f, eqI_t, eqI_f, geM_t, eqM_f, eqM_g, ltM_f, ltM_t, leM_f, inb_nI, ix_nI, chk_tt, bnd_ss, up_ne, up_self, up_oth, if_true, if_false, reduceCtorEq, Nat.succ_ne_zero]
      by_cases c3 : n % 5 = 4
      · try simp (disch := omega) only [↓m_1, n_0, n_1, n_2, n_3, n_4, n_5, n_6, n_7, n_8, n_9, n_10, n_16, n_20, n_24, n_31, n_32, n_48, n_52, n_57, n_59, n_60, n_64, n_100, n_1024, nI_add, pk_mul, pk_sub, leI_t, leI_f, ltI_t, ltI_f, eqI_t, eqI_f, geM_t, eqM_f, eqM_g, ltM_f, ltM_t, leM_f, inb_nI, ix_nI, chk_tt, bnd_ss, up_ne, up_self, up_oth, if_true, if_false, reduceCtorEq, Nat.succ_ne_zero, c3]; exact hk
      · try simp (disch := omega) only [↓m_1, n_0, n_1, n_2, n_3, n_4, n_5, n_6, n_7, n_8, n_9, n_10, n_16, n_20, n_24, n_31, n_32, n_48, n_52, n_57, n_59, n_60, n_64, n_100, n_1024, nI_add, pk_mul, pk_sub, leI_t, leI_f, ltI_t, ltI_f, eqI_t, eqI_f, geM_t, eqM_f, eqM_g, ltM_f, ltM_t, leM_f, inb_nI, ix_nI, chk_tt, bnd_ss, up_ne, up_self, up_oth, if_true, if_false, reduceCtorEq, Nat.succ_ne_zero]; exact hk
  · rw [if_neg c]
    by_cases c2 : n = 0 ∨ n % 5 = 4
    · have e5 : BT_parse_J85 T = some (up T 25 3 (nI ((n + 1) / 5))) := by
        unfold BT_parse_J85
        rw [hP1, if_neg c, hP2]
        try simp (disch := omega) only [↓m_1, n_0, n_1, n_2, n_3, n_4, n_5, n_6, n_7, n_8, n_9, n_10, n_16, n_20, n_24, n_31, n_32, n_48, n_52, n_57, n_59, n_60, n_64, n_100, n_1024, nI_add, pk_mul, pk_sub, leI_t, leI_f, ltI_t, ltI_f, eqI_t, eqI_f, geM_t, eqM_f, eqM_g, ltM_f, ltM_t, leM_f, inb_nI, ix_nI, chk_tt, bnd_ss, up_ne, up_self, up_oth, if_true, if_false, reduceCtorEq, Nat.succ_ne_zero, pk_div]
      have hk := key T _ _ hP1 hP2 hP3 e5 (by unfold flt; rw [if_neg c, if_neg c, if_pos c2]) (by unfold nb; rw [if_neg c, if_pos c2])
      try simp (disch := omega) only [↓m_1, n_0, n_1, n_2, n_3, n_4, n_5, n_6, n_7, n_8, n_9, n_10, n_16, n_20, n_24, n_31, n_32, n_48, n_52, n_57, n_59, n_60, n_64, n_100, n_1024, nI_add, pk_mul, pk_sub, leI_t, leI_f, ltI_t, ltI_f, eqI_t, eqI_f, geM_t, eqM_f, eqM_g, ltM_f, ltM_t, leM_f, inb_nI, ix_nI, chk_tt, bnd_ss, up_ne, up_self, up_oth, if_true, if_false, reduceCtorEq, Nat.succ_ne_zero]
      by_cases c3 : n = 0
      · subst c3
        try simp (disch := omega) only [↓m_1, n_0, n_1, n_2, n_3, n_4, n_5, n_6, n_7, n_8, n_9, n_10, n_16, n_20, n_24, n_31, n_32, n_48, n_52, n_57, n_59, n_60, n_64, n_100, n_1024, nI_add, pk_mul, pk_sub, leI_t, leI_f, ltI_t, ltI_f, eqI_t, eqI_f, geM_t, eqM_f, eqM_g, ltM_f, ltM_t, leM_f, inb_nI, ix_nI, chk_tt, bnd_ss, up_ne, up_self, up_oth, if_true, if_false, reduceCtorEq, Nat.succ_ne_zero]; exact hk
      · have c4 : n % 5 = 4 := by omega
        try simp (disch := omega) only [↓m_1, n_0, n_1, n_2, n_3, n_4, n_5, n_6, n_7, n_8, n_9, n_10, n_16, n_20, n_24, n_31, n_32, n_48, n_52, n_57, n_59, n_60, n_64, n_100, n_1024, nI_add, pk_mul, pk_sub, leI_t, leI_f, ltI_t, ltI_f, eqI_t, eqI_f, geM_t, eqM_f, eqM_g, ltM_f, ltM_t, leM_f, inb_nI, ix_nI, chk_tt, bnd_ss, up_ne, up_self, up_oth, if_true, if_false, reduceCtorEq, Nat.succ_ne_zero, c4]; exact hk
    · have c3 : ¬ n = 0 := fun g => c2 (Or.inl g)
      have c4 : ¬ n % 5 = 4 := fun g => c2 (Or.inr g)
      try simp (disch := omega) only [↓m_1, n_0, n_1, n_2, n_3, n_4, n_5, n_6, n_7, n_8, n_9, n_10, n_16, n_20, n_24, n_31, n_32, n_48, n_52, n_57, n_59, n_60, n_64, n_100, n_1024, nI_add, pk_mul, pk_sub, leI_t, leI_f, ltI_t, ltI_f, eqI_t, eqI_f, geM_t, eqM_f, eqM_g, ltM_f, ltM_t, leM_f, inb_nI, ix_nI, chk_tt, bnd_ss, up_ne, up_self, up_oth, if_true, if_false, reduceCtorEq, Nat.succ_ne_zero]
      have e5 : BT_parse_J85 (up T 25 2 (nI n)) = some (up (up T 25 2 (nI n)) 25 3 (nI 0)) := by
        unfold BT_parse_J85
        try simp (disch := omega) only [↓m_1, n_0, n_1, n_2, n_3, n_4, n_5, n_6, n_7, n_8, n_9, n_10, n_16, n_20, n_24, n_31, n_32, n_48, n_52, n_57, n_59, n_60, n_64, n_100, n_1024, nI_add, pk_mul, pk_sub, leI_t, leI_f, ltI_t, ltI_f, eqI_t, eqI_f, geM_t, eqM_f, eqM_g, ltM_f, ltM_t, leM_f, inb_nI, ix_nI, chk_tt, bnd_ss, up_ne, up_self, up_oth, if_true, if_false, reduceCtorEq, Nat.succ_ne_zero]
      exact key (up T 25 2 (nI n)) (nI n) 0 up_self (by rw [up_oth (by decide), hP2]) (fun k hk => by rw [up_ne hk, hP3 k hk]) e5 (by unfold flt; rw [if_neg c, if_neg c2]) (by unfold nb; rw [if_neg c, if_neg c2])
