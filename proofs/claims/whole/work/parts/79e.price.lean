/-! ===== prices ===== -/
theorem sec_inv (tx pu rs : Nat → Nat) (st ex : Nat) : ∀ k e, (jl tx pu rs st ex k e = 0 → ∀ j, j < k → hld tx pu rs st ex j = true → evk tx j ≠ e) ∧ (jl tx pu rs st ex k e = 0 → jsec tx pu rs st ex k e = 0) ∧ (jl tx pu rs st ex k e ≠ 0 → jsec tx pu rs st ex k e ≤ amk tx (jl tx pu rs st ex k e - 1)) ∧ (∀ j, j < k → hld tx pu rs st ex j = true → evk tx j = e → j + 1 ≠ jl tx pu rs st ex k e → amk tx j ≤ jsec tx pu rs st ex k e) ∧ (jsec tx pu rs st ex k e ≠ 0 → ∃ j, j < k ∧ hld tx pu rs st ex j = true ∧ evk tx j = e ∧ j + 1 ≠ jl tx pu rs st ex k e ∧ amk tx j = jsec tx pu rs st ex k e) ∧ (jl tx pu rs st ex k e ≠ 0 → hld tx pu rs st ex (jl tx pu rs st ex k e - 1) = true) := by
  intro k
  induction k with
  | zero => intro e; exact ⟨fun _ j hj => by omega, fun _ => rfl, fun h => absurd rfl h, fun j hj => by omega, fun h => absurd rfl h, fun h => absurd rfl h⟩
  | succ k ih =>
    intro e
    obtain ⟨i1, i2, i3, i4, i5, i6⟩ := ih e
    have hr := jl_rng tx pu rs st ex k e
    have hs : jsec tx pu rs st ex (k + 1) = if hld tx pu rs st ex k = true then updN (jsec tx pu rs st ex k) (evk tx k) (amX tx (jl tx pu rs st ex k) (evk tx k)) else jsec tx pu rs st ex k := rfl
    by_cases c : hld tx pu rs st ex k = true
    · rw [jl_s, hs, if_pos c, if_pos c]
      by_cases ce : e = evk tx k
      · subst ce
        rw [updN_s, updN_s]
        have hd1 := of_decide_eq_true (of_decide_eq_true c).2
        refine ⟨fun g => by omega, fun g => by omega, fun _ => ?_, fun j hj h1 h2 h3 => ?_, fun h => ?_, fun _ => by rw [Nat.add_sub_cancel]; exact c⟩
        · rw [Nat.add_sub_cancel]
          unfold amX
          by_cases c0 : jl tx pu rs st ex k (evk tx k) = 0
          · rw [if_pos c0]; omega
          · rw [if_neg c0]
            have := hd1.2.1
            omega
        · have hjk : j < k := by omega
          unfold amX
          by_cases c0 : jl tx pu rs st ex k (evk tx k) = 0
          · exact absurd h2 (i1 c0 j hjk h1)
          · rw [if_neg c0]
            by_cases c1 : j + 1 = jl tx pu rs st ex k (evk tx k)
            · rw [← c1, Nat.add_sub_cancel]; exact Nat.le_refl _
            · exact Nat.le_trans (i4 j hjk h1 h2 c1) (i3 c0)
        · unfold amX at h ⊢
          by_cases c0 : jl tx pu rs st ex k (evk tx k) = 0
          · rw [if_pos c0] at h; exact absurd rfl h
          · rw [if_neg c0]
            exact ⟨jl tx pu rs st ex k (evk tx k) - 1, by omega, i6 c0, hr.2 c0, by omega, rfl⟩
      · rw [updN_n ce, updN_n ce]
        refine ⟨fun g j hj h1 h2 => ?_, i2, i3, fun j hj h1 h2 h3 => ?_, fun h => ?_, i6⟩
        · by_cases cj : j = k
          · rw [cj] at h2; exact ce h2.symm
          · exact i1 g j (by omega) h1 h2
        · by_cases cj : j = k
          · rw [cj] at h2; exact absurd h2.symm ce
          · exact i4 j (by omega) h1 h2 h3
        · obtain ⟨j, g1, g2⟩ := i5 h
          exact ⟨j, by omega, g2⟩
    · rw [jl_s, hs, if_neg c, if_neg c]
      refine ⟨fun g j hj h1 h2 => ?_, i2, i3, fun j hj h1 h2 h3 => ?_, fun h => ?_, i6⟩
      · by_cases cj : j = k
        · rw [cj] at h1; exact c h1
        · exact i1 g j (by omega) h1 h2
      · by_cases cj : j = k
        · rw [cj] at h1; exact absurd h1 c
        · exact i4 j (by omega) h1 h2 h3
      · obtain ⟨j, g1, g2⟩ := i5 h
        exact ⟨j, by omega, g2⟩
/-- the reference's second price, as it goes through the bids -/
noncomputable def pmx (tx pu rs : Nat → Nat) (st ex N e : Nat) : Nat → Nat
  | 0 => rs e
  | j + 1 => if hld tx pu rs st ex j = true ∧ j + 1 ≠ jl tx pu rs st ex N e ∧ evk tx j = e then max (pmx tx pu rs st ex N e j) (amk tx j) else pmx tx pu rs st ex N e j
theorem pmx_b (tx pu rs : Nat → Nat) (st ex N e : Nat) : ∀ k, k ≤ N → rs e ≤ pmx tx pu rs st ex N e k ∧ (∀ j, j < k → hld tx pu rs st ex j = true → j + 1 ≠ jl tx pu rs st ex N e → evk tx j = e → amk tx j ≤ pmx tx pu rs st ex N e k) ∧ pmx tx pu rs st ex N e k ≤ max (jsec tx pu rs st ex N e) (rs e) := by
  intro k
  induction k with
  | zero => intro _; exact ⟨Nat.le_refl _, fun j hj => by omega, Nat.le_max_right _ _⟩
  | succ k ih =>
    intro hk
    obtain ⟨i1, i2, i3⟩ := ih (by omega)
    unfold pmx
    by_cases c : hld tx pu rs st ex k = true ∧ k + 1 ≠ jl tx pu rs st ex N e ∧ evk tx k = e
    · rw [if_pos c]
      have := (sec_inv tx pu rs st ex N e).2.2.2.1 k (by omega) c.1 c.2.2 c.2.1
      refine ⟨by omega, fun j hj h1 h2 h3 => ?_, by omega⟩
      by_cases cj : j = k
      · rw [cj]; omega
      · have := i2 j (by omega) h1 h2 h3
        omega
    · rw [if_neg c]
      refine ⟨i1, fun j hj h1 h2 h3 => ?_, i3⟩
      by_cases cj : j = k
      · rw [cj] at h1 h2 h3; exact absurd ⟨h1, h2, h3⟩ c
      · exact i2 j (by omega) h1 h2 h3
theorem pmx_eq (tx pu rs : Nat → Nat) (st ex N e : Nat) : pmx tx pu rs st ex N e N = max (jsec tx pu rs st ex N e) (rs e) := by
  obtain ⟨i1, i2, i3⟩ := pmx_b tx pu rs st ex N e N (Nat.le_refl _)
  have h5 := (sec_inv tx pu rs st ex N e).2.2.2.2.1
  by_cases c : jsec tx pu rs st ex N e = 0
  · omega
  · obtain ⟨j, g1, g2, g3, g4, g5⟩ := h5 c
    exact Nat.le_antisymm i3 (Nat.max_le.mpr ⟨by rw [← g5]; exact i2 j g1 g2 g4 g3, i1⟩)
theorem sec_le {tx pu rs : Nat → Nat} {st ex n e N : Nat} (hN : N ≤ nb tx n) : jsec tx pu rs st ex N e ≤ 99 := by
  have h5 := (sec_inv tx pu rs st ex N e).2.2.2.2.1
  by_cases c : jsec tx pu rs st ex N e = 0
  · omega
  · obtain ⟨j, g1, g2, g3, g4, g5⟩ := h5 c
    have := (bid_lt (tx := tx) (n := n) (k := j) (by omega)).2.2.2
    omega
noncomputable def seX (S : St) (e : Nat) : Nat := jsec (tX S) (pX S) (rX S) (sX S) 1000 (NX S) e
noncomputable def prX (S : St) (e : Nat) : Nat := if ix (S 62 1) = 0 then amX (tX S) (lX S) e else max (seX S e) (rX S e)
theorem seX_le (S : St) (e : Nat) : seX S e ≤ 99 := sec_le (n := nX S) (Nat.le_refl _)
theorem lX_bid (S : St) {e : Nat} (h : nX S ≤ 100) (c : lX S e ≠ 0) : lX S e - 1 < 20 ∧ lX S e - 1 < NX S ∧ evk (tX S) (lX S e - 1) = e ∧ bdk (tX S) (lX S e - 1) < 5 ∧ 1 ≤ amk (tX S) (lX S e - 1) ∧ amk (tX S) (lX S e - 1) ≤ 99 := by
  have h1 := jl_rng (tX S) (pX S) (rX S) (sX S) 1000 (NX S) e
  have h2 : NX S ≤ 20 := nb_le h
  have h3 : lX S e ≤ NX S := h1.1
  have h4 := bid_lt (tx := tX S) (n := nX S) (k := lX S e - 1) (show lX S e - 1 < NX S by omega)
  exact ⟨by omega, by omega, h1.2 c, h4.2⟩
theorem amX_le (S : St) (e : Nat) (h : nX S ≤ 100) : amX (tX S) (lX S) e ≤ 99 := by
  unfold amX
  by_cases c : lX S e = 0
  · rw [if_pos c]; omega
  · rw [if_neg c]; exact (lX_bid S h c).2.2.2.2.2
theorem prX_le {S : St} {e : Nat} (h : nX S ≤ 100) (hr : rX S e ≤ 99) : prX S e ≤ 99 := by
  unfold prX
  have := seX_le S e
  have := amX_le S e h
  split <;> omega
theorem Inv_rl {w : gw} {S : St} {i : Nat} (h : Inv w S i) : S 24 1 = S 62 1 ∧ S 62 1 = nI (ix (S 62 1)) ∧ ix (S 62 1) ≤ 1 := by
  obtain ⟨-, -, -, -, -, -, -, -, h9, -⟩ := h.2.1
  exact ⟨h9.1, sm_nI (show sm (S 62 1) 1 from h9.2) (by omega)⟩
theorem mx_nI {a b : Nat} (ha : a < 2147483648) (hb : b < 2147483648) : mx (nI a) (nI b) = nI (max a b) := by
  unfold mx
  by_cases c : a < b
  · try simp (disch := omega) only [↓m_1, n_0, n_1, n_2, n_3, n_4, n_5, n_6, n_7, n_8, n_9, n_10, n_16, n_20, n_24, n_31, n_32, n_48, n_52, n_57, n_59, n_60, n_64, n_100, n_1024, nI_add, pk_mul, pk_sub, leI_t, leI_f, ltI_t, ltI_f, eqI_t, eqI_f, geM_t, eqM_f, eqM_g, ltM_f, ltM_t, leM_f, inb_nI, ix_nI, chk_tt, bnd_ss, up_ne, up_self, up_oth, if_true, if_false, reduceCtorEq, Nat.succ_ne_zero]
    try rw [Nat.max_eq_right (by omega)]
  · try simp (disch := omega) only [↓m_1, n_0, n_1, n_2, n_3, n_4, n_5, n_6, n_7, n_8, n_9, n_10, n_16, n_20, n_24, n_31, n_32, n_48, n_52, n_57, n_59, n_60, n_64, n_100, n_1024, nI_add, pk_mul, pk_sub, leI_t, leI_f, ltI_t, ltI_f, eqI_t, eqI_f, geM_t, eqM_f, eqM_g, ltM_f, ltM_t, leM_f, inb_nI, ix_nI, chk_tt, bnd_ss, up_ne, up_self, up_oth, if_true, if_false, reduceCtorEq, Nat.succ_ne_zero]
    try rw [Nat.max_eq_left (by omega)]
theorem mn_nI {a b : Nat} (ha : a < 2147483648) (hb : b < 2147483648) : mn (nI a) (nI b) = nI (min a b) := by
  unfold mn
  by_cases c : b < a
  · try simp (disch := omega) only [↓m_1, n_0, n_1, n_2, n_3, n_4, n_5, n_6, n_7, n_8, n_9, n_10, n_16, n_20, n_24, n_31, n_32, n_48, n_52, n_57, n_59, n_60, n_64, n_100, n_1024, nI_add, pk_mul, pk_sub, leI_t, leI_f, ltI_t, ltI_f, eqI_t, eqI_f, geM_t, eqM_f, eqM_g, ltM_f, ltM_t, leM_f, inb_nI, ix_nI, chk_tt, bnd_ss, up_ne, up_self, up_oth, if_true, if_false, reduceCtorEq, Nat.succ_ne_zero]
    try rw [Nat.min_eq_right (by omega)]
  · try simp (disch := omega) only [↓m_1, n_0, n_1, n_2, n_3, n_4, n_5, n_6, n_7, n_8, n_9, n_10, n_16, n_20, n_24, n_31, n_32, n_48, n_52, n_57, n_59, n_60, n_64, n_100, n_1024, nI_add, pk_mul, pk_sub, leI_t, leI_f, ltI_t, ltI_f, eqI_t, eqI_f, geM_t, eqM_f, eqM_g, ltM_f, ltM_t, leM_f, inb_nI, ix_nI, chk_tt, bnd_ss, up_ne, up_self, up_oth, if_true, if_false, reduceCtorEq, Nat.succ_ne_zero]
    try rw [Nat.min_eq_left (by omega)]
theorem ocPrice_t {w : gw} {T : St} {i e : Nat} (h : Inv w T i) (hO : OcOK T) (he : e < 10) : OC_priceOf T (nI e) = some (nI (prX T e)) := by
  obtain ⟨r1, r2, r3⟩ := Inv_rl h
  have hn := (Inv_tx h).1
  obtain ⟨-, p2, -⟩ := Inv_pn h
  obtain ⟨o1, o2, o3⟩ := hO.2.2.1 e he
  have o2 : T 30 e = nI (amX (tX T) (lX T) e) := o2
  have o3 : T 31 e = nI (seX T e) := o3
  have p22 := p2.2.1 e he
  have s99 := seX_le T e
  unfold OC_priceOf prX
  rw [r1]
  generalize hv : ix (T 62 1) = v at *
  rw [r2]
  by_cases c : v = 0
  · rw [c]
    try simp (disch := omega) only [↓m_1, n_0, n_1, n_2, n_3, n_4, n_5, n_6, n_7, n_8, n_9, n_10, n_16, n_20, n_24, n_31, n_32, n_48, n_52, n_57, n_59, n_60, n_64, n_100, n_1024, nI_add, pk_mul, pk_sub, leI_t, leI_f, ltI_t, ltI_f, eqI_t, eqI_f, geM_t, eqM_f, eqM_g, ltM_f, ltM_t, leM_f, inb_nI, ix_nI, chk_tt, bnd_ss, up_ne, up_self, up_oth, if_true, if_false, reduceCtorEq, Nat.succ_ne_zero, o2]
  · rw [if_neg c]
    try simp (disch := omega) only [↓m_1, n_0, n_1, n_2, n_3, n_4, n_5, n_6, n_7, n_8, n_9, n_10, n_16, n_20, n_24, n_31, n_32, n_48, n_52, n_57, n_59, n_60, n_64, n_100, n_1024, nI_add, pk_mul, pk_sub, leI_t, leI_f, ltI_t, ltI_f, eqI_t, eqI_f, geM_t, eqM_f, eqM_g, ltM_f, ltM_t, leM_f, inb_nI, ix_nI, chk_tt, bnd_ss, up_ne, up_self, up_oth, if_true, if_false, reduceCtorEq, Nat.succ_ne_zero, o3, p22.1, mx_nI]
theorem mPrice_t {w : gw} {T U : St} {i e : Nat} (h : Inv w T i) (hM : MFs T U) (he : e < 10) : M_priceOf U (nI e) = some (if lX T e = 0 then -3 else nI (prX T e)) := by
  obtain ⟨r1, r2, r3⟩ := Inv_rl h
  have hn := (Inv_tx h).1
  obtain ⟨p1, -, -⟩ := Inv_pn h
  obtain ⟨hF, h8, hJ, h65, h20⟩ := hM
  have e62 : U 62 1 = nI (ix (T 62 1)) := by rw [hF.1 62 (by decide) (by decide) (by decide) (by decide)]; exact r2
  have e60 : U 60 e = nI (rX T e) := by rw [hF.1 60 (by decide) (by decide) (by decide) (by decide)]; exact (p1.2.1 e he).1
  have e99 := (p1.2.1 e he).2
  have s99 := seX_le T e
  have hN : NX T ≤ 20 := nb_le hn
  have e64 : U 64 e = ldM (lX T) e := hJ.2.2.1 e he
  unfold M_priceOf prX
  rw [chk_t (inb_nI he (by decide)), ix_nI (by omega), e64, e62, chk_t (inb_nI he (by decide)), e60, amountOf_t hJ he, bnd_ss]
  unfold ldM
  by_cases c0 : lX T e = 0
  · rw [if_pos c0, if_pos c0, if_pos (show mI = -1 from rfl)]
  · have hb := lX_bid T hn c0
    rw [if_neg c0, if_neg c0, if_neg (by try simp (disch := omega) only [↓m_1, n_0, n_1, n_2, n_3, n_4, n_5, n_6, n_7, n_8, n_9, n_10, n_16, n_20, n_24, n_31, n_32, n_48, n_52, n_57, n_59, n_60, n_64, n_100, n_1024, nI_add, pk_mul, pk_sub, leI_t, leI_f, ltI_t, ltI_f, eqI_t, eqI_f, geM_t, eqM_f, eqM_g, ltM_f, ltM_t, leM_f, inb_nI, ix_nI, chk_tt, bnd_ss, up_ne, up_self, up_oth, if_true, if_false, reduceCtorEq, Nat.succ_ne_zero]; exact fun g => g)]
    by_cases c : ix (T 62 1) = 0
    · rw [c, if_pos rfl, if_pos (show nI 0 = 0 from rfl)]
    · rw [if_neg c, if_neg (by rw [n_0]; try simp (disch := omega) only [↓m_1, n_0, n_1, n_2, n_3, n_4, n_5, n_6, n_7, n_8, n_9, n_10, n_16, n_20, n_24, n_31, n_32, n_48, n_52, n_57, n_59, n_60, n_64, n_100, n_1024, nI_add, pk_mul, pk_sub, leI_t, leI_f, ltI_t, ltI_f, eqI_t, eqI_f, geM_t, eqM_f, eqM_g, ltM_f, ltM_t, leM_f, inb_nI, ix_nI, chk_tt, bnd_ss, up_ne, up_self, up_oth, if_true, if_false, reduceCtorEq, Nat.succ_ne_zero]; exact fun g => g)]
      have hpm : ∀ k, k ≤ NX T → pmx (tX T) (pX T) (rX T) (sX T) 1000 (NX T) e k ≤ 99 := fun k hk => by
        have h1 := (pmx_b (tX T) (pX T) (rX T) (sX T) 1000 (NX T) e k hk).2.2
        have h2 : jsec (tX T) (pX T) (rX T) (sX T) 1000 (NX T) e ≤ 99 := s99
        omega
      have hl : lp (σ := Int32 × Int32) (fun q => M_priceOf_L37 U (nI e) q.1 q.2) FZ (nI (rX T e), 0) = some ((nI (pmx (tX T) (pX T) (rX T) (sX T) 1000 (NX T) e (NX T)), nI (NX T)), 1) := by
        refine lp_1 (fun j => (nI (pmx (tX T) (pX T) (rX T) (sX T) 1000 (NX T) e j), nI j)) (NX T) rfl ?_ ?_ (by omega)
        · intro j hj
          dsimp only
          obtain ⟨b1, b2, b3⟩ := hJ.2.1 j hj
          obtain ⟨q1, q2, q3, q4⟩ := bid_lt (tx := tX T) (n := nX T) hj
          have hm := hpm j (by omega)
          have hps : pmx (tX T) (pX T) (rX T) (sX T) 1000 (NX T) e (j + 1) = if hld (tX T) (pX T) (rX T) (sX T) 1000 j = true ∧ j + 1 ≠ lX T e ∧ evk (tX T) j = e then max (pmx (tX T) (pX T) (rX T) (sX T) 1000 (NX T) e j) (amk (tX T) j) else pmx (tX T) (pX T) (rX T) (sX T) 1000 (NX T) e j := rfl
          rw [hps]
          unfold M_priceOf_L37
          rw [h8]
          try simp (disch := omega) only [↓m_1, n_0, n_1, n_2, n_3, n_4, n_5, n_6, n_7, n_8, n_9, n_10, n_16, n_20, n_24, n_31, n_32, n_48, n_52, n_57, n_59, n_60, n_64, n_100, n_1024, nI_add, pk_mul, pk_sub, leI_t, leI_f, ltI_t, ltI_f, eqI_t, eqI_f, geM_t, eqM_f, eqM_g, ltM_f, ltM_t, leM_f, inb_nI, ix_nI, chk_tt, bnd_ss, up_ne, up_self, up_oth, if_true, if_false, reduceCtorEq, Nat.succ_ne_zero, h65 j hj, e64, b1]
          unfold ldM
          rw [if_neg c0]
          have h80 : M_priceOf_J80 U (nI e) (nI (pmx (tX T) (pX T) (rX T) (sX T) 1000 (NX T) e j)) (nI j) = some ((nI (pmx (tX T) (pX T) (rX T) (sX T) 1000 (NX T) e j), nI (j + 1)), 0) := by
            unfold M_priceOf_J80 M_priceOf_J81
            try simp (disch := omega) only [↓m_1, n_0, n_1, n_2, n_3, n_4, n_5, n_6, n_7, n_8, n_9, n_10, n_16, n_20, n_24, n_31, n_32, n_48, n_52, n_57, n_59, n_60, n_64, n_100, n_1024, nI_add, pk_mul, pk_sub, leI_t, leI_f, ltI_t, ltI_f, eqI_t, eqI_f, geM_t, eqM_f, eqM_g, ltM_f, ltM_t, leM_f, inb_nI, ix_nI, chk_tt, bnd_ss, up_ne, up_self, up_oth, if_true, if_false, reduceCtorEq, Nat.succ_ne_zero]
          have h81 : M_priceOf_J81 U (nI e) (nI (pmx (tX T) (pX T) (rX T) (sX T) 1000 (NX T) e j)) (nI j) (nI 1) = some ((nI (max (pmx (tX T) (pX T) (rX T) (sX T) 1000 (NX T) e j) (amk (tX T) j)), nI (j + 1)), 0) := by
            unfold M_priceOf_J81
            try simp (disch := omega) only [↓m_1, n_0, n_1, n_2, n_3, n_4, n_5, n_6, n_7, n_8, n_9, n_10, n_16, n_20, n_24, n_31, n_32, n_48, n_52, n_57, n_59, n_60, n_64, n_100, n_1024, nI_add, pk_mul, pk_sub, leI_t, leI_f, ltI_t, ltI_f, eqI_t, eqI_f, geM_t, eqM_f, eqM_g, ltM_f, ltM_t, leM_f, inb_nI, ix_nI, chk_tt, bnd_ss, up_ne, up_self, up_oth, if_true, if_false, reduceCtorEq, Nat.succ_ne_zero, b3]
            by_cases d : amk (tX T) j ≤ pmx (tX T) (pX T) (rX T) (sX T) 1000 (NX T) e j
            · try simp (disch := omega) only [↓m_1, n_0, n_1, n_2, n_3, n_4, n_5, n_6, n_7, n_8, n_9, n_10, n_16, n_20, n_24, n_31, n_32, n_48, n_52, n_57, n_59, n_60, n_64, n_100, n_1024, nI_add, pk_mul, pk_sub, leI_t, leI_f, ltI_t, ltI_f, eqI_t, eqI_f, geM_t, eqM_f, eqM_g, ltM_f, ltM_t, leM_f, inb_nI, ix_nI, chk_tt, bnd_ss, up_ne, up_self, up_oth, if_true, if_false, reduceCtorEq, Nat.succ_ne_zero]
              try rw [Nat.max_eq_left d]
            · try simp (disch := omega) only [↓m_1, n_0, n_1, n_2, n_3, n_4, n_5, n_6, n_7, n_8, n_9, n_10, n_16, n_20, n_24, n_31, n_32, n_48, n_52, n_57, n_59, n_60, n_64, n_100, n_1024, nI_add, pk_mul, pk_sub, leI_t, leI_f, ltI_t, ltI_f, eqI_t, eqI_f, geM_t, eqM_f, eqM_g, ltM_f, ltM_t, leM_f, inb_nI, ix_nI, chk_tt, bnd_ss, up_ne, up_self, up_oth, if_true, if_false, reduceCtorEq, Nat.succ_ne_zero]
              try rw [Nat.max_eq_right (by omega)]
          rw [h80, h81]
          by_cases d1 : hld (tX T) (pX T) (rX T) (sX T) 1000 j = true
          · rw [if_pos d1, if_neg (by try simp (disch := omega) only [↓m_1, n_0, n_1, n_2, n_3, n_4, n_5, n_6, n_7, n_8, n_9, n_10, n_16, n_20, n_24, n_31, n_32, n_48, n_52, n_57, n_59, n_60, n_64, n_100, n_1024, nI_add, pk_mul, pk_sub, leI_t, leI_f, ltI_t, ltI_f, eqI_t, eqI_f, geM_t, eqM_f, eqM_g, ltM_f, ltM_t, leM_f, inb_nI, ix_nI, chk_tt, bnd_ss, up_ne, up_self, up_oth, if_true, if_false, reduceCtorEq, Nat.succ_ne_zero]; exact fun g => g)]
            by_cases d2 : j + 1 = lX T e
            · rw [if_pos (by rw [nI_eq (by omega) (by omega)]; omega), if_neg (fun g => g.2.1 d2)]
            · rw [if_neg (by rw [nI_eq (by omega) (by omega)]; omega)]
              by_cases d3 : evk (tX T) j = e
              · rw [if_pos (by rw [d3]), if_pos ⟨d1, d2, d3⟩]
              · rw [if_neg (by rw [nI_eq (by omega) (by omega)]; exact d3), if_neg (fun g => d3 g.2.2)]
          · rw [if_neg d1, if_pos rfl, if_neg (fun g => d1 g.1)]
        · dsimp only
          unfold M_priceOf_L37
          rw [h8]
          try simp (disch := omega) only [↓m_1, n_0, n_1, n_2, n_3, n_4, n_5, n_6, n_7, n_8, n_9, n_10, n_16, n_20, n_24, n_31, n_32, n_48, n_52, n_57, n_59, n_60, n_64, n_100, n_1024, nI_add, pk_mul, pk_sub, leI_t, leI_f, ltI_t, ltI_f, eqI_t, eqI_f, geM_t, eqM_f, eqM_g, ltM_f, ltM_t, leM_f, inb_nI, ix_nI, chk_tt, bnd_ss, up_ne, up_self, up_oth, if_true, if_false, reduceCtorEq, Nat.succ_ne_zero]
      rw [hl, bnd_ss, pmx_eq]
      rfl
