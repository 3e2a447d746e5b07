/-! ===== the class judges the bids ===== -/
def PNX (T : St) (pu rs : Nat → Nat) (st : Nat) : Prop := (∀ b, b < 5 → T 2 b = nI (pu b) ∧ pu b ≤ 999) ∧ (∀ e, e < 10 → T 22 e = nI (rs e) ∧ rs e ≤ 99) ∧ T 24 0 = nI st ∧ st ≤ 20
theorem bids_e {S T : St} {tx : Nat → Nat} {n k : Nat} (hn : n ≤ 100) (ht : ∀ j, j < n → S 26 j = nI (tx j) ∧ tx j ≤ 255) (hT : T 26 = S 26) (hk : k < nb tx n) : BT_eveningOf T (nI k) = some (nI (evk tx k)) := by
  have h20 := nb_le (tx := tx) hn
  obtain ⟨a1, a2, a3, a4, a5⟩ := bid_rng hk
  obtain ⟨b1, b2⟩ := nb_n hk
  unfold BT_eveningOf evk
  rw [hT]
  try simp (disch := omega) only [↓m_1, n_0, n_1, n_2, n_3, n_4, n_5, n_6, n_7, n_8, n_9, n_10, n_16, n_20, n_24, n_31, n_32, n_48, n_52, n_57, n_59, n_60, n_64, n_100, n_1024, nI_add, pk_mul, pk_sub, leI_t, leI_f, ltI_t, ltI_f, eqI_t, eqI_f, geM_t, eqM_f, eqM_g, ltM_f, ltM_t, leM_f, inb_nI, ix_nI, chk_tt, bnd_ss, up_ne, up_self, up_oth, if_true, if_false, reduceCtorEq, Nat.succ_ne_zero, Nat.mul_comm k 5, (ht (5 * k) (by omega)).1]
theorem bids_b {S T : St} {tx : Nat → Nat} {n k : Nat} (hn : n ≤ 100) (ht : ∀ j, j < n → S 26 j = nI (tx j) ∧ tx j ≤ 255) (hT : T 26 = S 26) (hk : k < nb tx n) : BT_bidderOf T (nI k) = some (nI (bdk tx k)) := by
  have h20 := nb_le (tx := tx) hn
  obtain ⟨a1, a2, a3, a4, a5⟩ := bid_rng hk
  obtain ⟨b1, b2⟩ := nb_n hk
  unfold BT_bidderOf bdk
  rw [hT]
  try simp (disch := omega) only [↓m_1, n_0, n_1, n_2, n_3, n_4, n_5, n_6, n_7, n_8, n_9, n_10, n_16, n_20, n_24, n_31, n_32, n_48, n_52, n_57, n_59, n_60, n_64, n_100, n_1024, nI_add, pk_mul, pk_sub, leI_t, leI_f, ltI_t, ltI_f, eqI_t, eqI_f, geM_t, eqM_f, eqM_g, ltM_f, ltM_t, leM_f, inb_nI, ix_nI, chk_tt, bnd_ss, up_ne, up_self, up_oth, if_true, if_false, reduceCtorEq, Nat.succ_ne_zero, Nat.mul_comm k 5, (ht (5 * k + 1) (by omega)).1]
theorem bids_a {S T : St} {tx : Nat → Nat} {n k : Nat} (hn : n ≤ 100) (ht : ∀ j, j < n → S 26 j = nI (tx j) ∧ tx j ≤ 255) (hT : T 26 = S 26) (hk : k < nb tx n) : BT_amountOf T (nI k) = some (nI (amk tx k)) := by
  have h20 := nb_le (tx := tx) hn
  obtain ⟨a1, a2, a3, a4, a5⟩ := bid_rng hk
  obtain ⟨b1, b2⟩ := nb_n hk
  unfold BT_amountOf amk
  rw [hT]
  try simp (disch := omega) only [↓m_1, n_0, n_1, n_2, n_3, n_4, n_5, n_6, n_7, n_8, n_9, n_10, n_16, n_20, n_24, n_31, n_32, n_48, n_52, n_57, n_59, n_60, n_64, n_100, n_1024, nI_add, pk_mul, pk_sub, leI_t, leI_f, ltI_t, ltI_f, eqI_t, eqI_f, geM_t, eqM_f, eqM_g, ltM_f, ltM_t, leM_f, inb_nI, ix_nI, chk_tt, bnd_ss, up_ne, up_self, up_oth, if_true, if_false, reduceCtorEq, Nat.succ_ne_zero, Nat.mul_comm k 5, (ht (5 * k + 2) (by omega)).1, (ht (5 * k + 3) (by omega)).1]
  rw [show (tx (5 * k + 2) - 48) * 10 + tx (5 * k + 3) - 48 = 10 * (tx (5 * k + 2) - 48) + (tx (5 * k + 3) - 48) by omega]

/-- the class's rows ahead of bid k -/
def XKF (S T : St) : Prop := ∀ r, r ≠ 27 → r ≠ 28 → r ≠ 29 → r ≠ 30 → r ≠ 31 → r ≠ 32 → T r = S r
def XK (S : St) (tx pu rs : Nat → Nat) (st ex k : Nat) (T : St) : Prop := XKF S T ∧ (∀ j, j ≠ 5 → j ≠ 6 → T 27 j = S 27 j) ∧ (∀ e, e < 10 → T 29 e = ldX tx (jl tx pu rs st ex k) e ∧ T 30 e = nI (amX tx (jl tx pu rs st ex k) e) ∧ T 31 e = nI (jsec tx pu rs st ex k e)) ∧ (∀ b, b < 5 → T 32 b = nI (bsum tx (jl tx pu rs st ex k) b 10)) ∧ (∀ j, j < k → T 28 j = if hld tx pu rs st ex j = true then 1 else 0) ∧ T 27 5 = nI (nh tx pu rs st ex k) ∧ ((∀ k, k < 20 → k ≠ ex) → T 27 6 = (if fn tx pu rs st ex k = 0 then mI else nI (fn tx pu rs st ex k - 1)))
theorem oclear_t {S : St} {tx pu rs : Nat → Nat} {st ex : Nat} : ∃ T, OC_clear S = some T ∧ XK S tx pu rs st ex 0 T := by
  obtain ⟨q, hq, q1, q2, q3⟩ := lp_cnt (st := fun q : Int32 × St => OC_clear_L2 q.2 q.1) (fun j q => q.1 = nI j ∧ (XKF S q.2 ∧ q.2 27 = S 27) ∧ (∀ e, e < j → q.2 29 e = mI ∧ q.2 30 e = nI 0 ∧ q.2 31 e = nI 0)) 10 (by decide) (q0 := (0, S)) ⟨rfl, ⟨fun _ _ _ _ _ _ _ => rfl, rfl⟩, fun e h => by omega⟩ (fun j q hj h => by
    obtain ⟨x, T⟩ := q
    obtain ⟨h1, ⟨h2, h4⟩, h3⟩ := h
    dsimp only at h1 h2 h3 h4
    subst h1
    try dsimp only
    unfold OC_clear_L2
    try simp (disch := omega) only [↓m_1, n_0, n_1, n_2, n_3, n_4, n_5, n_6, n_7, n_8, n_9, n_10, n_16, n_20, n_24, n_31, n_32, n_48, n_52, n_57, n_59, n_60, n_64, n_100, n_1024, nI_add, pk_mul, pk_sub, leI_t, leI_f, ltI_t, ltI_f, eqI_t, eqI_f, geM_t, eqM_f, eqM_g, ltM_f, ltM_t, leM_f, inb_nI, ix_nI, chk_tt, bnd_ss, up_ne, up_self, up_oth, if_true, if_false, reduceCtorEq, Nat.succ_ne_zero]
    refine ⟨_, rfl, rfl, ⟨fun r a b c d e f => ?_, ?_⟩, fun e h => ?_⟩
    · try dsimp only
      rw [up_ne e, up_ne d, up_ne c, h2 r a b c d e f]
    · try dsimp only
      rw [up_ne (by decide), up_ne (by decide), up_ne (by decide), h4]
    · try dsimp only
      by_cases c : e = j
      · subst c
        try simp (disch := omega) only [↓m_1, n_0, n_1, n_2, n_3, n_4, n_5, n_6, n_7, n_8, n_9, n_10, n_16, n_20, n_24, n_31, n_32, n_48, n_52, n_57, n_59, n_60, n_64, n_100, n_1024, nI_add, pk_mul, pk_sub, leI_t, leI_f, ltI_t, ltI_f, eqI_t, eqI_f, geM_t, eqM_f, eqM_g, ltM_f, ltM_t, leM_f, inb_nI, ix_nI, chk_tt, bnd_ss, up_ne, up_self, up_oth, if_true, if_false, reduceCtorEq, Nat.succ_ne_zero]
        exact ⟨True.intro, True.intro, True.intro⟩
      · have := h3 e (by omega)
        try simp (disch := omega) only [↓m_1, n_0, n_1, n_2, n_3, n_4, n_5, n_6, n_7, n_8, n_9, n_10, n_16, n_20, n_24, n_31, n_32, n_48, n_52, n_57, n_59, n_60, n_64, n_100, n_1024, nI_add, pk_mul, pk_sub, leI_t, leI_f, ltI_t, ltI_f, eqI_t, eqI_f, geM_t, eqM_f, eqM_g, ltM_f, ltM_t, leM_f, inb_nI, ix_nI, chk_tt, bnd_ss, up_ne, up_self, up_oth, if_true, if_false, reduceCtorEq, Nat.succ_ne_zero]
        exact this) (fun q h => by
    obtain ⟨x, T⟩ := q
    obtain ⟨h1, -⟩ := h
    dsimp only at h1
    subst h1
    try dsimp only
    unfold OC_clear_L2
    try simp (disch := omega) only [↓m_1, n_0, n_1, n_2, n_3, n_4, n_5, n_6, n_7, n_8, n_9, n_10, n_16, n_20, n_24, n_31, n_32, n_48, n_52, n_57, n_59, n_60, n_64, n_100, n_1024, nI_add, pk_mul, pk_sub, leI_t, leI_f, ltI_t, ltI_f, eqI_t, eqI_f, geM_t, eqM_f, eqM_g, ltM_f, ltM_t, leM_f, inb_nI, ix_nI, chk_tt, bnd_ss, up_ne, up_self, up_oth, if_true, if_false, reduceCtorEq, Nat.succ_ne_zero])
  obtain ⟨x, T⟩ := q
  dsimp only at q1 q2 q3
  unfold OC_clear
  rw [hq, bnd_ss]
  unfold OC_clear_J35
  obtain ⟨r, hr, r1, r2, r3⟩ := lp_cnt (st := fun q : Int32 × St => OC_clear_L37 q.2 q.1) (fun j q => q.1 = nI j ∧ (∀ r, r ≠ 32 → q.2 r = T r) ∧ (∀ e, e < j → q.2 32 e = nI 0)) 5 (by decide) (q0 := (0, T)) ⟨rfl, fun _ _ => rfl, fun e h => by omega⟩ (fun j q hj h => by
    obtain ⟨x, U⟩ := q
    obtain ⟨h1, h2, h3⟩ := h
    dsimp only at h1 h2 h3
    subst h1
    try dsimp only
    unfold OC_clear_L37
    try simp (disch := omega) only [↓m_1, n_0, n_1, n_2, n_3, n_4, n_5, n_6, n_7, n_8, n_9, n_10, n_16, n_20, n_24, n_31, n_32, n_48, n_52, n_57, n_59, n_60, n_64, n_100, n_1024, nI_add, pk_mul, pk_sub, leI_t, leI_f, ltI_t, ltI_f, eqI_t, eqI_f, geM_t, eqM_f, eqM_g, ltM_f, ltM_t, leM_f, inb_nI, ix_nI, chk_tt, bnd_ss, up_ne, up_self, up_oth, if_true, if_false, reduceCtorEq, Nat.succ_ne_zero]
    refine ⟨_, rfl, rfl, fun r a => ?_, fun e h => ?_⟩
    · try dsimp only
      rw [up_ne a, h2 r a]
    · try dsimp only
      by_cases c : e = j
      · subst c
        try simp (disch := omega) only [↓m_1, n_0, n_1, n_2, n_3, n_4, n_5, n_6, n_7, n_8, n_9, n_10, n_16, n_20, n_24, n_31, n_32, n_48, n_52, n_57, n_59, n_60, n_64, n_100, n_1024, nI_add, pk_mul, pk_sub, leI_t, leI_f, ltI_t, ltI_f, eqI_t, eqI_f, geM_t, eqM_f, eqM_g, ltM_f, ltM_t, leM_f, inb_nI, ix_nI, chk_tt, bnd_ss, up_ne, up_self, up_oth, if_true, if_false, reduceCtorEq, Nat.succ_ne_zero]
      · have := h3 e (by omega)
        try simp (disch := omega) only [↓m_1, n_0, n_1, n_2, n_3, n_4, n_5, n_6, n_7, n_8, n_9, n_10, n_16, n_20, n_24, n_31, n_32, n_48, n_52, n_57, n_59, n_60, n_64, n_100, n_1024, nI_add, pk_mul, pk_sub, leI_t, leI_f, ltI_t, ltI_f, eqI_t, eqI_f, geM_t, eqM_f, eqM_g, ltM_f, ltM_t, leM_f, inb_nI, ix_nI, chk_tt, bnd_ss, up_ne, up_self, up_oth, if_true, if_false, reduceCtorEq, Nat.succ_ne_zero]
        exact this) (fun q h => by
    obtain ⟨x, U⟩ := q
    obtain ⟨h1, -⟩ := h
    dsimp only at h1
    subst h1
    try dsimp only
    unfold OC_clear_L37
    try simp (disch := omega) only [↓m_1, n_0, n_1, n_2, n_3, n_4, n_5, n_6, n_7, n_8, n_9, n_10, n_16, n_20, n_24, n_31, n_32, n_48, n_52, n_57, n_59, n_60, n_64, n_100, n_1024, nI_add, pk_mul, pk_sub, leI_t, leI_f, ltI_t, ltI_f, eqI_t, eqI_f, geM_t, eqM_f, eqM_g, ltM_f, ltM_t, leM_f, inb_nI, ix_nI, chk_tt, bnd_ss, up_ne, up_self, up_oth, if_true, if_false, reduceCtorEq, Nat.succ_ne_zero])
  obtain ⟨x, U⟩ := r
  dsimp only at r1 r2 r3
  rw [hr, bnd_ss]
  unfold OC_clear_J55
  have hz : ∀ b m, bsum tx (fun _ => 0) b m = 0 := by
    intro b m
    induction m with
    | zero => rfl
    | succ m ih =>
      unfold bsum
      rw [ih, if_neg (fun g => g.1 rfl)]
  refine ⟨_, rfl, fun r a b c d e f => ?_, fun j a b => ?_, fun e he => ?_, fun b hb => ?_, fun j hj => by omega, ?_, fun _ => ?_⟩
  · try dsimp only
    rw [up_ne a, up_ne a, r2 r f, q2.1 r a b c d e f]
  · try dsimp only
    rw [up_oth b, up_oth a, r2 27 (by decide), q2.2]
  · try dsimp only
    rw [up_ne (by decide), up_ne (by decide), up_ne (by decide), up_ne (by decide), up_ne (by decide), up_ne (by decide), r2 29 (by decide), r2 30 (by decide), r2 31 (by decide)]
    exact q3 e he
  · try dsimp only
    rw [up_ne (by decide), up_ne (by decide), r3 b hb]
    show nI 0 = nI (bsum tx (fun _ => 0) b 10)
    rw [hz]
  · try dsimp only
    rw [up_oth (by decide), up_self]
    rfl
  · try dsimp only
    rw [up_self]
    rfl
theorem holdsNow_t {S T : St} {tx pu rs : Nat → Nat} {st ex n k : Nat} (hn : n ≤ 100) (ht : ∀ j, j < n → S 26 j = nI (tx j) ∧ tx j ≤ 255) (hp : PNX S pu rs st) (hk : k < nb tx n) (h : XK S tx pu rs st ex k T) : OC_holdsNow T (nI k) = some (if hd tx pu rs st (jl tx pu rs st ex k) k = true then 1 else 0) := by
  obtain ⟨hF, -, h29, h32, -⟩ := h
  have h20 := nb_le (tx := tx) hn
  obtain ⟨r1, r2, r3, r4⟩ := bid_lt hk
  obtain ⟨e29, e30, e31⟩ := h29 (evk tx k) r1
  have hJl := fun e => (jl_rng tx pu rs st ex k e).1
  generalize jl tx pu rs st ex k = l at *
  have hle := bsum_le (tx := tx) (b := bdk tx k) (n := n) hJl (by omega) 10
  have e26 : T 26 = S 26 := hF 26 (by decide) (by decide) (by decide) (by decide) (by decide) (by decide)
  have e22 := hp.2.1 (evk tx k) r1
  have e2 := hp.1 (bdk tx k) r2
  have e24 := hp.2.2.1
  have hst := hp.2.2.2
  rw [← hF 22 (by decide) (by decide) (by decide) (by decide) (by decide) (by decide)] at e22
  rw [← hF 2 (by decide) (by decide) (by decide) (by decide) (by decide) (by decide)] at e2
  rw [← hF 24 (by decide) (by decide) (by decide) (by decide) (by decide) (by decide)] at e24
  have hlb : l (evk tx k) ≠ 0 → bdk tx (l (evk tx k) - 1) < 5 ∧ amk tx (l (evk tx k) - 1) ≤ 99 := fun c => by
    have h1 := hJl (evk tx k)
    have h3 := bid_lt (tx := tx) (n := n) (k := l (evk tx k) - 1) (by omega)
    exact ⟨h3.2.1, h3.2.2.2⟩
  have h79 : OC_holdsNow_J79 T (nI (bdk tx k)) (nI (amk tx k)) = some (if bsum tx l (bdk tx k) 10 + amk tx k ≤ pu (bdk tx k) then 1 else 0) := by
    unfold OC_holdsNow_J79
    try simp (disch := omega) only [↓m_1, n_0, n_1, n_2, n_3, n_4, n_5, n_6, n_7, n_8, n_9, n_10, n_16, n_20, n_24, n_31, n_32, n_48, n_52, n_57, n_59, n_60, n_64, n_100, n_1024, nI_add, pk_mul, pk_sub, leI_t, leI_f, ltI_t, ltI_f, eqI_t, eqI_f, geM_t, eqM_f, eqM_g, ltM_f, ltM_t, leM_f, inb_nI, ix_nI, chk_tt, bnd_ss, up_ne, up_self, up_oth, if_true, if_false, reduceCtorEq, Nat.succ_ne_zero, e2.1, h32 (bdk tx k) r2]
    have := e2.2
    by_cases c : bsum tx l (bdk tx k) 10 + amk tx k ≤ pu (bdk tx k)
    · rw [if_pos c]; try simp (disch := omega) only [↓m_1, n_0, n_1, n_2, n_3, n_4, n_5, n_6, n_7, n_8, n_9, n_10, n_16, n_20, n_24, n_31, n_32, n_48, n_52, n_57, n_59, n_60, n_64, n_100, n_1024, nI_add, pk_mul, pk_sub, leI_t, leI_f, ltI_t, ltI_f, eqI_t, eqI_f, geM_t, eqM_f, eqM_g, ltM_f, ltM_t, leM_f, inb_nI, ix_nI, chk_tt, bnd_ss, up_ne, up_self, up_oth, if_true, if_false, reduceCtorEq, Nat.succ_ne_zero]
    · rw [if_neg c]; try simp (disch := omega) only [↓m_1, n_0, n_1, n_2, n_3, n_4, n_5, n_6, n_7, n_8, n_9, n_10, n_16, n_20, n_24, n_31, n_32, n_48, n_52, n_57, n_59, n_60, n_64, n_100, n_1024, nI_add, pk_mul, pk_sub, leI_t, leI_f, ltI_t, ltI_f, eqI_t, eqI_f, geM_t, eqM_f, eqM_g, ltM_f, ltM_t, leM_f, inb_nI, ix_nI, chk_tt, bnd_ss, up_ne, up_self, up_oth, if_true, if_false, reduceCtorEq, Nat.succ_ne_zero]
  unfold OC_holdsNow hd
  rw [bids_e hn ht e26 hk, bnd_ss, bids_b hn ht e26 hk, bnd_ss, bids_a hn ht e26 hk, bnd_ss]
  try simp (disch := omega) only [↓m_1, n_0, n_1, n_2, n_3, n_4, n_5, n_6, n_7, n_8, n_9, n_10, n_16, n_20, n_24, n_31, n_32, n_48, n_52, n_57, n_59, n_60, n_64, n_100, n_1024, nI_add, pk_mul, pk_sub, leI_t, leI_f, ltI_t, ltI_f, eqI_t, eqI_f, geM_t, eqM_f, eqM_g, ltM_f, ltM_t, leM_f, inb_nI, ix_nI, chk_tt, bnd_ss, up_ne, up_self, up_oth, if_true, if_false, reduceCtorEq, Nat.succ_ne_zero, e29, e30, e22.1, e24]
  rw [h79]
  unfold ldX amX
  have := e22.2
  by_cases c1 : amk tx k < rs (evk tx k)
  · try simp (disch := omega) only [↓m_1, n_0, n_1, n_2, n_3, n_4, n_5, n_6, n_7, n_8, n_9, n_10, n_16, n_20, n_24, n_31, n_32, n_48, n_52, n_57, n_59, n_60, n_64, n_100, n_1024, nI_add, pk_mul, pk_sub, leI_t, leI_f, ltI_t, ltI_f, eqI_t, eqI_f, geM_t, eqM_f, eqM_g, ltM_f, ltM_t, leM_f, inb_nI, ix_nI, chk_tt, bnd_ss, up_ne, up_self, up_oth, if_true, if_false, reduceCtorEq, Nat.succ_ne_zero]
    rw [if_neg]
    intro g
    have := (of_decide_eq_true g).1
    omega
  · try simp (disch := omega) only [↓m_1, n_0, n_1, n_2, n_3, n_4, n_5, n_6, n_7, n_8, n_9, n_10, n_16, n_20, n_24, n_31, n_32, n_48, n_52, n_57, n_59, n_60, n_64, n_100, n_1024, nI_add, pk_mul, pk_sub, leI_t, leI_f, ltI_t, ltI_f, eqI_t, eqI_f, geM_t, eqM_f, eqM_g, ltM_f, ltM_t, leM_f, inb_nI, ix_nI, chk_tt, bnd_ss, up_ne, up_self, up_oth, if_true, if_false, reduceCtorEq, Nat.succ_ne_zero]
    by_cases c2 : l (evk tx k) = 0
    · rw [if_pos c2, if_pos c2]
      try simp (disch := omega) only [↓m_1, n_0, n_1, n_2, n_3, n_4, n_5, n_6, n_7, n_8, n_9, n_10, n_16, n_20, n_24, n_31, n_32, n_48, n_52, n_57, n_59, n_60, n_64, n_100, n_1024, nI_add, pk_mul, pk_sub, leI_t, leI_f, ltI_t, ltI_f, eqI_t, eqI_f, geM_t, eqM_f, eqM_g, ltM_f, ltM_t, leM_f, inb_nI, ix_nI, chk_tt, bnd_ss, up_ne, up_self, up_oth, if_true, if_false, reduceCtorEq, Nat.succ_ne_zero]
      by_cases c3 : bsum tx l (bdk tx k) 10 + amk tx k ≤ pu (bdk tx k)
      · rw [if_pos c3, if_pos (decide_eq_true ⟨by omega, Or.inl c2, fun g => g.1 c2, c3⟩)]
      · rw [if_neg c3, if_neg (fun g => c3 (of_decide_eq_true g).2.2.2)]
    · obtain ⟨b1, b2⟩ := hlb c2
      rw [if_neg c2, if_neg c2]
      by_cases c4 : bdk tx (l (evk tx k) - 1) = bdk tx k
      · try simp (disch := omega) only [↓m_1, n_0, n_1, n_2, n_3, n_4, n_5, n_6, n_7, n_8, n_9, n_10, n_16, n_20, n_24, n_31, n_32, n_48, n_52, n_57, n_59, n_60, n_64, n_100, n_1024, nI_add, pk_mul, pk_sub, leI_t, leI_f, ltI_t, ltI_f, eqI_t, eqI_f, geM_t, eqM_f, eqM_g, ltM_f, ltM_t, leM_f, inb_nI, ix_nI, chk_tt, bnd_ss, up_ne, up_self, up_oth, if_true, if_false, reduceCtorEq, Nat.succ_ne_zero]
        rw [if_neg (fun g => (of_decide_eq_true g).2.2.1 ⟨c2, c4⟩)]
      · by_cases c5 : amk tx (l (evk tx k) - 1) + st ≤ amk tx k
        · try simp (disch := omega) only [↓m_1, n_0, n_1, n_2, n_3, n_4, n_5, n_6, n_7, n_8, n_9, n_10, n_16, n_20, n_24, n_31, n_32, n_48, n_52, n_57, n_59, n_60, n_64, n_100, n_1024, nI_add, pk_mul, pk_sub, leI_t, leI_f, ltI_t, ltI_f, eqI_t, eqI_f, geM_t, eqM_f, eqM_g, ltM_f, ltM_t, leM_f, inb_nI, ix_nI, chk_tt, bnd_ss, up_ne, up_self, up_oth, if_true, if_false, reduceCtorEq, Nat.succ_ne_zero]
          by_cases c3 : bsum tx l (bdk tx k) 10 + amk tx k ≤ pu (bdk tx k)
          · rw [if_pos c3, if_pos (decide_eq_true ⟨by omega, Or.inr c5, fun g => c4 g.2, c3⟩)]
          · rw [if_neg c3, if_neg (fun g => c3 (of_decide_eq_true g).2.2.2)]
        · try simp (disch := omega) only [↓m_1, n_0, n_1, n_2, n_3, n_4, n_5, n_6, n_7, n_8, n_9, n_10, n_16, n_20, n_24, n_31, n_32, n_48, n_52, n_57, n_59, n_60, n_64, n_100, n_1024, nI_add, pk_mul, pk_sub, leI_t, leI_f, ltI_t, ltI_f, eqI_t, eqI_f, geM_t, eqM_f, eqM_g, ltM_f, ltM_t, leM_f, inb_nI, ix_nI, chk_tt, bnd_ss, up_ne, up_self, up_oth, if_true, if_false, reduceCtorEq, Nat.succ_ne_zero]
          rw [if_neg]
          intro g
          have := (of_decide_eq_true g).2.1
          omega
theorem judge_step {S T : St} {tx pu rs : Nat → Nat} {st ex n k : Nat} (hn : n ≤ 100) (h3 : S 25 3 = nI (nb tx n)) (ht : ∀ j, j < n → S 26 j = nI (tx j) ∧ tx j ≤ 255) (hp : PNX S pu rs st) {x1 : Int32} (hx : ∀ k, k < nb tx n → (nI k = x1 ↔ k = ex)) (hk : k < nb tx n) (h : XK S tx pu rs st ex k T) : ∃ U, OC_judge_L7 T x1 (nI k) = some ((nI (k + 1), U), 0) ∧ XK S tx pu rs st ex (k + 1) U := by
  have hH := holdsNow_t hn ht hp hk h
  obtain ⟨hF, h27, h29, h32, h28, h5, h6⟩ := h
  have h20 := nb_le (tx := tx) hn
  have hfn := fn_le tx pu rs st ex k
  have hnh : ∀ k, nh tx pu rs st ex k ≤ k := by
    intro k
    induction k with
    | zero => exact Nat.le_refl 0
    | succ k ih =>
      unfold nh
      split <;> omega
  have hnk := hnh k
  obtain ⟨r1, r2, r3, r4⟩ := bid_lt hk
  have hJ := jl_rng tx pu rs st ex k
  have e26 : T 26 = S 26 := hF 26 (by decide) (by decide) (by decide) (by decide) (by decide) (by decide)
  have e25 : T 25 3 = nI (nb tx n) := by rw [hF 25 (by decide) (by decide) (by decide) (by decide) (by decide) (by decide)]; exact h3
  have hfs : fn tx pu rs st ex (k + 1) = if fn tx pu rs st ex k ≠ 0 then fn tx pu rs st ex k else if hld tx pu rs st ex k = true ∨ k = ex then 0 else k + 1 := rfl
  have h44 : ∀ t : Int32, t = (if hld tx pu rs st ex k = true then 1 else 0) → ∃ U, OC_judge_J44 T x1 (nI k) (nI k) t = some ((nI (k + 1), U), 0) ∧ XK S tx pu rs st ex (k + 1) U := by
    intro t ht'
    unfold OC_judge_J44
    rw [chk_t (inb_nI (by omega) (by decide)), chk_t (by rw [ht']; split <;> rfl), chk_t (inb_nI (by omega) (by decide)), ix_nI (by omega), up_self]
    have u28 : ∀ j, j < k + 1 → up T 28 k t 28 j = if hld tx pu rs st ex j = true then 1 else 0 := by
      intro j hj
      by_cases c : j = k
      · rw [c, up_self, ht']
      · rw [up_oth c]; exact h28 j (by omega)
    by_cases c : hld tx pu rs st ex k = true
    · have hno : ¬ (jl tx pu rs st ex k (evk tx k) ≠ 0 ∧ bdk tx (jl tx pu rs st ex k (evk tx k) - 1) = bdk tx k) := (of_decide_eq_true (of_decide_eq_true c).2).2.2.1
      rw [if_pos c] at ht'
      rw [if_neg (by rw [ht']; decide)]
      have e26' : up T 28 k t 26 = S 26 := by rw [up_ne (by decide), e26]
      rw [bids_e hn ht e26' hk, bnd_ss, bids_b hn ht e26' hk, bnd_ss, bids_a hn ht e26' hk, bnd_ss]
      obtain ⟨e29, e30, e31⟩ := h29 (evk tx k) r1
      have hjs : jl tx pu rs st ex (k + 1) = updN (jl tx pu rs st ex k) (evk tx k) (k + 1) := by rw [jl_s, if_pos c]
      have hss : jsec tx pu rs st ex (k + 1) = updN (jsec tx pu rs st ex k) (evk tx k) (amX tx (jl tx pu rs st ex k) (evk tx k)) := by
        show (if hld tx pu rs st ex k = true then _ else _) = _
        rw [if_pos c]
      have hns : nh tx pu rs st ex (k + 1) = nh tx pu rs st ex k + 1 := by
        show nh tx pu rs st ex k + (if hld tx pu rs st ex k = true then 1 else 0) = _
        rw [if_pos c]
      have hf1 : (∀ k, k < 20 → k ≠ ex) → T 27 6 = (if fn tx pu rs st ex (k + 1) = 0 then mI else nI (fn tx pu rs st ex (k + 1) - 1)) := by
        intro hno
        rw [h6 hno, hfs]
        by_cases c1 : fn tx pu rs st ex k = 0
        · rw [if_pos c1, if_neg (show ¬ fn tx pu rs st ex k ≠ 0 from fun g => g c1), if_pos (Or.inl c), if_pos rfl]
        · rw [if_pos (show fn tx pu rs st ex k ≠ 0 from c1)]
      -- the new lead, once the old one's amount has been given back
      have h35 : ∀ (U : St) (B : Nat → Nat), (∀ r, r ≠ 28 → r ≠ 32 → U r = T r) → U 28 = up T 28 k t 28 → (∀ b, b < 5 → U 32 b = nI (B b)) → (∀ b, b < 5 → bsum tx (jl tx pu rs st ex (k + 1)) b 10 = if b = bdk tx k then B b + amk tx k else B b) → (∀ b, b < 5 → B b ≤ 990) → ∃ V, bnd (OC_lead_J35 U (nI (evk tx k)) (nI (bdk tx k)) (nI (amk tx k))) (fun z4 => some ((nI k + 1, z4), 0)) = some ((nI (k + 1), V), 0) ∧ XK S tx pu rs st ex (k + 1) V := by
        intro U B u1 u2 u3 u4 u5
        unfold OC_lead_J35
        have b5 := u5 (bdk tx k) r2
        have f30 : U 30 (evk tx k) = nI (amX tx (jl tx pu rs st ex k) (evk tx k)) := by rw [u1 30 (by decide) (by decide)]; exact e30
        have f5 : U 27 5 = nI (nh tx pu rs st ex k) := by rw [u1 27 (by decide) (by decide)]; exact h5
        try simp (disch := omega) only [↓m_1, n_0, n_1, n_2, n_3, n_4, n_5, n_6, n_7, n_8, n_9, n_10, n_16, n_20, n_24, n_31, n_32, n_48, n_52, n_57, n_59, n_60, n_64, n_100, n_1024, nI_add, pk_mul, pk_sub, leI_t, leI_f, ltI_t, ltI_f, eqI_t, eqI_f, geM_t, eqM_f, eqM_g, ltM_f, ltM_t, leM_f, inb_nI, ix_nI, chk_tt, bnd_ss, up_ne, up_self, up_oth, if_true, if_false, reduceCtorEq, Nat.succ_ne_zero, f30, u3 (bdk tx k) r2, f5]
        refine ⟨_, rfl, fun r a b c d e f => ?_, fun j a b => ?_, fun e he => ?_, fun b hb => ?_, fun j hj => ?_, ?_, fun hno => ?_⟩
        · try dsimp only
          rw [up_ne a, up_ne f, up_ne d, up_ne c, up_ne e, u1 r b f, hF r a b c d e f]
        · try dsimp only
          rw [up_oth a, up_ne (by decide), up_ne (by decide), up_ne (by decide), up_ne (by decide), u1 27 (by decide) (by decide), h27 j a b]
        · try dsimp only
          obtain ⟨g1, g2, g3⟩ := h29 e he
          rw [hjs, hss]
          unfold ldX amX
          by_cases ce : e = evk tx k
          · subst ce
            rw [updN_s, updN_s, if_neg (show ¬ k + 1 = 0 by omega), if_neg (show ¬ k + 1 = 0 by omega), Nat.add_sub_cancel]
            try simp (disch := omega) only [↓m_1, n_0, n_1, n_2, n_3, n_4, n_5, n_6, n_7, n_8, n_9, n_10, n_16, n_20, n_24, n_31, n_32, n_48, n_52, n_57, n_59, n_60, n_64, n_100, n_1024, nI_add, pk_mul, pk_sub, leI_t, leI_f, ltI_t, ltI_f, eqI_t, eqI_f, geM_t, eqM_f, eqM_g, ltM_f, ltM_t, leM_f, inb_nI, ix_nI, chk_tt, bnd_ss, up_ne, up_self, up_oth, if_true, if_false, reduceCtorEq, Nat.succ_ne_zero]
            exact ⟨True.intro, True.intro, True.intro⟩
          · rw [updN_n ce, updN_n ce]
            try simp (disch := omega) only [↓m_1, n_0, n_1, n_2, n_3, n_4, n_5, n_6, n_7, n_8, n_9, n_10, n_16, n_20, n_24, n_31, n_32, n_48, n_52, n_57, n_59, n_60, n_64, n_100, n_1024, nI_add, pk_mul, pk_sub, leI_t, leI_f, ltI_t, ltI_f, eqI_t, eqI_f, geM_t, eqM_f, eqM_g, ltM_f, ltM_t, leM_f, inb_nI, ix_nI, chk_tt, bnd_ss, up_ne, up_self, up_oth, if_true, if_false, reduceCtorEq, Nat.succ_ne_zero, u1]
            exact ⟨g1, g2, g3⟩
        · try dsimp only
          rw [u4 b hb]
          by_cases cb : b = bdk tx k
          · rw [if_pos cb, cb]
            try simp (disch := omega) only [↓m_1, n_0, n_1, n_2, n_3, n_4, n_5, n_6, n_7, n_8, n_9, n_10, n_16, n_20, n_24, n_31, n_32, n_48, n_52, n_57, n_59, n_60, n_64, n_100, n_1024, nI_add, pk_mul, pk_sub, leI_t, leI_f, ltI_t, ltI_f, eqI_t, eqI_f, geM_t, eqM_f, eqM_g, ltM_f, ltM_t, leM_f, inb_nI, ix_nI, chk_tt, bnd_ss, up_ne, up_self, up_oth, if_true, if_false, reduceCtorEq, Nat.succ_ne_zero]
          · rw [if_neg cb]
            try simp (disch := omega) only [↓m_1, n_0, n_1, n_2, n_3, n_4, n_5, n_6, n_7, n_8, n_9, n_10, n_16, n_20, n_24, n_31, n_32, n_48, n_52, n_57, n_59, n_60, n_64, n_100, n_1024, nI_add, pk_mul, pk_sub, leI_t, leI_f, ltI_t, ltI_f, eqI_t, eqI_f, geM_t, eqM_f, eqM_g, ltM_f, ltM_t, leM_f, inb_nI, ix_nI, chk_tt, bnd_ss, up_ne, up_self, up_oth, if_true, if_false, reduceCtorEq, Nat.succ_ne_zero]
            exact u3 b hb
        · try dsimp only
          try simp (disch := omega) only [↓m_1, n_0, n_1, n_2, n_3, n_4, n_5, n_6, n_7, n_8, n_9, n_10, n_16, n_20, n_24, n_31, n_32, n_48, n_52, n_57, n_59, n_60, n_64, n_100, n_1024, nI_add, pk_mul, pk_sub, leI_t, leI_f, ltI_t, ltI_f, eqI_t, eqI_f, geM_t, eqM_f, eqM_g, ltM_f, ltM_t, leM_f, inb_nI, ix_nI, chk_tt, bnd_ss, up_ne, up_self, up_oth, if_true, if_false, reduceCtorEq, Nat.succ_ne_zero]
          rw [u2]
          exact u28 j hj
        · try dsimp only
          rw [up_self, hns]
        · try dsimp only
          try simp (disch := omega) only [↓m_1, n_0, n_1, n_2, n_3, n_4, n_5, n_6, n_7, n_8, n_9, n_10, n_16, n_20, n_24, n_31, n_32, n_48, n_52, n_57, n_59, n_60, n_64, n_100, n_1024, nI_add, pk_mul, pk_sub, leI_t, leI_f, ltI_t, ltI_f, eqI_t, eqI_f, geM_t, eqM_f, eqM_g, ltM_f, ltM_t, leM_f, inb_nI, ix_nI, chk_tt, bnd_ss, up_ne, up_self, up_oth, if_true, if_false, reduceCtorEq, Nat.succ_ne_zero]
          rw [u1 27 (by decide) (by decide)]
          exact hf1 hno
      have hlb : ∀ b m, bsum tx (jl tx pu rs st ex k) b m ≤ 99 * m := fun b m => bsum_le (n := n) (N := k) (fun e => (hJ e).1) (by omega) m
      -- sums with the new lead
      have hsum : ∀ b m, bsum tx (updN (jl tx pu rs st ex k) (evk tx k) (k + 1)) b m + (if evk tx k < m ∧ jl tx pu rs st ex k (evk tx k) ≠ 0 ∧ bdk tx (jl tx pu rs st ex k (evk tx k) - 1) = b then amk tx (jl tx pu rs st ex k (evk tx k) - 1) else 0) = bsum tx (jl tx pu rs st ex k) b m + (if evk tx k < m ∧ bdk tx k = b then amk tx k else 0) := by
        intro b m
        induction m with
        | zero =>
          rw [if_neg (fun g => by omega), if_neg (fun g => by omega)]
          rfl
        | succ m ih =>
          unfold bsum
          by_cases cm : m = evk tx k
          · have n1 : ¬ (evk tx k < m) := by omega
            rw [if_neg (fun g => n1 g.1), if_neg (fun g => n1 g.1)] at ih
            have ih : bsum tx (updN (jl tx pu rs st ex k) (evk tx k) (k + 1)) b m = bsum tx (jl tx pu rs st ex k) b m := ih
            subst cm
            rw [updN_s, ih, Nat.add_sub_cancel]
            have w1 : (evk tx k < evk tx k + 1 ∧ jl tx pu rs st ex k (evk tx k) ≠ 0 ∧ bdk tx (jl tx pu rs st ex k (evk tx k) - 1) = b) ↔ (jl tx pu rs st ex k (evk tx k) ≠ 0 ∧ bdk tx (jl tx pu rs st ex k (evk tx k) - 1) = b) := ⟨fun g => g.2, fun g => ⟨by omega, g⟩⟩
            have w2 : (evk tx k < evk tx k + 1 ∧ bdk tx k = b) ↔ bdk tx k = b := ⟨fun g => g.2, fun g => ⟨by omega, g⟩⟩
            have w3 : (k + 1 ≠ 0 ∧ bdk tx k = b) ↔ bdk tx k = b := ⟨fun g => g.2, fun g => ⟨by omega, g⟩⟩
            simp only [w1, w2, w3]
            omega
          · rw [updN_n cm]
            have w1 : (evk tx k < m + 1 ∧ jl tx pu rs st ex k (evk tx k) ≠ 0 ∧ bdk tx (jl tx pu rs st ex k (evk tx k) - 1) = b) ↔ (evk tx k < m ∧ jl tx pu rs st ex k (evk tx k) ≠ 0 ∧ bdk tx (jl tx pu rs st ex k (evk tx k) - 1) = b) := ⟨fun g => ⟨by omega, g.2⟩, fun g => ⟨by omega, g.2⟩⟩
            have w2 : (evk tx k < m + 1 ∧ bdk tx k = b) ↔ (evk tx k < m ∧ bdk tx k = b) := ⟨fun g => ⟨by omega, g.2⟩, fun g => ⟨by omega, g.2⟩⟩
            simp only [w1, w2]
            omega
      unfold OC_lead
      have g29 : up T 28 k t 29 (evk tx k) = ldX tx (jl tx pu rs st ex k) (evk tx k) := by rw [up_ne (by decide)]; exact e29
      have g30 : up T 28 k t 30 (evk tx k) = nI (amX tx (jl tx pu rs st ex k) (evk tx k)) := by rw [up_ne (by decide)]; exact e30
      rw [chk_t (inb_nI r1 (by decide)), ix_nI (by omega), g29]
      unfold ldX
      by_cases cl : jl tx pu rs st ex k (evk tx k) = 0
      · rw [if_pos cl, if_pos (show mI < 0 by decide)]
        refine h35 _ (fun b => bsum tx (jl tx pu rs st ex k) b 10) (fun r a b => up_ne a) rfl (fun b hb => by rw [up_ne (by decide)]; exact h32 b hb) (fun b hb => ?_) (fun b hb => hlb b 10)
        have := hsum b 10
        rw [if_neg (fun g => g.2.1 cl)] at this
        rw [hjs]
        by_cases cb : b = bdk tx k
        · rw [if_pos ⟨r1, cb.symm⟩] at this
          rw [if_pos cb]; exact this
        · rw [if_neg (fun g => cb g.2.symm)] at this
          rw [if_neg cb]; exact this
      · have hlr := bid_lt (tx := tx) (n := n) (k := jl tx pu rs st ex k (evk tx k) - 1) (by have := (hJ (evk tx k)).1; omega)
        have ho : bdk tx (jl tx pu rs st ex k (evk tx k) - 1) ≠ bdk tx k := fun g => hno ⟨cl, g⟩
        have ea : amX tx (jl tx pu rs st ex k) (evk tx k) = amk tx (jl tx pu rs st ex k (evk tx k) - 1) := if_neg cl
        rw [if_neg cl]
        have g32 : up T 28 k t 32 (bdk tx (jl tx pu rs st ex k (evk tx k) - 1)) = nI (bsum tx (jl tx pu rs st ex k) (bdk tx (jl tx pu rs st ex k (evk tx k) - 1)) 10) := by rw [up_ne (by decide)]; exact h32 _ hlr.2.1
        have hold := hsum (bdk tx (jl tx pu rs st ex k (evk tx k) - 1)) 10
        rw [if_pos ⟨r1, cl, rfl⟩, if_neg (fun g => ho g.2.symm)] at hold
        rw [if_neg (by rw [n_0]; try simp (disch := omega) only [↓m_1, n_0, n_1, n_2, n_3, n_4, n_5, n_6, n_7, n_8, n_9, n_10, n_16, n_20, n_24, n_31, n_32, n_48, n_52, n_57, n_59, n_60, n_64, n_100, n_1024, nI_add, pk_mul, pk_sub, leI_t, leI_f, ltI_t, ltI_f, eqI_t, eqI_f, geM_t, eqM_f, eqM_g, ltM_f, ltM_t, leM_f, inb_nI, ix_nI, chk_tt, bnd_ss, up_ne, up_self, up_oth, if_true, if_false, reduceCtorEq, Nat.succ_ne_zero]; exact fun g => g), if_neg (by rw [n_5]; try simp (disch := omega) only [↓m_1, n_0, n_1, n_2, n_3, n_4, n_5, n_6, n_7, n_8, n_9, n_10, n_16, n_20, n_24, n_31, n_32, n_48, n_52, n_57, n_59, n_60, n_64, n_100, n_1024, nI_add, pk_mul, pk_sub, leI_t, leI_f, ltI_t, ltI_f, eqI_t, eqI_f, geM_t, eqM_f, eqM_g, ltM_f, ltM_t, leM_f, inb_nI, ix_nI, chk_tt, bnd_ss, up_ne, up_self, up_oth, if_true, if_false, reduceCtorEq, Nat.succ_ne_zero]; exact fun g => g), chk_t (inb_nI hlr.2.1 (by decide)), chk_t (inb_nI r1 (by decide)), chk_t (inb_nI hlr.2.1 (by decide)), ix_nI (by omega), g32, g30, ea, pk_sub (by omega)]
        refine h35 _ (fun b => if b = bdk tx (jl tx pu rs st ex k (evk tx k) - 1) then bsum tx (jl tx pu rs st ex k) b 10 - amk tx (jl tx pu rs st ex k (evk tx k) - 1) else bsum tx (jl tx pu rs st ex k) b 10) (fun r a b => by rw [up_ne b, up_ne a]) (by rw [up_ne (by decide)]) (fun b hb => ?_) (fun b hb => ?_) (fun b hb => ?_)
        · try dsimp only
          by_cases cb : b = bdk tx (jl tx pu rs st ex k (evk tx k) - 1)
          · rw [if_pos cb, cb, up_self]
          · rw [if_neg cb, up_oth cb, up_ne (by decide)]; exact h32 b hb
        · try dsimp only
          have := hsum b 10
          rw [hjs]
          by_cases cb : b = bdk tx k
          · have c3 : ¬ bdk tx (jl tx pu rs st ex k (evk tx k) - 1) = b := fun g => ho (g.trans cb)
            rw [if_neg (fun g => c3 g.2.2), if_pos ⟨r1, cb.symm⟩] at this
            rw [if_pos cb, if_neg (fun g => c3 g.symm)]; exact this
          · rw [if_neg (fun g : evk tx k < 10 ∧ bdk tx k = b => cb g.2.symm)] at this
            rw [if_neg cb]
            by_cases c3 : b = bdk tx (jl tx pu rs st ex k (evk tx k) - 1)
            · rw [if_pos ⟨r1, cl, c3.symm⟩] at this
              rw [if_pos c3]; omega
            · rw [if_neg (fun g => c3 g.2.2.symm)] at this
              rw [if_neg c3]; exact this
        · try dsimp only
          have := hlb b 10
          split <;> omega
    · rw [if_neg c] at ht'
      rw [if_pos ht']
      have hjs : jl tx pu rs st ex (k + 1) = jl tx pu rs st ex k := by rw [jl_s, if_neg c]
      have hss : jsec tx pu rs st ex (k + 1) = jsec tx pu rs st ex k := by
        show (if hld tx pu rs st ex k = true then _ else _) = _
        rw [if_neg c]
      have hns : nh tx pu rs st ex (k + 1) = nh tx pu rs st ex k := by
        show nh tx pu rs st ex k + (if hld tx pu rs st ex k = true then 1 else 0) = _
        rw [if_neg c]
        rfl
      have fin : ∀ V : St, (∀ r, r ≠ 27 → r ≠ 28 → V r = T r) → (∀ j, j ≠ 6 → V 27 j = T 27 j) → V 28 = up T 28 k t 28 → ((∀ k, k < 20 → k ≠ ex) → V 27 6 = (if fn tx pu rs st ex (k + 1) = 0 then mI else nI (fn tx pu rs st ex (k + 1) - 1))) → XK S tx pu rs st ex (k + 1) V := by
        intro V v1 v2 v3 v4
        refine ⟨fun r a b c d e f => by rw [v1 r a b, hF r a b c d e f], fun j a b => by rw [v2 j b, h27 j a b], fun e he => ?_, fun b hb => ?_, fun j hj => ?_, ?_, v4⟩
        · rw [hjs, hss, v1 29 (by decide) (by decide), v1 30 (by decide) (by decide), v1 31 (by decide) (by decide)]
          exact h29 e he
        · rw [hjs, v1 32 (by decide) (by decide)]; exact h32 b hb
        · rw [v3]; exact u28 j hj
        · rw [v2 5 (by decide), hns]; exact h5
      rw [nI_1]
      by_cases c6 : up T 28 k t 27 6 = -1
      · rw [if_pos c6]
        refine ⟨_, rfl, fin _ (fun r a b => by rw [up_ne a, up_ne b]) (fun j a => by rw [up_oth a, up_ne (by decide)]) (by rw [up_ne (by decide)]) (fun hno => ?_)⟩
        rw [up_self]
        rw [up_ne (by decide), h6 hno, m_1] at c6
        have c7 : fn tx pu rs st ex k = 0 := by
          by_cases c8 : fn tx pu rs st ex k = 0
          · exact c8
          · rw [if_neg c8, eqM_f (by omega)] at c6
            exact c6.elim
        rw [if_neg (fun g => g c7), if_neg (fun g => g.elim c (hno k (by omega)))] at hfs
        rw [hfs, if_neg (by omega)]
        rfl
      · rw [if_neg c6]
        refine ⟨_, rfl, fin _ (fun r a b => by rw [up_ne b]) (fun j a => by rw [up_ne (by decide)]) rfl (fun hno => ?_)⟩
        rw [up_ne (by decide), h6 hno, m_1] at c6
        rw [up_ne (by decide), h6 hno]
        by_cases c8 : fn tx pu rs st ex k = 0
        · rw [if_pos c8] at c6
          exact absurd rfl c6
        · rw [if_pos c8] at hfs
          rw [hfs]
  unfold OC_judge_L7 OC_judge_J43
  rw [e25, if_neg (by rw [nI_leI (by omega) (by omega)]; omega)]
  by_cases c : k = ex
  · rw [if_pos ((hx k hk).mpr c)]
    refine h44 0 ?_
    rw [if_neg]
    intro g
    exact (of_decide_eq_true g).1 c
  · rw [if_neg (fun g => c ((hx k hk).mp g)), hH, bnd_ss]
    by_cases c2 : hd tx pu rs st (jl tx pu rs st ex k) k = true
    · rw [if_pos c2, if_neg (by decide)]
      refine h44 1 ?_
      rw [if_pos (show hld tx pu rs st ex k = true from decide_eq_true ⟨c, c2⟩)]
    · rw [if_neg c2, if_pos rfl]
      refine h44 0 ?_
      rw [if_neg]
      intro g
      exact c2 (of_decide_eq_true g).2
theorem judge_t {S : St} {tx pu rs : Nat → Nat} {st ex n : Nat} (hn : n ≤ 100) (h3 : S 25 3 = nI (nb tx n)) (ht : ∀ j, j < n → S 26 j = nI (tx j) ∧ tx j ≤ 255) (hp : PNX S pu rs st) {x1 : Int32} (hx : ∀ k, k < nb tx n → (nI k = x1 ↔ k = ex)) : ∃ T, OC_judge S x1 = some T ∧ XK S tx pu rs st ex (nb tx n) T := by
  have h20 := nb_le (tx := tx) hn
  obtain ⟨T, hT, h0⟩ := oclear_t (S := S) (tx := tx) (pu := pu) (rs := rs) (st := st) (ex := ex)
  unfold OC_judge
  rw [hT, bnd_ss]
  obtain ⟨r, hr, r1, r2⟩ := lp_cnt (st := fun q : Int32 × St => OC_judge_L7 q.2 x1 q.1) (fun j q => q.1 = nI j ∧ XK S tx pu rs st ex j q.2) (nb tx n) (by omega) (q0 := (0, T)) ⟨rfl, h0⟩ (fun j q hj h => by
    obtain ⟨x, U⟩ := q
    obtain ⟨h1, h2⟩ := h
    dsimp only at h1 h2
    subst h1
    obtain ⟨V, g1, g2⟩ := judge_step hn h3 ht hp hx hj h2
    exact ⟨(nI (j + 1), V), g1, rfl, g2⟩) (fun q h => by
    obtain ⟨x, U⟩ := q
    obtain ⟨h1, h2⟩ := h
    dsimp only at h1 h2
    subst h1
    try dsimp only
    unfold OC_judge_L7
    have e25 : U 25 3 = nI (nb tx n) := by rw [h2.1 25 (by decide) (by decide) (by decide) (by decide) (by decide) (by decide)]; exact h3
    rw [e25]
    try simp (disch := omega) only [↓m_1, n_0, n_1, n_2, n_3, n_4, n_5, n_6, n_7, n_8, n_9, n_10, n_16, n_20, n_24, n_31, n_32, n_48, n_52, n_57, n_59, n_60, n_64, n_100, n_1024, nI_add, pk_mul, pk_sub, leI_t, leI_f, ltI_t, ltI_f, eqI_t, eqI_f, geM_t, eqM_f, eqM_g, ltM_f, ltM_t, leM_f, inb_nI, ix_nI, chk_tt, bnd_ss, up_ne, up_self, up_oth, if_true, if_false, reduceCtorEq, Nat.succ_ne_zero])
  rw [hr, bnd_ss]
  exact ⟨r.2, rfl, r2⟩

/-- the class's rows ahead of bid k -/
def XKF_b (S T : St) : Prop := ∀ r, r ≠ 33 → r ≠ 34 → r ≠ 35 → r ≠ 36 → r ≠ 37 → r ≠ 38 → T r = S r
def XK_b (S : St) (tx pu rs : Nat → Nat) (st ex k : Nat) (T : St) : Prop := XKF_b S T ∧ (∀ j, j ≠ 5 → j ≠ 6 → T 33 j = S 33 j) ∧ (∀ e, e < 10 → T 35 e = ldX tx (jl tx pu rs st ex k) e ∧ T 36 e = nI (amX tx (jl tx pu rs st ex k) e) ∧ T 37 e = nI (jsec tx pu rs st ex k e)) ∧ (∀ b, b < 5 → T 38 b = nI (bsum tx (jl tx pu rs st ex k) b 10)) ∧ (∀ j, j < k → T 34 j = if hld tx pu rs st ex j = true then 1 else 0) ∧ T 33 5 = nI (nh tx pu rs st ex k) ∧ ((∀ k, k < 20 → k ≠ ex) → T 33 6 = (if fn tx pu rs st ex k = 0 then mI else nI (fn tx pu rs st ex k - 1)))
theorem oclear_t_b {S : St} {tx pu rs : Nat → Nat} {st ex : Nat} : ∃ T, OC_clear_b S = some T ∧ XK_b S tx pu rs st ex 0 T := by
  obtain ⟨q, hq, q1, q2, q3⟩ := lp_cnt (st := fun q : Int32 × St => OC_clear_b_L2 q.2 q.1) (fun j q => q.1 = nI j ∧ (XKF_b S q.2 ∧ q.2 33 = S 33) ∧ (∀ e, e < j → q.2 35 e = mI ∧ q.2 36 e = nI 0 ∧ q.2 37 e = nI 0)) 10 (by decide) (q0 := (0, S)) ⟨rfl, ⟨fun _ _ _ _ _ _ _ => rfl, rfl⟩, fun e h => by omega⟩ (fun j q hj h => by
    obtain ⟨x, T⟩ := q
    obtain ⟨h1, ⟨h2, h4⟩, h3⟩ := h
    dsimp only at h1 h2 h3 h4
    subst h1
    try dsimp only
    unfold OC_clear_b_L2
    try simp (disch := omega) only [↓m_1, n_0, n_1, n_2, n_3, n_4, n_5, n_6, n_7, n_8, n_9, n_10, n_16, n_20, n_24, n_31, n_32, n_48, n_52, n_57, n_59, n_60, n_64, n_100, n_1024, nI_add, pk_mul, pk_sub, leI_t, leI_f, ltI_t, ltI_f, eqI_t, eqI_f, geM_t, eqM_f, eqM_g, ltM_f, ltM_t, leM_f, inb_nI, ix_nI, chk_tt, bnd_ss, up_ne, up_self, up_oth, if_true, if_false, reduceCtorEq, Nat.succ_ne_zero]
    refine ⟨_, rfl, rfl, ⟨fun r a b c d e f => ?_, ?_⟩, fun e h => ?_⟩
    · try dsimp only
      rw [up_ne e, up_ne d, up_ne c, h2 r a b c d e f]
    · try dsimp only
      rw [up_ne (by decide), up_ne (by decide), up_ne (by decide), h4]
    · try dsimp only
      by_cases c : e = j
      · subst c
        try simp (disch := omega) only [↓m_1, n_0, n_1, n_2, n_3, n_4, n_5, n_6, n_7, n_8, n_9, n_10, n_16, n_20, n_24, n_31, n_32, n_48, n_52, n_57, n_59, n_60, n_64, n_100, n_1024, nI_add, pk_mul, pk_sub, leI_t, leI_f, ltI_t, ltI_f, eqI_t, eqI_f, geM_t, eqM_f, eqM_g, ltM_f, ltM_t, leM_f, inb_nI, ix_nI, chk_tt, bnd_ss, up_ne, up_self, up_oth, if_true, if_false, reduceCtorEq, Nat.succ_ne_zero]
        exact ⟨True.intro, True.intro, True.intro⟩
      · have := h3 e (by omega)
        try simp (disch := omega) only [↓m_1, n_0, n_1, n_2, n_3, n_4, n_5, n_6, n_7, n_8, n_9, n_10, n_16, n_20, n_24, n_31, n_32, n_48, n_52, n_57, n_59, n_60, n_64, n_100, n_1024, nI_add, pk_mul, pk_sub, leI_t, leI_f, ltI_t, ltI_f, eqI_t, eqI_f, geM_t, eqM_f, eqM_g, ltM_f, ltM_t, leM_f, inb_nI, ix_nI, chk_tt, bnd_ss, up_ne, up_self, up_oth, if_true, if_false, reduceCtorEq, Nat.succ_ne_zero]
        exact this) (fun q h => by
    obtain ⟨x, T⟩ := q
    obtain ⟨h1, -⟩ := h
    dsimp only at h1
    subst h1
    try dsimp only
    unfold OC_clear_b_L2
    try simp (disch := omega) only [↓m_1, n_0, n_1, n_2, n_3, n_4, n_5, n_6, n_7, n_8, n_9, n_10, n_16, n_20, n_24, n_31, n_32, n_48, n_52, n_57, n_59, n_60, n_64, n_100, n_1024, nI_add, pk_mul, pk_sub, leI_t, leI_f, ltI_t, ltI_f, eqI_t, eqI_f, geM_t, eqM_f, eqM_g, ltM_f, ltM_t, leM_f, inb_nI, ix_nI, chk_tt, bnd_ss, up_ne, up_self, up_oth, if_true, if_false, reduceCtorEq, Nat.succ_ne_zero])
  obtain ⟨x, T⟩ := q
  dsimp only at q1 q2 q3
  unfold OC_clear_b
  rw [hq, bnd_ss]
  unfold OC_clear_b_J35
  obtain ⟨r, hr, r1, r2, r3⟩ := lp_cnt (st := fun q : Int32 × St => OC_clear_b_L37 q.2 q.1) (fun j q => q.1 = nI j ∧ (∀ r, r ≠ 38 → q.2 r = T r) ∧ (∀ e, e < j → q.2 38 e = nI 0)) 5 (by decide) (q0 := (0, T)) ⟨rfl, fun _ _ => rfl, fun e h => by omega⟩ (fun j q hj h => by
    obtain ⟨x, U⟩ := q
    obtain ⟨h1, h2, h3⟩ := h
    dsimp only at h1 h2 h3
    subst h1
    try dsimp only
    unfold OC_clear_b_L37
    try simp (disch := omega) only [↓m_1, n_0, n_1, n_2, n_3, n_4, n_5, n_6, n_7, n_8, n_9, n_10, n_16, n_20, n_24, n_31, n_32, n_48, n_52, n_57, n_59, n_60, n_64, n_100, n_1024, nI_add, pk_mul, pk_sub, leI_t, leI_f, ltI_t, ltI_f, eqI_t, eqI_f, geM_t, eqM_f, eqM_g, ltM_f, ltM_t, leM_f, inb_nI, ix_nI, chk_tt, bnd_ss, up_ne, up_self, up_oth, if_true, if_false, reduceCtorEq, Nat.succ_ne_zero]
    refine ⟨_, rfl, rfl, fun r a => ?_, fun e h => ?_⟩
    · try dsimp only
      rw [up_ne a, h2 r a]
    · try dsimp only
      by_cases c : e = j
      · subst c
        try simp (disch := omega) only [↓m_1, n_0, n_1, n_2, n_3, n_4, n_5, n_6, n_7, n_8, n_9, n_10, n_16, n_20, n_24, n_31, n_32, n_48, n_52, n_57, n_59, n_60, n_64, n_100, n_1024, nI_add, pk_mul, pk_sub, leI_t, leI_f, ltI_t, ltI_f, eqI_t, eqI_f, geM_t, eqM_f, eqM_g, ltM_f, ltM_t, leM_f, inb_nI, ix_nI, chk_tt, bnd_ss, up_ne, up_self, up_oth, if_true, if_false, reduceCtorEq, Nat.succ_ne_zero]
      · have := h3 e (by omega)
        try simp (disch := omega) only [↓m_1, n_0, n_1, n_2, n_3, n_4, n_5, n_6, n_7, n_8, n_9, n_10, n_16, n_20, n_24, n_31, n_32, n_48, n_52, n_57, n_59, n_60, n_64, n_100, n_1024, nI_add, pk_mul, pk_sub, leI_t, leI_f, ltI_t, ltI_f, eqI_t, eqI_f, geM_t, eqM_f, eqM_g, ltM_f, ltM_t, leM_f, inb_nI, ix_nI, chk_tt, bnd_ss, up_ne, up_self, up_oth, if_true, if_false, reduceCtorEq, Nat.succ_ne_zero]
        exact this) (fun q h => by
    obtain ⟨x, U⟩ := q
    obtain ⟨h1, -⟩ := h
    dsimp only at h1
    subst h1
    try dsimp only
    unfold OC_clear_b_L37
    try simp (disch := omega) only [↓m_1, n_0, n_1, n_2, n_3, n_4, n_5, n_6, n_7, n_8, n_9, n_10, n_16, n_20, n_24, n_31, n_32, n_48, n_52, n_57, n_59, n_60, n_64, n_100, n_1024, nI_add, pk_mul, pk_sub, leI_t, leI_f, ltI_t, ltI_f, eqI_t, eqI_f, geM_t, eqM_f, eqM_g, ltM_f, ltM_t, leM_f, inb_nI, ix_nI, chk_tt, bnd_ss, up_ne, up_self, up_oth, if_true, if_false, reduceCtorEq, Nat.succ_ne_zero])
  obtain ⟨x, U⟩ := r
  dsimp only at r1 r2 r3
  rw [hr, bnd_ss]
  unfold OC_clear_b_J55
  have hz : ∀ b m, bsum tx (fun _ => 0) b m = 0 := by
    intro b m
    induction m with
    | zero => rfl
    | succ m ih =>
      unfold bsum
      rw [ih, if_neg (fun g => g.1 rfl)]
  refine ⟨_, rfl, fun r a b c d e f => ?_, fun j a b => ?_, fun e he => ?_, fun b hb => ?_, fun j hj => by omega, ?_, fun _ => ?_⟩
  · try dsimp only
    rw [up_ne a, up_ne a, r2 r f, q2.1 r a b c d e f]
  · try dsimp only
    rw [up_oth b, up_oth a, r2 33 (by decide), q2.2]
  · try dsimp only
    rw [up_ne (by decide), up_ne (by decide), up_ne (by decide), up_ne (by decide), up_ne (by decide), up_ne (by decide), r2 35 (by decide), r2 36 (by decide), r2 37 (by decide)]
    exact q3 e he
  · try dsimp only
    rw [up_ne (by decide), up_ne (by decide), r3 b hb]
    show nI 0 = nI (bsum tx (fun _ => 0) b 10)
    rw [hz]
  · try dsimp only
    rw [up_oth (by decide), up_self]
    rfl
  · try dsimp only
    rw [up_self]
    rfl
theorem holdsNow_t_b {S T : St} {tx pu rs : Nat → Nat} {st ex n k : Nat} (hn : n ≤ 100) (ht : ∀ j, j < n → S 26 j = nI (tx j) ∧ tx j ≤ 255) (hp : PNX S pu rs st) (hk : k < nb tx n) (h : XK_b S tx pu rs st ex k T) : OC_holdsNow_b T (nI k) = some (if hd tx pu rs st (jl tx pu rs st ex k) k = true then 1 else 0) := by
  obtain ⟨hF, -, h29, h32, -⟩ := h
  have h20 := nb_le (tx := tx) hn
  obtain ⟨r1, r2, r3, r4⟩ := bid_lt hk
  obtain ⟨e29, e30, e31⟩ := h29 (evk tx k) r1
  have hJl := fun e => (jl_rng tx pu rs st ex k e).1
  generalize jl tx pu rs st ex k = l at *
  have hle := bsum_le (tx := tx) (b := bdk tx k) (n := n) hJl (by omega) 10
  have e26 : T 26 = S 26 := hF 26 (by decide) (by decide) (by decide) (by decide) (by decide) (by decide)
  have e22 := hp.2.1 (evk tx k) r1
  have e2 := hp.1 (bdk tx k) r2
  have e24 := hp.2.2.1
  have hst := hp.2.2.2
  rw [← hF 22 (by decide) (by decide) (by decide) (by decide) (by decide) (by decide)] at e22
  rw [← hF 2 (by decide) (by decide) (by decide) (by decide) (by decide) (by decide)] at e2
  rw [← hF 24 (by decide) (by decide) (by decide) (by decide) (by decide) (by decide)] at e24
  have hlb : l (evk tx k) ≠ 0 → bdk tx (l (evk tx k) - 1) < 5 ∧ amk tx (l (evk tx k) - 1) ≤ 99 := fun c => by
    have h1 := hJl (evk tx k)
    have h3 := bid_lt (tx := tx) (n := n) (k := l (evk tx k) - 1) (by omega)
    exact ⟨h3.2.1, h3.2.2.2⟩
  have h79 : OC_holdsNow_b_J79 T (nI (bdk tx k)) (nI (amk tx k)) = some (if bsum tx l (bdk tx k) 10 + amk tx k ≤ pu (bdk tx k) then 1 else 0) := by
    unfold OC_holdsNow_b_J79
    try simp (disch := omega) only [↓m_1, n_0, n_1, n_2, n_3, n_4, n_5, n_6, n_7, n_8, n_9, n_10, n_16, n_20, n_24, n_31, n_32, n_48, n_52, n_57, n_59, n_60, n_64, n_100, n_1024, nI_add, pk_mul, pk_sub, leI_t, leI_f, ltI_t, ltI_f, eqI_t, eqI_f, geM_t, eqM_f, eqM_g, ltM_f, ltM_t, leM_f, inb_nI, ix_nI, chk_tt, bnd_ss, up_ne, up_self, up_oth, if_true, if_false, reduceCtorEq, Nat.succ_ne_zero, e2.1, h32 (bdk tx k) r2]
    have := e2.2
    by_cases c : bsum tx l (bdk tx k) 10 + amk tx k ≤ pu (bdk tx k)
    · rw [if_pos c]; try simp (disch := omega) only [↓m_1, n_0, n_1, n_2, n_3, n_4, n_5, n_6, n_7, n_8, n_9, n_10, n_16, n_20, n_24, n_31, n_32, n_48, n_52, n_57, n_59, n_60, n_64, n_100, n_1024, nI_add, pk_mul, pk_sub, leI_t, leI_f, ltI_t, ltI_f, eqI_t, eqI_f, geM_t, eqM_f, eqM_g, ltM_f, ltM_t, leM_f, inb_nI, ix_nI, chk_tt, bnd_ss, up_ne, up_self, up_oth, if_true, if_false, reduceCtorEq, Nat.succ_ne_zero]
    · rw [if_neg c]; try simp (disch := omega) only [↓m_1, n_0, n_1, n_2, n_3, n_4, n_5, n_6, n_7, n_8, n_9, n_10, n_16, n_20, n_24, n_31, n_32, n_48, n_52, n_57, n_59, n_60, n_64, n_100, n_1024, nI_add, pk_mul, pk_sub, leI_t, leI_f, ltI_t, ltI_f, eqI_t, eqI_f, geM_t, eqM_f, eqM_g, ltM_f, ltM_t, leM_f, inb_nI, ix_nI, chk_tt, bnd_ss, up_ne, up_self, up_oth, if_true, if_false, reduceCtorEq, Nat.succ_ne_zero]
  unfold OC_holdsNow_b hd
  rw [bids_e hn ht e26 hk, bnd_ss, bids_b hn ht e26 hk, bnd_ss, bids_a hn ht e26 hk, bnd_ss]
  try simp (disch := omega) only [↓m_1, n_0, n_1, n_2, n_3, n_4, n_5, n_6, n_7, n_8, n_9, n_10, n_16, n_20, n_24, n_31, n_32, n_48, n_52, n_57, n_59, n_60, n_64, n_100, n_1024, nI_add, pk_mul, pk_sub, leI_t, leI_f, ltI_t, ltI_f, eqI_t, eqI_f, geM_t, eqM_f, eqM_g, ltM_f, ltM_t, leM_f, inb_nI, ix_nI, chk_tt, bnd_ss, up_ne, up_self, up_oth, if_true, if_false, reduceCtorEq, Nat.succ_ne_zero, e29, e30, e22.1, e24]
  rw [h79]
  unfold ldX amX
  have := e22.2
  by_cases c1 : amk tx k < rs (evk tx k)
  · try simp (disch := omega) only [↓m_1, n_0, n_1, n_2, n_3, n_4, n_5, n_6, n_7, n_8, n_9, n_10, n_16, n_20, n_24, n_31, n_32, n_48, n_52, n_57, n_59, n_60, n_64, n_100, n_1024, nI_add, pk_mul, pk_sub, leI_t, leI_f, ltI_t, ltI_f, eqI_t, eqI_f, geM_t, eqM_f, eqM_g, ltM_f, ltM_t, leM_f, inb_nI, ix_nI, chk_tt, bnd_ss, up_ne, up_self, up_oth, if_true, if_false, reduceCtorEq, Nat.succ_ne_zero]
    rw [if_neg]
    intro g
    have := (of_decide_eq_true g).1
    omega
  · try simp (disch := omega) only [↓m_1, n_0, n_1, n_2, n_3, n_4, n_5, n_6, n_7, n_8, n_9, n_10, n_16, n_20, n_24, n_31, n_32, n_48, n_52, n_57, n_59, n_60, n_64, n_100, n_1024, nI_add, pk_mul, pk_sub, leI_t, leI_f, ltI_t, ltI_f, eqI_t, eqI_f, geM_t, eqM_f, eqM_g, ltM_f, ltM_t, leM_f, inb_nI, ix_nI, chk_tt, bnd_ss, up_ne, up_self, up_oth, if_true, if_false, reduceCtorEq, Nat.succ_ne_zero]
    by_cases c2 : l (evk tx k) = 0
    · rw [if_pos c2, if_pos c2]
      try simp (disch := omega) only [↓m_1, n_0, n_1, n_2, n_3, n_4, n_5, n_6, n_7, n_8, n_9, n_10, n_16, n_20, n_24, n_31, n_32, n_48, n_52, n_57, n_59, n_60, n_64, n_100, n_1024, nI_add, pk_mul, pk_sub, leI_t, leI_f, ltI_t, ltI_f, eqI_t, eqI_f, geM_t, eqM_f, eqM_g, ltM_f, ltM_t, leM_f, inb_nI, ix_nI, chk_tt, bnd_ss, up_ne, up_self, up_oth, if_true, if_false, reduceCtorEq, Nat.succ_ne_zero]
      by_cases c3 : bsum tx l (bdk tx k) 10 + amk tx k ≤ pu (bdk tx k)
      · rw [if_pos c3, if_pos (decide_eq_true ⟨by omega, Or.inl c2, fun g => g.1 c2, c3⟩)]
      · rw [if_neg c3, if_neg (fun g => c3 (of_decide_eq_true g).2.2.2)]
    · obtain ⟨b1, b2⟩ := hlb c2
      rw [if_neg c2, if_neg c2]
      by_cases c4 : bdk tx (l (evk tx k) - 1) = bdk tx k
      · try simp (disch := omega) only [↓m_1, n_0, n_1, n_2, n_3, n_4, n_5, n_6, n_7, n_8, n_9, n_10, n_16, n_20, n_24, n_31, n_32, n_48, n_52, n_57, n_59, n_60, n_64, n_100, n_1024, nI_add, pk_mul, pk_sub, leI_t, leI_f, ltI_t, ltI_f, eqI_t, eqI_f, geM_t, eqM_f, eqM_g, ltM_f, ltM_t, leM_f, inb_nI, ix_nI, chk_tt, bnd_ss, up_ne, up_self, up_oth, if_true, if_false, reduceCtorEq, Nat.succ_ne_zero]
        rw [if_neg (fun g => (of_decide_eq_true g).2.2.1 ⟨c2, c4⟩)]
      · by_cases c5 : amk tx (l (evk tx k) - 1) + st ≤ amk tx k
        · try simp (disch := omega) only [↓m_1, n_0, n_1, n_2, n_3, n_4, n_5, n_6, n_7, n_8, n_9, n_10, n_16, n_20, n_24, n_31, n_32, n_48, n_52, n_57, n_59, n_60, n_64, n_100, n_1024, nI_add, pk_mul, pk_sub, leI_t, leI_f, ltI_t, ltI_f, eqI_t, eqI_f, geM_t, eqM_f, eqM_g, ltM_f, ltM_t, leM_f, inb_nI, ix_nI, chk_tt, bnd_ss, up_ne, up_self, up_oth, if_true, if_false, reduceCtorEq, Nat.succ_ne_zero]
          by_cases c3 : bsum tx l (bdk tx k) 10 + amk tx k ≤ pu (bdk tx k)
          · rw [if_pos c3, if_pos (decide_eq_true ⟨by omega, Or.inr c5, fun g => c4 g.2, c3⟩)]
          · rw [if_neg c3, if_neg (fun g => c3 (of_decide_eq_true g).2.2.2)]
        · try simp (disch := omega) only [↓m_1, n_0, n_1, n_2, n_3, n_4, n_5, n_6, n_7, n_8, n_9, n_10, n_16, n_20, n_24, n_31, n_32, n_48, n_52, n_57, n_59, n_60, n_64, n_100, n_1024, nI_add, pk_mul, pk_sub, leI_t, leI_f, ltI_t, ltI_f, eqI_t, eqI_f, geM_t, eqM_f, eqM_g, ltM_f, ltM_t, leM_f, inb_nI, ix_nI, chk_tt, bnd_ss, up_ne, up_self, up_oth, if_true, if_false, reduceCtorEq, Nat.succ_ne_zero]
          rw [if_neg]
          intro g
          have := (of_decide_eq_true g).2.1
          omega
theorem judge_step_b {S T : St} {tx pu rs : Nat → Nat} {st ex n k : Nat} (hn : n ≤ 100) (h3 : S 25 3 = nI (nb tx n)) (ht : ∀ j, j < n → S 26 j = nI (tx j) ∧ tx j ≤ 255) (hp : PNX S pu rs st) {x1 : Int32} (hx : ∀ k, k < nb tx n → (nI k = x1 ↔ k = ex)) (hk : k < nb tx n) (h : XK_b S tx pu rs st ex k T) : ∃ U, OC_judge_b_L7 T x1 (nI k) = some ((nI (k + 1), U), 0) ∧ XK_b S tx pu rs st ex (k + 1) U := by
  have hH := holdsNow_t_b hn ht hp hk h
  obtain ⟨hF, h27, h29, h32, h28, h5, h6⟩ := h
  have h20 := nb_le (tx := tx) hn
  have hfn := fn_le tx pu rs st ex k
  have hnh : ∀ k, nh tx pu rs st ex k ≤ k := by
    intro k
    induction k with
    | zero => exact Nat.le_refl 0
    | succ k ih =>
      unfold nh
      split <;> omega
  have hnk := hnh k
  obtain ⟨r1, r2, r3, r4⟩ := bid_lt hk
  have hJ := jl_rng tx pu rs st ex k
  have e26 : T 26 = S 26 := hF 26 (by decide) (by decide) (by decide) (by decide) (by decide) (by decide)
  have e25 : T 25 3 = nI (nb tx n) := by rw [hF 25 (by decide) (by decide) (by decide) (by decide) (by decide) (by decide)]; exact h3
  have hfs : fn tx pu rs st ex (k + 1) = if fn tx pu rs st ex k ≠ 0 then fn tx pu rs st ex k else if hld tx pu rs st ex k = true ∨ k = ex then 0 else k + 1 := rfl
  have h44 : ∀ t : Int32, t = (if hld tx pu rs st ex k = true then 1 else 0) → ∃ U, OC_judge_b_J44 T x1 (nI k) (nI k) t = some ((nI (k + 1), U), 0) ∧ XK_b S tx pu rs st ex (k + 1) U := by
    intro t ht'
    unfold OC_judge_b_J44
    rw [chk_t (inb_nI (by omega) (by decide)), chk_t (by rw [ht']; split <;> rfl), chk_t (inb_nI (by omega) (by decide)), ix_nI (by omega), up_self]
    have u28 : ∀ j, j < k + 1 → up T 34 k t 34 j = if hld tx pu rs st ex j = true then 1 else 0 := by
      intro j hj
      by_cases c : j = k
      · rw [c, up_self, ht']
      · rw [up_oth c]; exact h28 j (by omega)
    by_cases c : hld tx pu rs st ex k = true
    · have hno : ¬ (jl tx pu rs st ex k (evk tx k) ≠ 0 ∧ bdk tx (jl tx pu rs st ex k (evk tx k) - 1) = bdk tx k) := (of_decide_eq_true (of_decide_eq_true c).2).2.2.1
      rw [if_pos c] at ht'
      rw [if_neg (by rw [ht']; decide)]
      have e26' : up T 34 k t 26 = S 26 := by rw [up_ne (by decide), e26]
      rw [bids_e hn ht e26' hk, bnd_ss, bids_b hn ht e26' hk, bnd_ss, bids_a hn ht e26' hk, bnd_ss]
      obtain ⟨e29, e30, e31⟩ := h29 (evk tx k) r1
      have hjs : jl tx pu rs st ex (k + 1) = updN (jl tx pu rs st ex k) (evk tx k) (k + 1) := by rw [jl_s, if_pos c]
      have hss : jsec tx pu rs st ex (k + 1) = updN (jsec tx pu rs st ex k) (evk tx k) (amX tx (jl tx pu rs st ex k) (evk tx k)) := by
        show (if hld tx pu rs st ex k = true then _ else _) = _
        rw [if_pos c]
      have hns : nh tx pu rs st ex (k + 1) = nh tx pu rs st ex k + 1 := by
        show nh tx pu rs st ex k + (if hld tx pu rs st ex k = true then 1 else 0) = _
        rw [if_pos c]
      have hf1 : (∀ k, k < 20 → k ≠ ex) → T 33 6 = (if fn tx pu rs st ex (k + 1) = 0 then mI else nI (fn tx pu rs st ex (k + 1) - 1)) := by
        intro hno
        rw [h6 hno, hfs]
        by_cases c1 : fn tx pu rs st ex k = 0
        · rw [if_pos c1, if_neg (show ¬ fn tx pu rs st ex k ≠ 0 from fun g => g c1), if_pos (Or.inl c), if_pos rfl]
        · rw [if_pos (show fn tx pu rs st ex k ≠ 0 from c1)]
      -- the new lead, once the old one's amount has been given back
      have h35 : ∀ (U : St) (B : Nat → Nat), (∀ r, r ≠ 34 → r ≠ 38 → U r = T r) → U 34 = up T 34 k t 34 → (∀ b, b < 5 → U 38 b = nI (B b)) → (∀ b, b < 5 → bsum tx (jl tx pu rs st ex (k + 1)) b 10 = if b = bdk tx k then B b + amk tx k else B b) → (∀ b, b < 5 → B b ≤ 990) → ∃ V, bnd (OC_lead_b_J35 U (nI (evk tx k)) (nI (bdk tx k)) (nI (amk tx k))) (fun z4 => some ((nI k + 1, z4), 0)) = some ((nI (k + 1), V), 0) ∧ XK_b S tx pu rs st ex (k + 1) V := by
        intro U B u1 u2 u3 u4 u5
        unfold OC_lead_b_J35
        have b5 := u5 (bdk tx k) r2
        have f30 : U 36 (evk tx k) = nI (amX tx (jl tx pu rs st ex k) (evk tx k)) := by rw [u1 36 (by decide) (by decide)]; exact e30
        have f5 : U 33 5 = nI (nh tx pu rs st ex k) := by rw [u1 33 (by decide) (by decide)]; exact h5
        try simp (disch := omega) only [↓m_1, n_0, n_1, n_2, n_3, n_4, n_5, n_6, n_7, n_8, n_9, n_10, n_16, n_20, n_24, n_31, n_32, n_48, n_52, n_57, n_59, n_60, n_64, n_100, n_1024, nI_add, pk_mul, pk_sub, leI_t, leI_f, ltI_t, ltI_f, eqI_t, eqI_f, geM_t, eqM_f, eqM_g, ltM_f, ltM_t, leM_f, inb_nI, ix_nI, chk_tt, bnd_ss, up_ne, up_self, up_oth, if_true, if_false, reduceCtorEq, Nat.succ_ne_zero, f30, u3 (bdk tx k) r2, f5]
        refine ⟨_, rfl, fun r a b c d e f => ?_, fun j a b => ?_, fun e he => ?_, fun b hb => ?_, fun j hj => ?_, ?_, fun hno => ?_⟩
        · try dsimp only
          rw [up_ne a, up_ne f, up_ne d, up_ne c, up_ne e, u1 r b f, hF r a b c d e f]
        · try dsimp only
          rw [up_oth a, up_ne (by decide), up_ne (by decide), up_ne (by decide), up_ne (by decide), u1 33 (by decide) (by decide), h27 j a b]
        · try dsimp only
          obtain ⟨g1, g2, g3⟩ := h29 e he
          rw [hjs, hss]
          unfold ldX amX
          by_cases ce : e = evk tx k
          · subst ce
            rw [updN_s, updN_s, if_neg (show ¬ k + 1 = 0 by omega), if_neg (show ¬ k + 1 = 0 by omega), Nat.add_sub_cancel]
            try simp (disch := omega) only [↓m_1, n_0, n_1, n_2, n_3, n_4, n_5, n_6, n_7, n_8, n_9, n_10, n_16, n_20, n_24, n_31, n_32, n_48, n_52, n_57, n_59, n_60, n_64, n_100, n_1024, nI_add, pk_mul, pk_sub, leI_t, leI_f, ltI_t, ltI_f, eqI_t, eqI_f, geM_t, eqM_f, eqM_g, ltM_f, ltM_t, leM_f, inb_nI, ix_nI, chk_tt, bnd_ss, up_ne, up_self, up_oth, if_true, if_false, reduceCtorEq, Nat.succ_ne_zero]
            exact ⟨True.intro, True.intro, True.intro⟩
          · rw [updN_n ce, updN_n ce]
            try simp (disch := omega) only [↓m_1, n_0, n_1, n_2, n_3, n_4, n_5, n_6, n_7, n_8, n_9, n_10, n_16, n_20, n_24, n_31, n_32, n_48, n_52, n_57, n_59, n_60, n_64, n_100, n_1024, nI_add, pk_mul, pk_sub, leI_t, leI_f, ltI_t, ltI_f, eqI_t, eqI_f, geM_t, eqM_f, eqM_g, ltM_f, ltM_t, leM_f, inb_nI, ix_nI, chk_tt, bnd_ss, up_ne, up_self, up_oth, if_true, if_false, reduceCtorEq, Nat.succ_ne_zero, u1]
            exact ⟨g1, g2, g3⟩
        · try dsimp only
          rw [u4 b hb]
          by_cases cb : b = bdk tx k
          · rw [if_pos cb, cb]
            try simp (disch := omega) only [↓m_1, n_0, n_1, n_2, n_3, n_4, n_5, n_6, n_7, n_8, n_9, n_10, n_16, n_20, n_24, n_31, n_32, n_48, n_52, n_57, n_59, n_60, n_64, n_100, n_1024, nI_add, pk_mul, pk_sub, leI_t, leI_f, ltI_t, ltI_f, eqI_t, eqI_f, geM_t, eqM_f, eqM_g, ltM_f, ltM_t, leM_f, inb_nI, ix_nI, chk_tt, bnd_ss, up_ne, up_self, up_oth, if_true, if_false, reduceCtorEq, Nat.succ_ne_zero]
          · rw [if_neg cb]
            try simp (disch := omega) only [↓m_1, n_0, n_1, n_2, n_3, n_4, n_5, n_6, n_7, n_8, n_9, n_10, n_16, n_20, n_24, n_31, n_32, n_48, n_52, n_57, n_59, n_60, n_64, n_100, n_1024, nI_add, pk_mul, pk_sub, leI_t, leI_f, ltI_t, ltI_f, eqI_t, eqI_f, geM_t, eqM_f, eqM_g, ltM_f, ltM_t, leM_f, inb_nI, ix_nI, chk_tt, bnd_ss, up_ne, up_self, up_oth, if_true, if_false, reduceCtorEq, Nat.succ_ne_zero]
            exact u3 b hb
        · try dsimp only
          try simp (disch := omega) only [↓m_1, n_0, n_1, n_2, n_3, n_4, n_5, n_6, n_7, n_8, n_9, n_10, n_16, n_20, n_24, n_31, n_32, n_48, n_52, n_57, n_59, n_60, n_64, n_100, n_1024, nI_add, pk_mul, pk_sub, leI_t, leI_f, ltI_t, ltI_f, eqI_t, eqI_f, geM_t, eqM_f, eqM_g, ltM_f, ltM_t, leM_f, inb_nI, ix_nI, chk_tt, bnd_ss, up_ne, up_self, up_oth, if_true, if_false, reduceCtorEq, Nat.succ_ne_zero]
          rw [u2]
          exact u28 j hj
        · try dsimp only
          rw [up_self, hns]
        · try dsimp only
          try simp (disch := omega) only [↓m_1, n_0, n_1, n_2, n_3, n_4, n_5, n_6, n_7, n_8, n_9, n_10, n_16, n_20, n_24, n_31, n_32, n_48, n_52, n_57, n_59, n_60, n_64, n_100, n_1024, nI_add, pk_mul, pk_sub, leI_t, leI_f, ltI_t, ltI_f, eqI_t, eqI_f, geM_t, eqM_f, eqM_g, ltM_f, ltM_t, leM_f, inb_nI, ix_nI, chk_tt, bnd_ss, up_ne, up_self, up_oth, if_true, if_false, reduceCtorEq, Nat.succ_ne_zero]
          rw [u1 33 (by decide) (by decide)]
          exact hf1 hno
      have hlb : ∀ b m, bsum tx (jl tx pu rs st ex k) b m ≤ 99 * m := fun b m => bsum_le (n := n) (N := k) (fun e => (hJ e).1) (by omega) m
      -- sums with the new lead
      have hsum : ∀ b m, bsum tx (updN (jl tx pu rs st ex k) (evk tx k) (k + 1)) b m + (if evk tx k < m ∧ jl tx pu rs st ex k (evk tx k) ≠ 0 ∧ bdk tx (jl tx pu rs st ex k (evk tx k) - 1) = b then amk tx (jl tx pu rs st ex k (evk tx k) - 1) else 0) = bsum tx (jl tx pu rs st ex k) b m + (if evk tx k < m ∧ bdk tx k = b then amk tx k else 0) := by
        intro b m
        induction m with
        | zero =>
          rw [if_neg (fun g => by omega), if_neg (fun g => by omega)]
          rfl
        | succ m ih =>
          unfold bsum
          by_cases cm : m = evk tx k
          · have n1 : ¬ (evk tx k < m) := by omega
            rw [if_neg (fun g => n1 g.1), if_neg (fun g => n1 g.1)] at ih
            have ih : bsum tx (updN (jl tx pu rs st ex k) (evk tx k) (k + 1)) b m = bsum tx (jl tx pu rs st ex k) b m := ih
            subst cm
            rw [updN_s, ih, Nat.add_sub_cancel]
            have w1 : (evk tx k < evk tx k + 1 ∧ jl tx pu rs st ex k (evk tx k) ≠ 0 ∧ bdk tx (jl tx pu rs st ex k (evk tx k) - 1) = b) ↔ (jl tx pu rs st ex k (evk tx k) ≠ 0 ∧ bdk tx (jl tx pu rs st ex k (evk tx k) - 1) = b) := ⟨fun g => g.2, fun g => ⟨by omega, g⟩⟩
            have w2 : (evk tx k < evk tx k + 1 ∧ bdk tx k = b) ↔ bdk tx k = b := ⟨fun g => g.2, fun g => ⟨by omega, g⟩⟩
            have w3 : (k + 1 ≠ 0 ∧ bdk tx k = b) ↔ bdk tx k = b := ⟨fun g => g.2, fun g => ⟨by omega, g⟩⟩
            simp only [w1, w2, w3]
            omega
          · rw [updN_n cm]
            have w1 : (evk tx k < m + 1 ∧ jl tx pu rs st ex k (evk tx k) ≠ 0 ∧ bdk tx (jl tx pu rs st ex k (evk tx k) - 1) = b) ↔ (evk tx k < m ∧ jl tx pu rs st ex k (evk tx k) ≠ 0 ∧ bdk tx (jl tx pu rs st ex k (evk tx k) - 1) = b) := ⟨fun g => ⟨by omega, g.2⟩, fun g => ⟨by omega, g.2⟩⟩
            have w2 : (evk tx k < m + 1 ∧ bdk tx k = b) ↔ (evk tx k < m ∧ bdk tx k = b) := ⟨fun g => ⟨by omega, g.2⟩, fun g => ⟨by omega, g.2⟩⟩
            simp only [w1, w2]
            omega
      unfold OC_lead_b
      have g29 : up T 34 k t 35 (evk tx k) = ldX tx (jl tx pu rs st ex k) (evk tx k) := by rw [up_ne (by decide)]; exact e29
      have g30 : up T 34 k t 36 (evk tx k) = nI (amX tx (jl tx pu rs st ex k) (evk tx k)) := by rw [up_ne (by decide)]; exact e30
      rw [chk_t (inb_nI r1 (by decide)), ix_nI (by omega), g29]
      unfold ldX
      by_cases cl : jl tx pu rs st ex k (evk tx k) = 0
      · rw [if_pos cl, if_pos (show mI < 0 by decide)]
        refine h35 _ (fun b => bsum tx (jl tx pu rs st ex k) b 10) (fun r a b => up_ne a) rfl (fun b hb => by rw [up_ne (by decide)]; exact h32 b hb) (fun b hb => ?_) (fun b hb => hlb b 10)
        have := hsum b 10
        rw [if_neg (fun g => g.2.1 cl)] at this
        rw [hjs]
        by_cases cb : b = bdk tx k
        · rw [if_pos ⟨r1, cb.symm⟩] at this
          rw [if_pos cb]; exact this
        · rw [if_neg (fun g => cb g.2.symm)] at this
          rw [if_neg cb]; exact this
      · have hlr := bid_lt (tx := tx) (n := n) (k := jl tx pu rs st ex k (evk tx k) - 1) (by have := (hJ (evk tx k)).1; omega)
        have ho : bdk tx (jl tx pu rs st ex k (evk tx k) - 1) ≠ bdk tx k := fun g => hno ⟨cl, g⟩
        have ea : amX tx (jl tx pu rs st ex k) (evk tx k) = amk tx (jl tx pu rs st ex k (evk tx k) - 1) := if_neg cl
        rw [if_neg cl]
        have g32 : up T 34 k t 38 (bdk tx (jl tx pu rs st ex k (evk tx k) - 1)) = nI (bsum tx (jl tx pu rs st ex k) (bdk tx (jl tx pu rs st ex k (evk tx k) - 1)) 10) := by rw [up_ne (by decide)]; exact h32 _ hlr.2.1
        have hold := hsum (bdk tx (jl tx pu rs st ex k (evk tx k) - 1)) 10
        rw [if_pos ⟨r1, cl, rfl⟩, if_neg (fun g => ho g.2.symm)] at hold
        rw [if_neg (by rw [n_0]; try simp (disch := omega) only [↓m_1, n_0, n_1, n_2, n_3, n_4, n_5, n_6, n_7, n_8, n_9, n_10, n_16, n_20, n_24, n_31, n_32, n_48, n_52, n_57, n_59, n_60, n_64, n_100, n_1024, nI_add, pk_mul, pk_sub, leI_t, leI_f, ltI_t, ltI_f, eqI_t, eqI_f, geM_t, eqM_f, eqM_g, ltM_f, ltM_t, leM_f, inb_nI, ix_nI, chk_tt, bnd_ss, up_ne, up_self, up_oth, if_true, if_false, reduceCtorEq, Nat.succ_ne_zero]; exact fun g => g), if_neg (by rw [n_5]; try simp (disch := omega) only [↓m_1, n_0, n_1, n_2, n_3, n_4, n_5, n_6, n_7, n_8, n_9, n_10, n_16, n_20, n_24, n_31, n_32, n_48, n_52, n_57, n_59, n_60, n_64, n_100, n_1024, nI_add, pk_mul, pk_sub, leI_t, leI_f, ltI_t, ltI_f, eqI_t, eqI_f, geM_t, eqM_f, eqM_g, ltM_f, ltM_t, leM_f, inb_nI, ix_nI, chk_tt, bnd_ss, up_ne, up_self, up_oth, if_true, if_false, reduceCtorEq, Nat.succ_ne_zero]; exact fun g => g), chk_t (inb_nI hlr.2.1 (by decide)), chk_t (inb_nI r1 (by decide)), chk_t (inb_nI hlr.2.1 (by decide)), ix_nI (by omega), g32, g30, ea, pk_sub (by omega)]
        refine h35 _ (fun b => if b = bdk tx (jl tx pu rs st ex k (evk tx k) - 1) then bsum tx (jl tx pu rs st ex k) b 10 - amk tx (jl tx pu rs st ex k (evk tx k) - 1) else bsum tx (jl tx pu rs st ex k) b 10) (fun r a b => by rw [up_ne b, up_ne a]) (by rw [up_ne (by decide)]) (fun b hb => ?_) (fun b hb => ?_) (fun b hb => ?_)
        · try dsimp only
          by_cases cb : b = bdk tx (jl tx pu rs st ex k (evk tx k) - 1)
          · rw [if_pos cb, cb, up_self]
          · rw [if_neg cb, up_oth cb, up_ne (by decide)]; exact h32 b hb
        · try dsimp only
          have := hsum b 10
          rw [hjs]
          by_cases cb : b = bdk tx k
          · have c3 : ¬ bdk tx (jl tx pu rs st ex k (evk tx k) - 1) = b := fun g => ho (g.trans cb)
            rw [if_neg (fun g => c3 g.2.2), if_pos ⟨r1, cb.symm⟩] at this
            rw [if_pos cb, if_neg (fun g => c3 g.symm)]; exact this
          · rw [if_neg (fun g : evk tx k < 10 ∧ bdk tx k = b => cb g.2.symm)] at this
            rw [if_neg cb]
            by_cases c3 : b = bdk tx (jl tx pu rs st ex k (evk tx k) - 1)
            · rw [if_pos ⟨r1, cl, c3.symm⟩] at this
              rw [if_pos c3]; omega
            · rw [if_neg (fun g => c3 g.2.2.symm)] at this
              rw [if_neg c3]; exact this
        · try dsimp only
          have := hlb b 10
          split <;> omega
    · rw [if_neg c] at ht'
      rw [if_pos ht']
      have hjs : jl tx pu rs st ex (k + 1) = jl tx pu rs st ex k := by rw [jl_s, if_neg c]
      have hss : jsec tx pu rs st ex (k + 1) = jsec tx pu rs st ex k := by
        show (if hld tx pu rs st ex k = true then _ else _) = _
        rw [if_neg c]
      have hns : nh tx pu rs st ex (k + 1) = nh tx pu rs st ex k := by
        show nh tx pu rs st ex k + (if hld tx pu rs st ex k = true then 1 else 0) = _
        rw [if_neg c]
        rfl
      have fin : ∀ V : St, (∀ r, r ≠ 33 → r ≠ 34 → V r = T r) → (∀ j, j ≠ 6 → V 33 j = T 33 j) → V 34 = up T 34 k t 34 → ((∀ k, k < 20 → k ≠ ex) → V 33 6 = (if fn tx pu rs st ex (k + 1) = 0 then mI else nI (fn tx pu rs st ex (k + 1) - 1))) → XK_b S tx pu rs st ex (k + 1) V := by
        intro V v1 v2 v3 v4
        refine ⟨fun r a b c d e f => by rw [v1 r a b, hF r a b c d e f], fun j a b => by rw [v2 j b, h27 j a b], fun e he => ?_, fun b hb => ?_, fun j hj => ?_, ?_, v4⟩
        · rw [hjs, hss, v1 35 (by decide) (by decide), v1 36 (by decide) (by decide), v1 37 (by decide) (by decide)]
          exact h29 e he
        · rw [hjs, v1 38 (by decide) (by decide)]; exact h32 b hb
        · rw [v3]; exact u28 j hj
        · rw [v2 5 (by decide), hns]; exact h5
      rw [nI_1]
      by_cases c6 : up T 34 k t 33 6 = -1
      · rw [if_pos c6]
        refine ⟨_, rfl, fin _ (fun r a b => by rw [up_ne a, up_ne b]) (fun j a => by rw [up_oth a, up_ne (by decide)]) (by rw [up_ne (by decide)]) (fun hno => ?_)⟩
        rw [up_self]
        rw [up_ne (by decide), h6 hno, m_1] at c6
        have c7 : fn tx pu rs st ex k = 0 := by
          by_cases c8 : fn tx pu rs st ex k = 0
          · exact c8
          · rw [if_neg c8, eqM_f (by omega)] at c6
            exact c6.elim
        rw [if_neg (fun g => g c7), if_neg (fun g => g.elim c (hno k (by omega)))] at hfs
        rw [hfs, if_neg (by omega)]
        rfl
      · rw [if_neg c6]
        refine ⟨_, rfl, fin _ (fun r a b => by rw [up_ne b]) (fun j a => by rw [up_ne (by decide)]) rfl (fun hno => ?_)⟩
        rw [up_ne (by decide), h6 hno, m_1] at c6
        rw [up_ne (by decide), h6 hno]
        by_cases c8 : fn tx pu rs st ex k = 0
        · rw [if_pos c8] at c6
          exact absurd rfl c6
        · rw [if_pos c8] at hfs
          rw [hfs]
  unfold OC_judge_b_L7 OC_judge_b_J43
  rw [e25, if_neg (by rw [nI_leI (by omega) (by omega)]; omega)]
  by_cases c : k = ex
  · rw [if_pos ((hx k hk).mpr c)]
    refine h44 0 ?_
    rw [if_neg]
    intro g
    exact (of_decide_eq_true g).1 c
  · rw [if_neg (fun g => c ((hx k hk).mp g)), hH, bnd_ss]
    by_cases c2 : hd tx pu rs st (jl tx pu rs st ex k) k = true
    · rw [if_pos c2, if_neg (by decide)]
      refine h44 1 ?_
      rw [if_pos (show hld tx pu rs st ex k = true from decide_eq_true ⟨c, c2⟩)]
    · rw [if_neg c2, if_pos rfl]
      refine h44 0 ?_
      rw [if_neg]
      intro g
      exact c2 (of_decide_eq_true g).2
theorem judge_t_b {S : St} {tx pu rs : Nat → Nat} {st ex n : Nat} (hn : n ≤ 100) (h3 : S 25 3 = nI (nb tx n)) (ht : ∀ j, j < n → S 26 j = nI (tx j) ∧ tx j ≤ 255) (hp : PNX S pu rs st) {x1 : Int32} (hx : ∀ k, k < nb tx n → (nI k = x1 ↔ k = ex)) : ∃ T, OC_judge_b S x1 = some T ∧ XK_b S tx pu rs st ex (nb tx n) T := by
  have h20 := nb_le (tx := tx) hn
  obtain ⟨T, hT, h0⟩ := oclear_t_b (S := S) (tx := tx) (pu := pu) (rs := rs) (st := st) (ex := ex)
  unfold OC_judge_b
  rw [hT, bnd_ss]
  obtain ⟨r, hr, r1, r2⟩ := lp_cnt (st := fun q : Int32 × St => OC_judge_b_L7 q.2 x1 q.1) (fun j q => q.1 = nI j ∧ XK_b S tx pu rs st ex j q.2) (nb tx n) (by omega) (q0 := (0, T)) ⟨rfl, h0⟩ (fun j q hj h => by
    obtain ⟨x, U⟩ := q
    obtain ⟨h1, h2⟩ := h
    dsimp only at h1 h2
    subst h1
    obtain ⟨V, g1, g2⟩ := judge_step_b hn h3 ht hp hx hj h2
    exact ⟨(nI (j + 1), V), g1, rfl, g2⟩) (fun q h => by
    obtain ⟨x, U⟩ := q
    obtain ⟨h1, h2⟩ := h
    dsimp only at h1 h2
    subst h1
    try dsimp only
    unfold OC_judge_b_L7
    have e25 : U 25 3 = nI (nb tx n) := by rw [h2.1 25 (by decide) (by decide) (by decide) (by decide) (by decide) (by decide)]; exact h3
    rw [e25]
    try simp (disch := omega) only [↓m_1, n_0, n_1, n_2, n_3, n_4, n_5, n_6, n_7, n_8, n_9, n_10, n_16, n_20, n_24, n_31, n_32, n_48, n_52, n_57, n_59, n_60, n_64, n_100, n_1024, nI_add, pk_mul, pk_sub, leI_t, leI_f, ltI_t, ltI_f, eqI_t, eqI_f, geM_t, eqM_f, eqM_g, ltM_f, ltM_t, leM_f, inb_nI, ix_nI, chk_tt, bnd_ss, up_ne, up_self, up_oth, if_true, if_false, reduceCtorEq, Nat.succ_ne_zero])
  rw [hr, bnd_ss]
  exact ⟨r.2, rfl, r2⟩
