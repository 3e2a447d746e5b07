/-! ===== the bids judged one by one ===== -/
theorem updN_s {f : Nat → Nat} {i v : Nat} : updN f i v i = v := if_pos rfl
theorem updN_n {f : Nat → Nat} {i v j : Nat} (h : j ≠ i) : updN f i v j = f j := if_neg h
theorem jl_s (tx pu rs : Nat → Nat) (st ex k : Nat) : jl tx pu rs st ex (k + 1) = if hld tx pu rs st ex k = true then updN (jl tx pu rs st ex k) (evk tx k) (k + 1) else jl tx pu rs st ex k := by
  unfold hld
  show (if k ≠ ex ∧ hd tx pu rs st (jl tx pu rs st ex k) k = true then updN (jl tx pu rs st ex k) (evk tx k) (k + 1) else jl tx pu rs st ex k) = _
  by_cases h : k ≠ ex ∧ hd tx pu rs st (jl tx pu rs st ex k) k = true
  · rw [if_pos h, if_pos (decide_eq_true h)]
  · rw [if_neg h, if_neg (fun g => h (of_decide_eq_true g))]
theorem jl_rng (tx pu rs : Nat → Nat) (st ex : Nat) : ∀ k e, jl tx pu rs st ex k e ≤ k ∧ (jl tx pu rs st ex k e ≠ 0 → evk tx (jl tx pu rs st ex k e - 1) = e) := by
  intro k
  induction k with
  | zero => intro e; exact ⟨Nat.le_refl 0, fun h => absurd rfl h⟩
  | succ k ih =>
    intro e
    rw [jl_s]
    by_cases h : hld tx pu rs st ex k = true
    · rw [if_pos h]
      by_cases he : e = evk tx k
      · rw [he, updN_s]
        exact ⟨Nat.le_refl _, fun _ => rfl⟩
      · rw [updN_n he]
        have := ih e
        exact ⟨by omega, this.2⟩
    · rw [if_neg h]
      have := ih e
      exact ⟨by omega, this.2⟩
theorem bsx_eq {tx l : Nat → Nat} {b x : Nat} (h : ¬ (l x ≠ 0 ∧ bdk tx (l x - 1) = b)) : ∀ m, bsx tx l b x m = bsum tx l b m := by
  intro m
  induction m with
  | zero => rfl
  | succ m ih =>
    unfold bsx bsum
    rw [ih]
    by_cases hm : m = x
    · subst hm
      rw [if_neg (fun g => g.1 rfl), if_neg h]
    · by_cases c : l m ≠ 0 ∧ bdk tx (l m - 1) = b
      · rw [if_pos ⟨hm, c⟩, if_pos c]
      · rw [if_neg (fun g => c g.2), if_neg c]
theorem bsum_le {tx l : Nat → Nat} {b N n : Nat} (hl : ∀ e, l e ≤ N) (hN : N ≤ nb tx n) : ∀ m, bsum tx l b m ≤ 99 * m := by
  intro m
  induction m with
  | zero => exact Nat.le_refl 0
  | succ m ih =>
    unfold bsum
    split
    · rename_i h
      have := (bid_lt (tx := tx) (n := n) (k := l m - 1) (by have := hl m; omega)).2.2.2
      omega
    · omega
theorem bsx_le {tx l : Nat → Nat} {b x N n : Nat} (hl : ∀ e, l e ≤ N) (hN : N ≤ nb tx n) : ∀ m, bsx tx l b x m ≤ 99 * m := by
  intro m
  induction m with
  | zero => exact Nat.le_refl 0
  | succ m ih =>
    unfold bsx
    split
    · rename_i h
      have := (bid_lt (tx := tx) (n := n) (k := l m - 1) (by have := hl m; omega)).2.2.2
      omega
    · omega
/-- the reference's rows, as the leads have them -/
def JM (tx : Nat → Nat) (n : Nat) (T : St) (l : Nat → Nat) : Prop := n ≤ 100 ∧ ent tx (T 55) (nb tx n) ∧ (∀ e, e < 10 → T 64 e = ldM l e) ∧ ∀ e, l e ≤ nb tx n
theorem JM_bid {tx : Nat → Nat} {n : Nat} {T : St} {l : Nat → Nat} (h : JM tx n T l) {e : Nat} (hl : l e ≠ 0) : l e - 1 < 20 ∧ bdk tx (l e - 1) < 5 ∧ 1 ≤ amk tx (l e - 1) ∧ amk tx (l e - 1) ≤ 99 := by
  have h1 := h.2.2.2 e
  have h2 := nb_le (tx := tx) h.1
  have h3 := bid_lt (tx := tx) (n := n) (k := l e - 1) (by omega)
  exact ⟨by omega, h3.2⟩
theorem ownerOf_t {tx : Nat → Nat} {n : Nat} {T : St} {l : Nat → Nat} (h : JM tx n T l) {e : Nat} (he : e < 10) : M_ownerOf T (nI e) = some (ldX tx l e) := by
  unfold M_ownerOf ldX
  try simp (disch := omega) only [↓m_1, n_0, n_1, n_2, n_3, n_4, n_5, n_6, n_7, n_8, n_9, n_10, n_16, n_20, n_24, n_31, n_32, n_48, n_52, n_57, n_59, n_60, n_64, n_100, n_1024, nI_add, pk_mul, pk_sub, leI_t, leI_f, ltI_t, ltI_f, eqI_t, eqI_f, geM_t, eqM_f, eqM_g, ltM_f, ltM_t, leM_f, inb_nI, ix_nI, chk_tt, bnd_ss, up_ne, up_self, up_oth, if_true, if_false, reduceCtorEq, Nat.succ_ne_zero, h.2.2.1 e he]
  unfold ldM
  by_cases c : l e = 0
  · try simp (disch := omega) only [↓m_1, n_0, n_1, n_2, n_3, n_4, n_5, n_6, n_7, n_8, n_9, n_10, n_16, n_20, n_24, n_31, n_32, n_48, n_52, n_57, n_59, n_60, n_64, n_100, n_1024, nI_add, pk_mul, pk_sub, leI_t, leI_f, ltI_t, ltI_f, eqI_t, eqI_f, geM_t, eqM_f, eqM_g, ltM_f, ltM_t, leM_f, inb_nI, ix_nI, chk_tt, bnd_ss, up_ne, up_self, up_oth, if_true, if_false, reduceCtorEq, Nat.succ_ne_zero, c]
  · have hb := JM_bid h c
    rw [if_neg c, if_neg c]
    try simp (disch := omega) only [↓m_1, n_0, n_1, n_2, n_3, n_4, n_5, n_6, n_7, n_8, n_9, n_10, n_16, n_20, n_24, n_31, n_32, n_48, n_52, n_57, n_59, n_60, n_64, n_100, n_1024, nI_add, pk_mul, pk_sub, leI_t, leI_f, ltI_t, ltI_f, eqI_t, eqI_f, geM_t, eqM_f, eqM_g, ltM_f, ltM_t, leM_f, inb_nI, ix_nI, chk_tt, bnd_ss, up_ne, up_self, up_oth, if_true, if_false, reduceCtorEq, Nat.succ_ne_zero, (h.2.1 (l e - 1) (by have := h.2.2.2 e; omega)).2.1]
theorem amountOf_t {tx : Nat → Nat} {n : Nat} {T : St} {l : Nat → Nat} (h : JM tx n T l) {e : Nat} (he : e < 10) : M_amountOf T (nI e) = some (nI (amX tx l e)) := by
  unfold M_amountOf amX
  try simp (disch := omega) only [↓m_1, n_0, n_1, n_2, n_3, n_4, n_5, n_6, n_7, n_8, n_9, n_10, n_16, n_20, n_24, n_31, n_32, n_48, n_52, n_57, n_59, n_60, n_64, n_100, n_1024, nI_add, pk_mul, pk_sub, leI_t, leI_f, ltI_t, ltI_f, eqI_t, eqI_f, geM_t, eqM_f, eqM_g, ltM_f, ltM_t, leM_f, inb_nI, ix_nI, chk_tt, bnd_ss, up_ne, up_self, up_oth, if_true, if_false, reduceCtorEq, Nat.succ_ne_zero, h.2.2.1 e he]
  unfold ldM
  by_cases c : l e = 0
  · try simp (disch := omega) only [↓m_1, n_0, n_1, n_2, n_3, n_4, n_5, n_6, n_7, n_8, n_9, n_10, n_16, n_20, n_24, n_31, n_32, n_48, n_52, n_57, n_59, n_60, n_64, n_100, n_1024, nI_add, pk_mul, pk_sub, leI_t, leI_f, ltI_t, ltI_f, eqI_t, eqI_f, geM_t, eqM_f, eqM_g, ltM_f, ltM_t, leM_f, inb_nI, ix_nI, chk_tt, bnd_ss, up_ne, up_self, up_oth, if_true, if_false, reduceCtorEq, Nat.succ_ne_zero, c]
  · have hb := JM_bid h c
    rw [if_neg c, if_neg c]
    try simp (disch := omega) only [↓m_1, n_0, n_1, n_2, n_3, n_4, n_5, n_6, n_7, n_8, n_9, n_10, n_16, n_20, n_24, n_31, n_32, n_48, n_52, n_57, n_59, n_60, n_64, n_100, n_1024, nI_add, pk_mul, pk_sub, leI_t, leI_f, ltI_t, ltI_f, eqI_t, eqI_f, geM_t, eqM_f, eqM_g, ltM_f, ltM_t, leM_f, inb_nI, ix_nI, chk_tt, bnd_ss, up_ne, up_self, up_oth, if_true, if_false, reduceCtorEq, Nat.succ_ne_zero, (h.2.1 (l e - 1) (by have := h.2.2.2 e; omega)).2.2]
theorem ldX_eq {tx : Nat → Nat} {n : Nat} {T : St} {l : Nat → Nat} (h : JM tx n T l) {e b : Nat} (hb : b < 2147483648) : (ldX tx l e = nI b) = (l e ≠ 0 ∧ bdk tx (l e - 1) = b) := by
  unfold ldX
  by_cases c : l e = 0
  · rw [if_pos c]
    try simp (disch := omega) only [↓m_1, n_0, n_1, n_2, n_3, n_4, n_5, n_6, n_7, n_8, n_9, n_10, n_16, n_20, n_24, n_31, n_32, n_48, n_52, n_57, n_59, n_60, n_64, n_100, n_1024, nI_add, pk_mul, pk_sub, leI_t, leI_f, ltI_t, ltI_f, eqI_t, eqI_f, geM_t, eqM_f, eqM_g, ltM_f, ltM_t, leM_f, inb_nI, ix_nI, chk_tt, bnd_ss, up_ne, up_self, up_oth, if_true, if_false, reduceCtorEq, Nat.succ_ne_zero]
    exact (eq_false (fun g => g.1 c)).symm
  · have hb2 := JM_bid h c
    rw [if_neg c, nI_eq (by omega) (by omega)]
    exact propext ⟨fun g => ⟨c, g⟩, fun g => g.2⟩
theorem leadsWith_t {tx : Nat → Nat} {n : Nat} {T : St} {l : Nat → Nat} (h : JM tx n T l) {b x : Nat} (hb : b < 5) (hx : x < 10) : M_leadsWith T (nI b) (nI x) = some (nI (bsx tx l b x 10)) := by
  unfold M_leadsWith
  have hg : lp (σ := Int32 × Int32) (fun q => M_leadsWith_L5 T (nI b) (nI x) q.1 q.2) FZ (0, 0) = some ((nI (bsx tx l b x 10), nI 10), 1) := by
    refine lp_1 (fun j => (nI (bsx tx l b x j), nI j)) 10 rfl ?_ ?_ (by decide)
    · intro j hj
      have hle := bsx_le (b := b) (x := x) h.2.2.2 (Nat.le_refl _) j
      dsimp only
      unfold M_leadsWith_L5
      try simp (disch := omega) only [↓m_1, n_0, n_1, n_2, n_3, n_4, n_5, n_6, n_7, n_8, n_9, n_10, n_16, n_20, n_24, n_31, n_32, n_48, n_52, n_57, n_59, n_60, n_64, n_100, n_1024, nI_add, pk_mul, pk_sub, leI_t, leI_f, ltI_t, ltI_f, eqI_t, eqI_f, geM_t, eqM_f, eqM_g, ltM_f, ltM_t, leM_f, inb_nI, ix_nI, chk_tt, bnd_ss, up_ne, up_self, up_oth, if_true, if_false, reduceCtorEq, Nat.succ_ne_zero, ownerOf_t h hj, amountOf_t h hj, ldX_eq h]
      show _ = some ((nI (bsx tx l b x j + (if j ≠ x ∧ l j ≠ 0 ∧ bdk tx (l j - 1) = b then amk tx (l j - 1) else 0)), nI (j + 1)), 0)
      by_cases c : j = x
      · try simp (disch := omega) only [↓m_1, n_0, n_1, n_2, n_3, n_4, n_5, n_6, n_7, n_8, n_9, n_10, n_16, n_20, n_24, n_31, n_32, n_48, n_52, n_57, n_59, n_60, n_64, n_100, n_1024, nI_add, pk_mul, pk_sub, leI_t, leI_f, ltI_t, ltI_f, eqI_t, eqI_f, geM_t, eqM_f, eqM_g, ltM_f, ltM_t, leM_f, inb_nI, ix_nI, chk_tt, bnd_ss, up_ne, up_self, up_oth, if_true, if_false, reduceCtorEq, Nat.succ_ne_zero, c]
        rw [if_neg (fun g => g.1 rfl)]
      · try simp (disch := omega) only [↓m_1, n_0, n_1, n_2, n_3, n_4, n_5, n_6, n_7, n_8, n_9, n_10, n_16, n_20, n_24, n_31, n_32, n_48, n_52, n_57, n_59, n_60, n_64, n_100, n_1024, nI_add, pk_mul, pk_sub, leI_t, leI_f, ltI_t, ltI_f, eqI_t, eqI_f, geM_t, eqM_f, eqM_g, ltM_f, ltM_t, leM_f, inb_nI, ix_nI, chk_tt, bnd_ss, up_ne, up_self, up_oth, if_true, if_false, reduceCtorEq, Nat.succ_ne_zero, ownerOf_t h hj, amountOf_t h hj, ldX_eq h]
        by_cases c2 : l j ≠ 0 ∧ bdk tx (l j - 1) = b
        · rw [if_pos c2, if_pos ⟨c, c2⟩]
          unfold amX
          rw [if_neg c2.1]
        · rw [if_neg c2, if_neg (fun g => c2 g.2)]
    · dsimp only
      unfold M_leadsWith_L5
      try simp (disch := omega) only [↓m_1, n_0, n_1, n_2, n_3, n_4, n_5, n_6, n_7, n_8, n_9, n_10, n_16, n_20, n_24, n_31, n_32, n_48, n_52, n_57, n_59, n_60, n_64, n_100, n_1024, nI_add, pk_mul, pk_sub, leI_t, leI_f, ltI_t, ltI_f, eqI_t, eqI_f, geM_t, eqM_f, eqM_g, ltM_f, ltM_t, leM_f, inb_nI, ix_nI, chk_tt, bnd_ss, up_ne, up_self, up_oth, if_true, if_false, reduceCtorEq, Nat.succ_ne_zero]
  rw [hg, bnd_ss]
  rfl
/-- the numbers of the town that the judging rests on -/
def PN (T : St) (pu rs : Nat → Nat) (st : Nat) : Prop := (∀ b, b < 5 → T 56 b = nI (pu b) ∧ pu b ≤ 999) ∧ (∀ e, e < 10 → T 60 e = nI (rs e) ∧ rs e ≤ 99) ∧ T 62 0 = nI st ∧ st ≤ 20
theorem isHolding_t {tx pu rs : Nat → Nat} {st n : Nat} {T : St} {l : Nat → Nat} (h : JM tx n T l) (hp : PN T pu rs st) {k : Nat} (hk : k < nb tx n) : M_isHolding T (nI k) = some (if hd tx pu rs st l k = true then 1 else 0) := by
  have h20 := nb_le (tx := tx) h.1
  obtain ⟨r1, r2, r3, r4⟩ := bid_lt hk
  obtain ⟨e1, e2, e3⟩ := h.2.1 k hk
  have hle := bsx_le (b := bdk tx k) (x := evk tx k) h.2.2.2 (Nat.le_refl _) 10
  unfold M_isHolding hd
  try simp (disch := omega) only [↓m_1, n_0, n_1, n_2, n_3, n_4, n_5, n_6, n_7, n_8, n_9, n_10, n_16, n_20, n_24, n_31, n_32, n_48, n_52, n_57, n_59, n_60, n_64, n_100, n_1024, nI_add, pk_mul, pk_sub, leI_t, leI_f, ltI_t, ltI_f, eqI_t, eqI_f, geM_t, eqM_f, eqM_g, ltM_f, ltM_t, leM_f, inb_nI, ix_nI, chk_tt, bnd_ss, up_ne, up_self, up_oth, if_true, if_false, reduceCtorEq, Nat.succ_ne_zero, e1, e2, e3, (hp.2.1 (evk tx k) r1).1, h.2.2.1 (evk tx k) r1, amountOf_t h r1, hp.2.2.1, nI_ltI]
  have hrs := (hp.2.1 (evk tx k) r1).2
  have hst := hp.2.2.2
  have hpu := hp.1 (bdk tx k) r2
  have h74 : M_isHolding_J74 T (nI (evk tx k)) (nI (bdk tx k)) (nI (amk tx k)) = some 0 := by
    unfold M_isHolding_J74 M_isHolding_J75
    rw [if_pos rfl]
  have h70 : M_isHolding_J70 T (nI (evk tx k)) (nI (bdk tx k)) (nI (amk tx k)) = some (if ¬ (l (evk tx k) ≠ 0 ∧ bdk tx (l (evk tx k) - 1) = bdk tx k) ∧ bsum tx l (bdk tx k) 10 + amk tx k ≤ pu (bdk tx k) then 1 else 0) := by
    unfold M_isHolding_J70 M_isHolding_J75
    rw [if_neg (by decide), ownerOf_t h r1, bnd_ss]
    by_cases c1 : l (evk tx k) ≠ 0 ∧ bdk tx (l (evk tx k) - 1) = bdk tx k
    · rw [if_pos ((ldX_eq h (by omega)).mpr c1), if_neg (fun g => g.1 c1)]
    · rw [if_neg (fun g => c1 ((ldX_eq h (by omega)).mp g)), leadsWith_t h r2 r1, bnd_ss, bsx_eq c1] 
      rw [bsx_eq c1] at hle
      by_cases c2 : bsum tx l (bdk tx k) 10 + amk tx k ≤ pu (bdk tx k)
      · try simp (disch := omega) only [↓m_1, n_0, n_1, n_2, n_3, n_4, n_5, n_6, n_7, n_8, n_9, n_10, n_16, n_20, n_24, n_31, n_32, n_48, n_52, n_57, n_59, n_60, n_64, n_100, n_1024, nI_add, pk_mul, pk_sub, leI_t, leI_f, ltI_t, ltI_f, eqI_t, eqI_f, geM_t, eqM_f, eqM_g, ltM_f, ltM_t, leM_f, inb_nI, ix_nI, chk_tt, bnd_ss, up_ne, up_self, up_oth, if_true, if_false, reduceCtorEq, Nat.succ_ne_zero, hpu.1]
        rw [if_pos ⟨c1, c2⟩]
      · try simp (disch := omega) only [↓m_1, n_0, n_1, n_2, n_3, n_4, n_5, n_6, n_7, n_8, n_9, n_10, n_16, n_20, n_24, n_31, n_32, n_48, n_52, n_57, n_59, n_60, n_64, n_100, n_1024, nI_add, pk_mul, pk_sub, leI_t, leI_f, ltI_t, ltI_f, eqI_t, eqI_f, geM_t, eqM_f, eqM_g, ltM_f, ltM_t, leM_f, inb_nI, ix_nI, chk_tt, bnd_ss, up_ne, up_self, up_oth, if_true, if_false, reduceCtorEq, Nat.succ_ne_zero, hpu.1]
        rw [if_neg (fun g => c2 g.2)]
  rw [h74, h70]
  unfold ldM
  by_cases c1 : amk tx k < rs (evk tx k)
  · rw [if_pos ((nI_ltI (by omega) (by omega)).mpr c1), if_neg]
    · rfl
    · rw [decide_eq_true_eq]
      rintro ⟨g, -⟩
      omega
  · rw [if_neg (fun g => c1 ((nI_ltI (by omega) (by omega)).mp g))]
    by_cases c2 : l (evk tx k) = 0
    · rw [if_pos c2]
      try simp (disch := omega) only [↓m_1, n_0, n_1, n_2, n_3, n_4, n_5, n_6, n_7, n_8, n_9, n_10, n_16, n_20, n_24, n_31, n_32, n_48, n_52, n_57, n_59, n_60, n_64, n_100, n_1024, nI_add, pk_mul, pk_sub, leI_t, leI_f, ltI_t, ltI_f, eqI_t, eqI_f, geM_t, eqM_f, eqM_g, ltM_f, ltM_t, leM_f, inb_nI, ix_nI, chk_tt, bnd_ss, up_ne, up_self, up_oth, if_true, if_false, reduceCtorEq, Nat.succ_ne_zero]
      by_cases c3 : ¬ (l (evk tx k) ≠ 0 ∧ bdk tx (l (evk tx k) - 1) = bdk tx k) ∧ bsum tx l (bdk tx k) 10 + amk tx k ≤ pu (bdk tx k)
      · rw [if_pos c3, if_pos (decide_eq_true ⟨by omega, Or.inl c2, c3⟩)]
      · rw [if_neg c3, if_neg (fun g => c3 (of_decide_eq_true g).2.2)]
    · have hb := JM_bid h c2
      rw [if_neg c2]
      have ea : amX tx l (evk tx k) = amk tx (l (evk tx k) - 1) := if_neg c2
      rw [ea]
      by_cases c4 : amk tx (l (evk tx k) - 1) + st ≤ amk tx k
      · try simp (disch := omega) only [↓m_1, n_0, n_1, n_2, n_3, n_4, n_5, n_6, n_7, n_8, n_9, n_10, n_16, n_20, n_24, n_31, n_32, n_48, n_52, n_57, n_59, n_60, n_64, n_100, n_1024, nI_add, pk_mul, pk_sub, leI_t, leI_f, ltI_t, ltI_f, eqI_t, eqI_f, geM_t, eqM_f, eqM_g, ltM_f, ltM_t, leM_f, inb_nI, ix_nI, chk_tt, bnd_ss, up_ne, up_self, up_oth, if_true, if_false, reduceCtorEq, Nat.succ_ne_zero]
        by_cases c3 : ¬ (l (evk tx k) ≠ 0 ∧ bdk tx (l (evk tx k) - 1) = bdk tx k) ∧ bsum tx l (bdk tx k) 10 + amk tx k ≤ pu (bdk tx k)
        · rw [if_pos c3, if_pos (decide_eq_true ⟨by omega, Or.inr c4, c3⟩)]
        · rw [if_neg c3, if_neg (fun g => c3 (of_decide_eq_true g).2.2)]
      · try simp (disch := omega) only [↓m_1, n_0, n_1, n_2, n_3, n_4, n_5, n_6, n_7, n_8, n_9, n_10, n_16, n_20, n_24, n_31, n_32, n_48, n_52, n_57, n_59, n_60, n_64, n_100, n_1024, nI_add, pk_mul, pk_sub, leI_t, leI_f, ltI_t, ltI_f, eqI_t, eqI_f, geM_t, eqM_f, eqM_g, ltM_f, ltM_t, leM_f, inb_nI, ix_nI, chk_tt, bnd_ss, up_ne, up_self, up_oth, if_true, if_false, reduceCtorEq, Nat.succ_ne_zero]
        rw [if_neg]
        intro g
        have := of_decide_eq_true g
        omega
/-- what the reference's judging leaves -/
def LKF (S T : St) : Prop := (∀ r, r ≠ 49 → r ≠ 64 → r ≠ 65 → T r = S r) ∧ (∀ j, j ≠ 20 → T 49 j = S 49 j)
def LK (S : St) (tx pu rs : Nat → Nat) (st ex k : Nat) (T : St) : Prop := LKF S T ∧ (∀ e, e < 10 → T 64 e = ldM (jl tx pu rs st ex k) e) ∧ (∀ j, j < k → T 65 j = if hld tx pu rs st ex j = true then 1 else 0) ∧ T 49 20 = (if fn tx pu rs st ex k = 0 then mI else nI (fn tx pu rs st ex k - 1))
theorem fn_le (tx pu rs : Nat → Nat) (st ex : Nat) : ∀ k, fn tx pu rs st ex k ≤ k := by
  intro k
  induction k with
  | zero => exact Nat.le_refl 0
  | succ k ih =>
    unfold fn
    split
    · omega
    · split <;> omega
theorem looks_step {S : St} {tx pu rs : Nat → Nat} {st ex n : Nat} (hn : n ≤ 100) (he : ent tx (S 55) (nb tx n)) (hp : PN S pu rs st) (h8 : S 49 8 = nI (nb tx n)) {x1 : Int32} (hx : ∀ k, k < nb tx n → (nI k = x1 ↔ k = ex)) {k : Nat} (hk : k < nb tx n) {T : St} (h : LK S tx pu rs st ex k T) : ∃ U, M_looks_L28 T x1 (nI k) = some ((nI (k + 1), U), 0) ∧ LK S tx pu rs st ex (k + 1) U := by
  obtain ⟨hF, h64, h65, h20⟩ := h
  have hb20 := nb_le (tx := tx) hn
  have hfn := fn_le tx pu rs st ex k
  obtain ⟨r1, r2, r3, r4⟩ := bid_lt hk
  have hJ : JM tx n T (jl tx pu rs st ex k) := ⟨hn, by rw [hF.1 55 (by decide) (by decide) (by decide)]; exact he, h64, fun e => by have := (jl_rng tx pu rs st ex k e).1; omega⟩
  have hpT : PN T pu rs st := by
    unfold PN
    rw [hF.1 56 (by decide) (by decide) (by decide), hF.1 60 (by decide) (by decide) (by decide), hF.1 62 (by decide) (by decide) (by decide)]
    exact hp
  have e55 := (hJ.2.1 k hk).1
  have h83 : ∀ (U : St), LKF S U → U 49 20 = T 49 20 → (∀ e, e < 10 → U 64 e = ldM (jl tx pu rs st ex (k + 1)) e) → (∀ j, j < k + 1 → U 65 j = if hld tx pu rs st ex j = true then 1 else 0) → ∃ V, M_looks_J83 U x1 (nI k) = some ((nI (k + 1), V), 0) ∧ LK S tx pu rs st ex (k + 1) V := by
    intro U u1 u2 u3 u4
    have fin : ∀ v : Int32, v = (if fn tx pu rs st ex (k + 1) = 0 then mI else nI (fn tx pu rs st ex (k + 1) - 1)) → LK S tx pu rs st ex (k + 1) (up U 49 20 v) := by
      intro v hv
      refine ⟨⟨fun r a b c => by rw [up_ne a, u1.1 r a b c], fun j a => by rw [up_oth a, u1.2 j a]⟩, ?_, ?_, ?_⟩
      · rw [up_ne (by decide)]; exact u3
      · rw [up_ne (by decide)]; exact u4
      · rw [up_self, hv]
    have hfs : fn tx pu rs st ex (k + 1) = if fn tx pu rs st ex k ≠ 0 then fn tx pu rs st ex k else if hld tx pu rs st ex k = true ∨ k = ex then 0 else k + 1 := rfl
    unfold M_looks_J83
    rw [u2, h20, m_1]
    by_cases c1 : fn tx pu rs st ex k = 0
    · rw [if_pos c1, if_pos rfl]
      rw [if_neg (fun g => g c1)] at hfs
      by_cases c2 : k = ex
      · rw [if_pos ((hx k hk).mpr c2), nI_1]
        refine ⟨_, rfl, fin _ ?_⟩
        rw [hfs, if_pos (Or.inr c2), if_pos rfl]
      · rw [if_neg (fun g => c2 ((hx k hk).mp g)), chk_t (inb_nI (by omega) (by decide)), ix_nI (by omega), u4 k (by omega), nI_1]
        by_cases c3 : hld tx pu rs st ex k = true
        · rw [if_pos c3, if_neg (by decide)]
          refine ⟨_, rfl, fin _ ?_⟩
          rw [hfs, if_pos (Or.inl c3), if_pos rfl]
        · rw [if_neg c3, if_pos rfl]
          refine ⟨_, rfl, fin _ ?_⟩
          have c4 : ¬ (hld tx pu rs st ex k = true ∨ k = ex) := fun g => g.elim c3 c2
          rw [if_neg c4] at hfs
          rw [hfs, if_neg (by omega)]
          rfl
    · rw [if_neg c1, if_neg (by try simp (disch := omega) only [↓m_1, n_0, n_1, n_2, n_3, n_4, n_5, n_6, n_7, n_8, n_9, n_10, n_16, n_20, n_24, n_31, n_32, n_48, n_52, n_57, n_59, n_60, n_64, n_100, n_1024, nI_add, pk_mul, pk_sub, leI_t, leI_f, ltI_t, ltI_f, eqI_t, eqI_f, geM_t, eqM_f, eqM_g, ltM_f, ltM_t, leM_f, inb_nI, ix_nI, chk_tt, bnd_ss, up_ne, up_self, up_oth, if_true, if_false, reduceCtorEq, Nat.succ_ne_zero]; exact fun g => g), nI_1]
      refine ⟨_, rfl, fin _ ?_⟩
      rw [hfs, if_pos c1, if_neg c1]
  have h59 : ∀ t : Int32, t = (if hld tx pu rs st ex k = true then 1 else 0) → ∃ U, M_looks_J59 T x1 (nI k) (nI k) t = some ((nI (k + 1), U), 0) ∧ LK S tx pu rs st ex (k + 1) U := by
    intro t ht
    unfold M_looks_J59
    rw [chk_t (inb_nI (by omega) (by decide)), chk_t (by rw [ht]; split <;> rfl), chk_t (inb_nI (by omega) (by decide)), ix_nI (by omega), up_self]
    have u4 : ∀ U : St, U 65 = up T 65 k t 65 → ∀ j, j < k + 1 → U 65 j = if hld tx pu rs st ex j = true then 1 else 0 := by
      intro U hU j hj
      rw [hU]
      by_cases c : j = k
      · rw [c, up_self, ht]
      · rw [up_oth c]; exact h65 j (by omega)
    by_cases c : hld tx pu rs st ex k = true
    · rw [if_pos c] at ht
      rw [if_neg (by rw [ht]; decide)]
      try simp (disch := omega) only [↓m_1, n_0, n_1, n_2, n_3, n_4, n_5, n_6, n_7, n_8, n_9, n_10, n_16, n_20, n_24, n_31, n_32, n_48, n_52, n_57, n_59, n_60, n_64, n_100, n_1024, nI_add, pk_mul, pk_sub, leI_t, leI_f, ltI_t, ltI_f, eqI_t, eqI_f, geM_t, eqM_f, eqM_g, ltM_f, ltM_t, leM_f, inb_nI, ix_nI, chk_tt, bnd_ss, up_ne, up_self, up_oth, if_true, if_false, reduceCtorEq, Nat.succ_ne_zero, e55]
      refine h83 _ ⟨fun r a b c => ?_, fun j a => ?_⟩ ?_ ?_ (u4 _ ?_)
      · rw [up_ne b, up_ne c, hF.1 r a b c]
      · rw [up_ne (by decide), up_ne (by decide), hF.2 j a]
      · rw [up_ne (by decide), up_ne (by decide)]
      · intro e he
        rw [jl_s, if_pos c]
        by_cases c2 : e = evk tx k
        · rw [c2, up_self]
          unfold ldM
          rw [updN_s, if_neg (by omega)]
          rfl
        · rw [up_oth c2, up_ne (by decide), h64 e he]
          unfold ldM
          rw [updN_n c2]
      · rw [up_ne (by decide)]
    · rw [if_neg c] at ht
      rw [if_pos ht]
      refine h83 _ ⟨fun r a b c => ?_, fun j a => ?_⟩ ?_ ?_ (u4 _ rfl)
      · rw [up_ne c, hF.1 r a b c]
      · rw [up_ne (by decide), hF.2 j a]
      · rw [up_ne (by decide)]
      · intro e he
        rw [jl_s, if_neg c, up_ne (by decide)]
        exact h64 e he
  have h8T : T 49 8 = nI (nb tx n) := by rw [hF.2 8 (by decide)]; exact h8
  unfold M_looks_L28 M_looks_J58
  rw [h8T, if_neg (by rw [nI_leI (by omega) (by omega)]; omega)]
  by_cases c : k = ex
  · rw [if_pos ((hx k hk).mpr c)]
    refine h59 0 ?_
    rw [if_neg]
    intro g
    exact (of_decide_eq_true g).1 c
  · rw [if_neg (fun g => c ((hx k hk).mp g)), isHolding_t hJ hpT hk, bnd_ss]
    by_cases c2 : hd tx pu rs st (jl tx pu rs st ex k) k = true
    · rw [if_pos c2, if_neg (by decide)]
      refine h59 1 ?_
      rw [if_pos (show hld tx pu rs st ex k = true from decide_eq_true ⟨c, c2⟩)]
    · rw [if_neg c2, if_pos rfl]
      refine h59 0 ?_
      rw [if_neg]
      intro g
      exact c2 (of_decide_eq_true g).2
theorem looks_t {S : St} {tx pu rs : Nat → Nat} {st ex n : Nat} (hn : n ≤ 100) (he : ent tx (S 55) (nb tx n)) (hp : PN S pu rs st) (h8 : S 49 8 = nI (nb tx n)) {x1 : Int32} (hx : ∀ k, k < nb tx n → (nI k = x1 ↔ k = ex)) : ∃ T, M_looks S x1 = some T ∧ LK S tx pu rs st ex (nb tx n) T := by
  have hb20 := nb_le (tx := tx) hn
  obtain ⟨q, hq, q1, q2, q3, q4⟩ := lp_cnt (st := fun q : Int32 × St => M_looks_L7 q.2 x1 q.1) (fun j q => q.1 = nI j ∧ LKF S q.2 ∧ (∀ e, e < j → q.2 64 e = mI) ∧ q.2 49 20 = mI) 10 (by decide) (q0 := (0, up S 49 20 (-1))) ⟨rfl, ⟨fun r a _ _ => up_ne a, fun j a => by dsimp only; exact up_oth a⟩, fun e h => by omega, (by dsimp only; rw [up_self]; rfl)⟩ (fun j q hj h => by
    obtain ⟨x, T⟩ := q
    obtain ⟨h1, h2, h3, h4⟩ := h
    dsimp only at h1 h2 h3 h4
    subst h1
    dsimp only
    unfold M_looks_L7
    try simp (disch := omega) only [↓m_1, n_0, n_1, n_2, n_3, n_4, n_5, n_6, n_7, n_8, n_9, n_10, n_16, n_20, n_24, n_31, n_32, n_48, n_52, n_57, n_59, n_60, n_64, n_100, n_1024, nI_add, pk_mul, pk_sub, leI_t, leI_f, ltI_t, ltI_f, eqI_t, eqI_f, geM_t, eqM_f, eqM_g, ltM_f, ltM_t, leM_f, inb_nI, ix_nI, chk_tt, bnd_ss, up_ne, up_self, up_oth, if_true, if_false, reduceCtorEq, Nat.succ_ne_zero]
    refine ⟨_, rfl, rfl, ⟨fun r a b c => ?_, fun i a => ?_⟩, fun e h => ?_, ?_⟩
    · dsimp only
      rw [up_ne b, h2.1 r a b c]
    · dsimp only
      rw [up_ne (by decide), h2.2 i a]
    · dsimp only
      by_cases c : e = j
      · rw [c, up_self]
      · rw [up_oth c]; exact h3 e (by omega)
    · dsimp only
      rw [up_ne (by decide)]; exact h4) (fun q h => by
    obtain ⟨x, T⟩ := q
    obtain ⟨h1, -⟩ := h
    dsimp only at h1
    subst h1
    dsimp only
    unfold M_looks_L7
    try simp (disch := omega) only [↓m_1, n_0, n_1, n_2, n_3, n_4, n_5, n_6, n_7, n_8, n_9, n_10, n_16, n_20, n_24, n_31, n_32, n_48, n_52, n_57, n_59, n_60, n_64, n_100, n_1024, nI_add, pk_mul, pk_sub, leI_t, leI_f, ltI_t, ltI_f, eqI_t, eqI_f, geM_t, eqM_f, eqM_g, ltM_f, ltM_t, leM_f, inb_nI, ix_nI, chk_tt, bnd_ss, up_ne, up_self, up_oth, if_true, if_false, reduceCtorEq, Nat.succ_ne_zero])
  obtain ⟨x, T⟩ := q
  dsimp only at q1 q2 q3 q4
  unfold M_looks
  rw [hq, bnd_ss]
  unfold M_looks_J26
  have h0 : LK S tx pu rs st ex 0 T := ⟨q2, fun e h => by rw [q3 e h]; rfl, fun j h => by omega, by rw [q4]; rfl⟩
  obtain ⟨r, hr, r1, r2⟩ := lp_cnt (st := fun q : Int32 × St => M_looks_L28 q.2 x1 q.1) (fun j q => q.1 = nI j ∧ LK S tx pu rs st ex j q.2) (nb tx n) (by omega) (q0 := (0, T)) ⟨rfl, h0⟩ (fun j q hj h => by
    obtain ⟨x, U⟩ := q
    obtain ⟨h1, h2⟩ := h
    dsimp only at h1 h2
    subst h1
    obtain ⟨V, g1, g2⟩ := looks_step hn he hp h8 hx hj h2
    exact ⟨(nI (j + 1), V), g1, rfl, g2⟩) (fun q h => by
    obtain ⟨x, U⟩ := q
    obtain ⟨h1, h2⟩ := h
    dsimp only at h1 h2
    subst h1
    dsimp only
    unfold M_looks_L28
    have h8T : U 49 8 = nI (nb tx n) := by rw [h2.1.2 8 (by decide)]; exact h8
    rw [h8T]
    try simp (disch := omega) only [↓m_1, n_0, n_1, n_2, n_3, n_4, n_5, n_6, n_7, n_8, n_9, n_10, n_16, n_20, n_24, n_31, n_32, n_48, n_52, n_57, n_59, n_60, n_64, n_100, n_1024, nI_add, pk_mul, pk_sub, leI_t, leI_f, ltI_t, ltI_f, eqI_t, eqI_f, geM_t, eqM_f, eqM_g, ltM_f, ltM_t, leM_f, inb_nI, ix_nI, chk_tt, bnd_ss, up_ne, up_self, up_oth, if_true, if_false, reduceCtorEq, Nat.succ_ne_zero])
  rw [hr, bnd_ss]
  exact ⟨r.2, rfl, r2⟩
