/-! ===== what was seen; the class's ways ===== -/
noncomputable def snX (S : St) (e : Nat) : Int32 := sgP (S 67) (ix (S 49 22)) e
theorem Inv_sg {w : gw} {S : St} {i : Nat} (h : Inv w S i) : ix (S 49 22) ≤ 8 ∧ S 49 22 = nI (ix (S 49 22)) ∧ (∀ j, j < ix (S 49 22) → sm (S 67 (2 * j)) 9 ∧ sm (S 67 (2 * j + 1)) 4) ∧ (∀ e, e < 10 → S 46 e = snX S e) ∧ S 45 2 = (if sgW (S 67) (ix (S 49 22)) = true then 0 else 1) := by
  obtain ⟨k, hk, e1, e2, hr, hP, hF⟩ := h.2.2.2.1
  have e2 : S 49 22 = nI k := e2
  have ek : ix (S 49 22) = k := by rw [e2, ix_nI (by omega)]
  unfold snX
  rw [ek]
  exact ⟨hk, e2, hr, hP, hF⟩
theorem sgP_rng {r : Nat → Int32} : ∀ k, (∀ j, j < k → sm (r (2 * j + 1)) 4) → ∀ e, sgP r k e = -1 ∨ sm (sgP r k e) 4 := by
  intro k
  induction k with
  | zero => intro _ e; exact Or.inl rfl
  | succ k ih =>
    intro h e
    unfold sgP
    by_cases c : r (2 * k) = nI e
    · rw [if_pos c]; exact Or.inr (h k (by omega))
    · rw [if_neg c]; exact ih (fun j hj => h j (by omega)) e
theorem one_e {x : Int32} : ∀ n, n ≤ 10 → smE (fun e => if x = nI e then 1 else 0) n ≤ 1 ∧ ((∀ e, e < n → x ≠ nI e) → smE (fun e => if x = nI e then 1 else 0) n = 0) := by
  intro n
  induction n with
  | zero => intro _; exact ⟨Nat.zero_le _, fun _ => rfl⟩
  | succ n ih =>
    intro hn
    obtain ⟨i1, i2⟩ := ih (by omega)
    rw [smE_s]
    refine ⟨?_, fun h => ?_⟩
    · by_cases c : x = nI n
      · rw [if_pos c, i2 (fun e he g => by
          rw [c, nI_eq (by omega) (by omega)] at g
          omega)]
        omega
      · rw [if_neg c]; omega
    · rw [if_neg (h n (by omega)), i2 (fun e he => h e (by omega))]
def qs (s : Nat → Int32) (e : Nat) : Bool := !decide (s e = -1)
theorem qs_t {s : Nat → Int32} {e : Nat} : qs s e = true ↔ s e ≠ -1 := by
  unfold qs
  rw [Bool.not_eq_true', decide_eq_false_iff_not]
def cS (Q : Nat → Bool) (n : Nat) : Nat := smE (fun e => if Q e = true then 1 else 0) n
theorem cS_8 {r : Nat → Int32} : ∀ k, cS (qs (sgP r k)) 10 ≤ k := by
  intro k
  induction k with
  | zero => exact Nat.le_of_eq (smE_zero 10 (fun e _ => if_neg (fun g => (qs_t.mp g) rfl)))
  | succ k ih =>
    have h1 := (one_e (x := r (2 * k)) 10 (Nat.le_refl _)).1
    have h2 : cS (qs (sgP r (k + 1))) 10 ≤ smE (fun e => (if qs (sgP r k) e = true then 1 else 0) + (if r (2 * k) = nI e then 1 else 0)) 10 := by
      refine smE_mono 10 (fun e _ => ?_)
      by_cases c : r (2 * k) = nI e
      · rw [if_pos c]
        split <;> split <;> omega
      · rw [if_neg c]
        have e1 : sgP r (k + 1) e = sgP r k e := by
          show (if r (2 * k) = nI e then _ else _) = _
          rw [if_neg c]
        unfold qs
        rw [e1]
        exact Nat.le_refl _
    rw [smE_add] at h2
    unfold cS at ih ⊢
    unfold cS at h2
    omega
/-- the evenings that Q holds of, in their order -/
def ak (Q : Nat → Bool) : Nat → Nat → Nat
  | 0 => fun _ => 0
  | e + 1 => if Q e = true then updN (ak Q e) (cS Q e) e else ak Q e
theorem ak_in {Q : Nat → Bool} : ∀ e j, j < cS Q e → ak Q e j < e ∧ Q (ak Q e j) = true := by
  intro e
  induction e with
  | zero => intro j hj; exact absurd hj (Nat.not_lt_zero j)
  | succ e ih =>
    intro j hj
    have hs : cS Q (e + 1) = cS Q e + (if Q e = true then 1 else 0) := rfl
    unfold ak
    by_cases c : Q e = true
    · rw [if_pos c]
      by_cases d : j = cS Q e
      · rw [d, updN_s]; exact ⟨by omega, c⟩
      · rw [updN_n d]
        rw [hs, if_pos c] at hj
        have := ih j (by omega)
        exact ⟨by omega, this.2⟩
    · rw [if_neg c]
      rw [hs, if_neg c] at hj
      have := ih j (by omega)
      exact ⟨by omega, this.2⟩
theorem ak_on {Q : Nat → Bool} : ∀ e x, x < e → Q x = true → ∃ j, j < cS Q e ∧ ak Q e j = x := by
  intro e
  induction e with
  | zero => intro x hx; exact absurd hx (Nat.not_lt_zero x)
  | succ e ih =>
    intro x hx hQ
    have hs : cS Q (e + 1) = cS Q e + (if Q e = true then 1 else 0) := rfl
    unfold ak
    by_cases c : Q e = true
    · rw [if_pos c, hs, if_pos c]
      by_cases d : x = e
      · exact ⟨cS Q e, by omega, by rw [updN_s, d]⟩
      · obtain ⟨j, h1, h2⟩ := ih x (by omega) hQ
        exact ⟨j, by omega, by rw [updN_n (by omega)]; exact h2⟩
    · rw [if_neg c, hs, if_neg c]
      have d : x ≠ e := fun g => c (by rw [← g]; exact hQ)
      obtain ⟨j, h1, h2⟩ := ih x (by omega) hQ
      exact ⟨j, by omega, h2⟩
theorem ak_cnt {Q : Nat → Bool} {v : Nat → Nat} {p : Nat} : ∀ e, smE (fun j => if v (ak Q e j) = p then 1 else 0) (cS Q e) = smE (fun x => if Q x = true ∧ v x = p then 1 else 0) e := by
  intro e
  induction e with
  | zero => rfl
  | succ e ih =>
    have hs : cS Q (e + 1) = cS Q e + (if Q e = true then 1 else 0) := rfl
    rw [smE_s (n := e)]
    unfold ak
    by_cases c : Q e = true
    · rw [if_pos c, hs, if_pos c, smE_s, updN_s, ← ih]
      have e1 : smE (fun j => if v (updN (ak Q e) (cS Q e) e j) = p then 1 else 0) (cS Q e) = smE (fun j => if v (ak Q e j) = p then 1 else 0) (cS Q e) := smE_congr _ (fun j hj => by rw [updN_n (by omega)])
      rw [e1]
      by_cases d : v e = p
      · rw [if_pos d, if_pos ⟨c, d⟩]
      · rw [if_neg d, if_neg (fun g => d g.2)]
    · rw [if_neg c, hs, if_neg c, Nat.add_zero, ih, if_neg (fun g => c g.1), Nat.add_zero]
/-! the class's loops -/
def bwN (pr : Nat → Nat) (p : Nat) : Nat → Nat
  | 0 => 0
  | m + 1 => if pr m = p then bwN pr p m ||| 2 ^ m else bwN pr p m
theorem bwN_bit {pr : Nat → Nat} {p : Nat} : ∀ m b, (bwN pr p m).testBit b = true ↔ b < m ∧ pr b = p := by
  intro m
  induction m with
  | zero =>
    intro b
    show Nat.testBit 0 b = true ↔ _
    rw [Nat.zero_testBit]
    exact ⟨fun g => absurd g (by decide), fun g => absurd g.1 (Nat.not_lt_zero b)⟩
  | succ m ih =>
    intro b
    unfold bwN
    by_cases c : pr m = p
    · rw [if_pos c, or_bit, ih]
      constructor
      · rintro (g | g)
        · exact ⟨by omega, g.2⟩
        · rw [g]; exact ⟨by omega, c⟩
      · rintro ⟨g1, g2⟩
        by_cases d : b = m
        · exact Or.inr d
        · exact Or.inl ⟨by omega, g2⟩
    · rw [if_neg c, ih]
      constructor
      · exact fun g => ⟨by omega, g.2⟩
      · rintro ⟨g1, g2⟩
        have : b ≠ m := fun g => c (by rw [← g]; exact g2)
        exact ⟨by omega, g2⟩
theorem bwN_lt {pr : Nat → Nat} {p : Nat} : ∀ m, m ≤ 5 → bwN pr p m < 32 := by
  intro m
  induction m with
  | zero => intro _; show 0 < 32; omega
  | succ m ih =>
    intro hm
    unfold bwN
    split
    · exact Nat.or_lt_two_pow (n := 5) (ih (by omega)) (Nat.pow_lt_pow_right (by omega) (by omega))
    · exact ih (by omega)
theorem bwN_pc {pr : Nat → Nat} {p : Nat} : pcN (bwN pr p 5) = smE (fun b => if decide (pr b = p) = true then 1 else 0) 5 := by
  have h : ∀ b, (if (bwN pr p 5).testBit b = true then 1 else 0) = (if b < 5 ∧ pr b = p then 1 else 0) := fun b => by
    by_cases c : b < 5 ∧ pr b = p
    · rw [if_pos c, if_pos ((bwN_bit 5 b).mpr c)]
    · rw [if_neg c, if_neg (fun g => c ((bwN_bit 5 b).mp g))]
  unfold pcN
  rw [smE_congr 10 (fun b _ => h b)]
  have e : smE (fun b => if b < 5 ∧ pr b = p then 1 else 0) 10 = smE (fun b => if b < 5 ∧ pr b = p then 1 else 0) 5 := by
    rw [smE_s, smE_s, smE_s, smE_s, smE_s, if_neg (by omega), if_neg (by omega), if_neg (by omega), if_neg (by omega), if_neg (by omega)]
    rfl
  rw [e]
  refine smE_congr 5 (fun b hb => ?_)
  by_cases c : pr b = p
  · rw [if_pos ⟨hb, c⟩, if_pos (decide_eq_true c)]
  · rw [if_neg (fun g => c g.2), if_neg (fun g => c (of_decide_eq_true g))]
theorem bw_t {T : St} {pr : Nat → Nat} {p : Nat} (h3 : ∀ b, b < 5 → T 3 b = nI (pr b) ∧ pr b ≤ 4) (hp : p < 5) : TW_biddersWith T (nI p) = some (nI (bwN pr p 5)) := by
  unfold TW_biddersWith TW_biddersWith_J31
  have hl : lp (σ := Int32 × Int32) (fun q => TW_biddersWith_L4 T (nI p) q.1 q.2) FZ (0, 0) = some ((nI (bwN pr p 5), nI 5), 1) := by
    refine lp_1 (fun j => (nI (bwN pr p j), nI j)) 5 rfl ?_ ?_ (by decide)
    · intro j hj
      try dsimp only
      obtain ⟨v1, v2⟩ := h3 j hj
      unfold TW_biddersWith_L4
      rw [if_neg (by rw [n_5]; try simp (disch := omega) only [↓m_1, n_0, n_1, n_2, n_3, n_4, n_5, n_6, n_7, n_8, n_9, n_10, n_16, n_20, n_24, n_31, n_32, n_48, n_52, n_57, n_59, n_60, n_64, n_100, n_1024, nI_add, pk_mul, pk_sub, leI_t, leI_f, ltI_t, ltI_f, eqI_t, eqI_f, geM_t, eqM_f, eqM_g, ltM_f, ltM_t, leM_f, inb_nI, ix_nI, chk_tt, bnd_ss, up_ne, up_self, up_oth, if_true, if_false, reduceCtorEq, Nat.succ_ne_zero]; exact fun g => g), chk_t (inb_nI hj (by decide)), ix_nI (by omega), v1, nI_1, show (1 : Int32) <<< (nI j &&& 31) = nI (2 ^ j) from shl_nI (by omega), or_nI]
      show _ = some ((nI (if pr j = p then bwN pr p j ||| 2 ^ j else bwN pr p j), nI (j + 1)), 0)
      by_cases c : pr j = p
      · rw [if_pos (by rw [c]), if_pos c]
      · rw [if_neg (by rw [nI_eq (by omega) (by omega)]; exact c), if_neg c]
    · try dsimp only
      unfold TW_biddersWith_L4
      rw [if_pos (by decide)]
  rw [hl, bnd_ss]
def evN (s : Nat → Int32) (p n : Nat) : Nat := smE (fun e => if s e = nI p then 1 else 0) n
theorem evN_le {s : Nat → Int32} {p n : Nat} (hp : p < 5) : evN s p n ≤ cS (qs s) n := by
  refine smE_mono n (fun e _ => ?_)
  by_cases c : s e = nI p
  · rw [if_pos c, if_pos (qs_t.mpr (by rw [c, m_1]; exact fun g => by rw [eqM_f (by omega)] at g; exact g))]
    exact Nat.le_refl _
  · rw [if_neg c]; exact Nat.zero_le _
theorem ew_t {T : St} {s : Nat → Int32} {p : Nat} (h46 : ∀ e, e < 10 → T 46 e = s e) (hc : cS (qs s) 10 ≤ 8) (hp : p < 5) : SI_eveningsWith T (nI p) = some (nI (evN s p 10)) := by
  have h8 : evN s p 10 ≤ 8 := Nat.le_trans (evN_le hp) hc
  unfold SI_eveningsWith SI_eveningsWith_J29
  have hl : lp (σ := Int32 × Int32) (fun q => SI_eveningsWith_L4 T (nI p) q.1 q.2) FZ (0, 0) = some ((nI (evN s p 10), nI 10), 1) := by
    refine lp_1 (fun j => (nI (evN s p j), nI j)) 10 rfl ?_ ?_ (by decide)
    · intro j hj
      try dsimp only
      unfold SI_eveningsWith_L4
      rw [if_neg (by rw [n_10]; try simp (disch := omega) only [↓m_1, n_0, n_1, n_2, n_3, n_4, n_5, n_6, n_7, n_8, n_9, n_10, n_16, n_20, n_24, n_31, n_32, n_48, n_52, n_57, n_59, n_60, n_64, n_100, n_1024, nI_add, pk_mul, pk_sub, leI_t, leI_f, ltI_t, ltI_f, eqI_t, eqI_f, geM_t, eqM_f, eqM_g, ltM_f, ltM_t, leM_f, inb_nI, ix_nI, chk_tt, bnd_ss, up_ne, up_self, up_oth, if_true, if_false, reduceCtorEq, Nat.succ_ne_zero]; exact fun g => g), chk_t (inb_nI hj (by decide)), ix_nI (by omega), h46 j hj, nI_1, nI_1]
      show _ = some ((nI (evN s p j + (if s j = nI p then 1 else 0)), nI (j + 1)), 0)
      by_cases c : s j = nI p
      · rw [if_pos c, if_pos c]
      · rw [if_neg c, if_neg c]
        rfl
    · try dsimp only
      unfold SI_eveningsWith_L4
      rw [if_pos (by decide)]
  rw [hl, bnd_ss, n_8, mn_nI (by omega) (by omega), Nat.min_eq_left h8]
theorem bc_dec : ∀ n t : Fin 9, bc n.val t.val * (n.val - t.val) / (t.val + 1) = bc n.val (t.val + 1) ∧ bc n.val t.val * (n.val - t.val) ≤ 1000 := by decide +kernel
theorem smE_cut {f : Nat → Nat} {m : Nat} : ∀ n, m ≤ n → (∀ t, m ≤ t → t < n → f t = 0) → smE f n = smE f m := by
  intro n
  induction n with
  | zero => intro h _; rw [show m = 0 by omega]
  | succ n ih =>
    intro h hz
    by_cases c : m = n + 1
    · rw [c]
    · rw [smE_s, hz n (by omega) (by omega), ih (by omega) (fun t h1 h2 => hz t h1 (by omega)), Nat.add_zero]
theorem more_t {T : St} {g : Nat → Nat} {n c : Nat} (hn : n ≤ 8) (hc : c ≤ 10) (h47 : ∀ y, y ≤ n → T 47 y = nI (g y)) : SI_waysWithOneMore T (nI n) (nI c) = some (nI (smE (fun t => if t ≤ c then bc n t * g (n - t) else 0) (n + 1))) := by
  obtain ⟨M, hM⟩ : ∃ M, M = min n c + 1 := ⟨_, rfl⟩
  unfold SI_waysWithOneMore SI_waysWithOneMore_J55
  have hl : lp (σ := Int32 × Int32 × Int32) (fun q => SI_waysWithOneMore_L8 T (nI n) (nI c) q.1 q.2.1 q.2.2) FZ (0, 1, 0) = some ((nI (smE (fun t => if t ≤ c then bc n t * g (n - t) else 0) M), nI (bc n M), nI M), 1) := by
    refine lp_1 (fun j => (nI (smE (fun t => if t ≤ c then bc n t * g (n - t) else 0) j), nI (bc n j), nI j)) M (by show _ = (nI 0, nI (bc n 0), nI 0); rw [bc_0]; rfl) ?_ ?_ (by omega)
    · intro j hj
      try dsimp only
      obtain ⟨b1, b2⟩ := bc_dec ⟨n, by omega⟩ ⟨j, by omega⟩
      have b1 : bc n j * (n - j) / (j + 1) = bc n (j + 1) := b1
      have b2 : bc n j * (n - j) ≤ 1000 := b2
      unfold SI_waysWithOneMore_L8
      rw [if_neg (nI_nlt (by omega) (by omega)), if_neg (nI_nlt (by omega) (by omega)), pk_sub (by omega), chk_t (inb_nI (show n - j < 9 by omega) (by decide)), nI_1, chk_t (nz32_t (by omega) (by omega)), ix_nI (by omega), h47 _ (by omega), pk_mul, pk_mul, nI_add, pk_div (by omega) (by omega) (by omega), b1, smE_s, if_pos (show j ≤ c by omega)]
    · try dsimp only
      unfold SI_waysWithOneMore_L8
      by_cases d : n < M
      · rw [if_pos (nI_lt d (by omega))]
      · rw [if_neg (nI_nlt (by omega) (by omega)), if_pos (nI_lt (by omega) (by omega))]
  rw [hl, bnd_ss]
  have e : smE (fun t => if t ≤ c then bc n t * g (n - t) else 0) (n + 1) = smE (fun t => if t ≤ c then bc n t * g (n - t) else 0) M := smE_cut (n + 1) (by omega) (fun t h1 h2 => if_neg (by omega))
  rw [e]
theorem deal_t {S : St} {n m c : Nat} (hn : n ≤ 8) (hm : m ≤ 5) (hc : c ≤ 10) : ∃ T, SI_waysToDeal S (nI n) (nI m) (nI c) = some (nI (wd c m n), T) ∧ ∀ r, r ≠ 47 → T r = S r := by
  unfold SI_waysToDeal
  obtain ⟨q, hq, h1, h2, h3⟩ := lp_cnt (st := fun q : Int32 × St => SI_waysToDeal_L10 q.2 (nI n) (nI m) (nI c) q.1) (fun j q => q.1 = nI (j + 1) ∧ (∀ r, r ≠ 47 → q.2 r = S r) ∧ ∀ y, y ≤ j → q.2 47 y = nI (wd c 0 y)) n (by omega) (q0 := (1, up S 47 0 1)) ⟨rfl, fun r hr => up_ne hr, fun y hy => by
      rw [show y = 0 by omega]
      show up S 47 0 1 47 0 = _
      rw [up_self]
      rfl⟩ (fun j q hj h => by
    obtain ⟨a, V⟩ := q
    obtain ⟨h1, h2, h3⟩ := h
    have h1 : a = nI (j + 1) := h1
    subst h1
    try dsimp only
    unfold SI_waysToDeal_L10
    rw [if_neg (nI_nlt (by omega) (by omega)), chk_t (inb_nI (show j + 1 < 9 by omega) (by decide)), ix_nI (by omega), nI_1]
    refine ⟨_, rfl, rfl, fun r hr => ?_, fun y hy => ?_⟩
    · show up V 47 _ _ r = S r
      rw [up_ne hr]; exact h2 r hr
    · show up V 47 _ _ 47 y = _
      by_cases d : y = j + 1
      · rw [d, up_self]; rfl
      · rw [up_oth d]; exact h3 y (by omega)) (fun q h => by
    obtain ⟨a, V⟩ := q
    obtain ⟨h1, -⟩ := h
    have h1 : a = nI (n + 1) := h1
    subst h1
    try dsimp only
    unfold SI_waysToDeal_L10
    rw [if_pos (nI_lt (by omega) (by omega))])
  rw [hq, bnd_ss]
  obtain ⟨a, T1⟩ := q
  have h2 : ∀ r, r ≠ 47 → T1 r = S r := h2
  have h3 : ∀ y, y ≤ n → T1 47 y = nI (wd c 0 y) := h3
  try dsimp only
  unfold SI_waysToDeal_J30
  obtain ⟨q, hq, k1, k2, k3⟩ := lp_cnt (st := fun q : Int32 × St => SI_waysToDeal_L33 q.2 (nI n) (nI m) (nI c) q.1) (fun i q => q.1 = nI i ∧ (∀ r, r ≠ 47 → q.2 r = S r) ∧ ∀ y, y ≤ n → q.2 47 y = nI (wd c i y)) m (by omega) (q0 := (0, T1)) ⟨rfl, h2, h3⟩ (fun i q hi h => by
    obtain ⟨a, V⟩ := q
    obtain ⟨h1, h2, h3⟩ := h
    have h1 : a = nI i := h1
    subst h1
    have h2 : ∀ r, r ≠ 47 → V r = S r := h2
    have h3 : ∀ y, y ≤ n → V 47 y = nI (wd c i y) := h3
    obtain ⟨q, hq, l1, l2, l3⟩ := lp_cnt (st := fun q : Int32 × St => SI_waysToDeal_L42 q.2 (nI n) (nI m) (nI c) (nI i) q.1) (fun j q => q.1 = nI (n - j) ∧ (∀ r, r ≠ 47 → q.2 r = S r) ∧ ∀ y, y ≤ n → q.2 47 y = nI (if n - j < y then wd c (i + 1) y else wd c i y)) n (by omega) (q0 := (nI n, V)) ⟨rfl, h2, fun y hy => by rw [if_neg (by omega)]; exact h3 y hy⟩ (fun j q hj h => by
      obtain ⟨a, U⟩ := q
      obtain ⟨h1, h2, h3⟩ := h
      have h1 : a = nI (n - j) := h1
      subst h1
      have h3 : ∀ y, y ≤ n → U 47 y = nI (if n - j < y then wd c (i + 1) y else wd c i y) := h3
      obtain ⟨k, hk⟩ : ∃ k, n - j = k + 1 := ⟨n - j - 1, by omega⟩
      rw [hk] at h3 ⊢
      try dsimp only
      unfold SI_waysToDeal_L42
      rw [if_neg (nI_nle (by omega) (by omega)), more_t (g := wd c i) (by omega) hc (fun y hy => by rw [h3 y (by omega), if_neg (by omega)]), bnd_ss, chk_t (inb_nI (show k + 1 < 9 by omega) (by decide)), ix_nI (by omega), pk_m1]
      refine ⟨_, rfl, by rw [show n - (j + 1) = k by omega], fun r hr => ?_, fun y hy => ?_⟩
      · show up U 47 _ _ r = S r
        rw [up_ne hr]; exact h2 r hr
      · show up U 47 _ _ 47 y = _
        by_cases d : y = k + 1
        · rw [d, up_self, if_pos (by omega)]; rfl
        · rw [up_oth d, h3 y hy]
          by_cases f : k + 1 < y
          · rw [if_pos f, if_pos (by omega)]
          · rw [if_neg f, if_neg (by omega)]) (fun q h => by
      obtain ⟨a, U⟩ := q
      obtain ⟨h1, -⟩ := h
      have h1 : a = nI (n - n) := h1
      rw [Nat.sub_self] at h1
      subst h1
      try dsimp only
      unfold SI_waysToDeal_L42
      rw [if_pos (by decide)])
    try dsimp only
    unfold SI_waysToDeal_L33 SI_waysToDeal_J67
    rw [if_neg (nI_ge hi (by omega)), hq, bnd_ss, nI_1]
    refine ⟨_, rfl, rfl, l2, fun y hy => ?_⟩
    have := l3 y hy
    show q.2 47 y = _
    rw [this]
    by_cases d : y = 0
    · rw [d, if_neg (by omega), wd_0, wd_0]
    · rw [if_pos (by omega)]) (fun q h => by
    obtain ⟨a, V⟩ := q
    obtain ⟨h1, -⟩ := h
    have h1 : a = nI m := h1
    subst h1
    try dsimp only
    unfold SI_waysToDeal_L33
    rw [if_pos (nI_le (Nat.le_refl _) (by omega))])
  rw [hq, bnd_ss]
  obtain ⟨a, T⟩ := q
  have k3 : ∀ y, y ≤ n → T 47 y = nI (wd c m y) := k3
  try dsimp only
  unfold SI_waysToDeal_J73
  rw [chk_t (inb_nI (show n < 9 by omega) (by decide)), ix_nI (by omega), k3 n (Nat.le_refl _)]
  exact ⟨T, rfl, k2⟩
def prE (F : Nat → Nat) : Nat → Nat
  | 0 => 1
  | p + 1 => prE F p * F p
theorem prE_5 {F : Nat → Nat} : prE F 5 = prd F := by
  show 1 * F 0 * F 1 * F 2 * F 3 * F 4 = F 0 * F 1 * F 2 * F 3 * F 4
  rw [Nat.one_mul]
/-- the ways with one programme -/
def wyF (pr : Nat → Nat) (s : Nat → Int32) (c p : Nat) : Nat := wd c (smE (fun b => if decide (pr b = p) = true then 1 else 0) 5) (evN s p 10)
theorem cnt5 {P : Nat → Bool} : smE (fun b => if P b = true then 1 else 0) 5 ≤ 5 := by
  have := smE_bd (f := fun b => if P b = true then 1 else 0) (m := 1) 5 (fun b _ => by (try dsimp only); split <;> omega)
  omega
theorem ways_t {S : St} {pr : Nat → Nat} {s : Nat → Int32} {c : Nat} (h3 : ∀ b, b < 5 → S 3 b = nI (pr b) ∧ pr b ≤ 4) (h46 : ∀ e, e < 10 → S 46 e = s e) (h8 : cS (qs s) 10 ≤ 8) (h24 : S 24 2 = nI c) (hc : c ≤ 10) (h45 : S 45 2 = 0) : ∃ T, SI_ways S = some (nI (prd (wyF pr s c)), T) ∧ ∀ r, r ≠ 47 → T r = S r := by
  unfold SI_ways SI_ways_J54
  rw [h45, if_pos rfl]
  obtain ⟨q, hq, k1, k2, k3⟩ := lp_cnt (st := fun q : Int32 × Int32 × St => SI_ways_L13 q.2.2 q.1 q.2.1) (fun p q => q.1 = nI (prE (wyF pr s c) p) ∧ q.2.1 = nI p ∧ ∀ r, r ≠ 47 → q.2.2 r = S r) 5 (by decide) (q0 := (1, 0, S)) ⟨rfl, rfl, fun _ _ => rfl⟩ (fun p q hp h => by
    obtain ⟨x2, x3, V⟩ := q
    obtain ⟨h1, h2, hF⟩ := h
    have h1 : x2 = nI (prE (wyF pr s c) p) := h1
    have h2 : x3 = nI p := h2
    subst h1
    subst h2
    have hF : ∀ r, r ≠ 47 → V r = S r := hF
    have hb := bwN_lt (pr := pr) (p := p) 5 (Nat.le_refl _)
    have e8 : evN s p 10 ≤ 8 := Nat.le_trans (evN_le hp) h8
    obtain ⟨-, jb, -⟩ := sh_dec ⟨bwN pr p 5, hb⟩ ⟨0, by omega⟩
    have jb : JI_bitCount (nI (bwN pr p 5)) = nI (pcN (bwN pr p 5)) := jb
    obtain ⟨T, hT, t1⟩ := deal_t (S := V) (n := evN s p 10) (m := smE (fun b => if decide (pr b = p) = true then 1 else 0) 5) (c := c) e8 cnt5 hc
    try dsimp only
    unfold SI_ways_L13
    rw [if_neg (by rw [n_5]; try simp (disch := omega) only [↓m_1, n_0, n_1, n_2, n_3, n_4, n_5, n_6, n_7, n_8, n_9, n_10, n_16, n_20, n_24, n_31, n_32, n_48, n_52, n_57, n_59, n_60, n_64, n_100, n_1024, nI_add, pk_mul, pk_sub, leI_t, leI_f, ltI_t, ltI_f, eqI_t, eqI_f, geM_t, eqM_f, eqM_g, ltM_f, ltM_t, leM_f, inb_nI, ix_nI, chk_tt, bnd_ss, up_ne, up_self, up_oth, if_true, if_false, reduceCtorEq, Nat.succ_ne_zero]; exact fun g => g), bw_t (by rw [hF 3 (by decide)]; exact h3) hp, bnd_ss, ew_t (by rw [hF 46 (by decide)]; exact h46) h8 hp, bnd_ss, jb, bwN_pc, hF 24 (by decide), h24, hT, bnd_ss]
    try dsimp only
    rw [pk_mul, nI_1]
    exact ⟨_, rfl, rfl, rfl, fun r hr => by show T r = S r; rw [t1 r hr, hF r hr]⟩) (fun q h => by
    obtain ⟨x2, x3, V⟩ := q
    obtain ⟨h1, h2, hF⟩ := h
    have h2 : x3 = nI 5 := h2
    subst h2
    try dsimp only
    unfold SI_ways_L13
    rw [if_pos (by decide)])
  rw [hq, bnd_ss]
  obtain ⟨x2, x3, T⟩ := q
  have k1 : x2 = nI (prE (wyF pr s c) 5) := k1
  subst k1
  rw [prE_5]
  exact ⟨T, rfl, k3⟩
