/-! ===== write, read, rather ===== -/
theorem mn10 {n : Nat} (hn : n ≤ 60) : mn (Int32.ofNat n) 10 = nI (min n 10) := mn_nI (a := n) (b := 10) (by omega) (by omega)
theorem op_write {w : gw} {S : St} {i : Nat} (h : Inv w S i) (hi : i < 512) (a1 : Int32) : ∃ z1 z2, X_write w S a1 = some z1 ∧ M_write z1.2 a1 = some z2 ∧ z1.1 = z2.1 ∧ Inv w z2.2 (i + 1) := by
  rcases sm_or a1 3 with h1 | h1
  · obtain ⟨s, hs, rfl⟩ := h1
    have hs4 : s < 4 := by omega
    obtain ⟨gx, gm⟩ := isS_t hs4
    rcases sh_get h hs4 with ⟨g1, g2⟩ | ⟨k, n, f, g1, g2, g3, g4, g5, g6, g7, g8, g9, g10⟩
    · refine ⟨(-10 - 1, up S 0 8 1), (-10 - 1, up (up S 0 8 1) 49 4 1), ?_, ?_, rfl, fnd_inv h⟩
      · unfold X_write X_finding
        rw [if_neg gx, chk_t (inb_nI (by omega) (by decide)), ix_nI (by omega), g1, if_pos neg1_lt, bnd_ss]
      · show M_write (up S 0 8 1) _ = _
        unfold M_write M_met
        rw [if_neg gm, chk_t (inb_nI (by omega) (by decide)), ix_nI (by omega), up_ne (by decide), g2, if_neg neg1_ge, bnd_ss]
    · obtain ⟨T, hT, hI, hO, hF⟩ := XJ h (by omega)
      have k73 := g2.1
      have tS : ∀ r, 33 ≤ r → T r = S r := fun r hr => hF.1 r (by omega) (by omega) (by omega) (by omega) (by omega) (by omega) (by omega)
      obtain ⟨m, hm⟩ : ∃ m, m = min n 10 := ⟨_, rfl⟩
      have hmn : m ≤ n ∧ m ≤ 10 := by omega
      obtain ⟨q, hq, c1, c2, c3, c4⟩ := lp_cnt (st := fun q : Int32 × St => X_write_L47 w q.2 k (nI m) q.1) (fun j q => q.1 = nI j ∧ (∀ r, r ≠ k + 1 → q.2 r = T r) ∧ (∀ e, e < j → q.2 (k + 1) e = M_cut (nI f) (ldX (tX T) (lX T) e)) ∧ ∀ e, j ≤ e → q.2 (k + 1) e = S (k + 1) e) m (by omega) (q0 := (0, T)) ⟨rfl, fun _ _ => rfl, fun e he => absurd he (Nat.not_lt_zero e), fun e _ => by show T (k + 1) e = _; rw [tS _ (by omega)]⟩ (fun j q hj hq => by
        obtain ⟨a, V⟩ := q
        obtain ⟨h1, h2, h3, h4⟩ := hq
        have h1 : a = nI j := h1
        subst h1
        have h2 : ∀ r, r ≠ k + 1 → V r = T r := h2
        try dsimp only
        unfold X_write_L47
        rw [if_neg (nI_ge hj (by omega)), chk_t (inb_nI (show j < 10 by omega) (by decide)), ix_nI (by omega), h2 29 (by omega), Oc29 hO (show j < 10 by omega), put_t (n := n) (f := f) g5 g4 (by rw [h2 k (by omega), tS k (by omega)]; exact g8) (by omega), bnd_ss, nI_1]
        refine ⟨_, rfl, rfl, fun r hr => ?_, fun e he => ?_, fun e he => ?_⟩
        · show up V (k + 1) _ _ r = T r
          rw [up_ne hr, h2 r hr]
        · show up V (k + 1) _ _ (k + 1) e = _
          by_cases c : e = j
          · rw [c, up_self]
          · rw [up_oth c]; exact h3 e (by omega)
        · show up V (k + 1) _ _ (k + 1) e = _
          rw [up_oth (by omega)]; exact h4 e (by omega)) (fun q hq => by
        obtain ⟨a, V⟩ := q
        obtain ⟨h1, -⟩ := hq
        have h1 : a = nI m := h1
        subst h1
        try dsimp only
        unfold X_write_L47
        rw [if_pos (nI_le (Nat.le_refl _) (by omega))])
      obtain ⟨a, V⟩ := q
      have c2 : ∀ r, r ≠ k + 1 → V r = T r := c2
      have c3 : ∀ e, e < m → V (k + 1) e = M_cut (nI f) (ldX (tX T) (lX T) e) := c3
      have c4 : ∀ e, m ≤ e → V (k + 1) e = S (k + 1) e := c4
      have hX : X_write w S (nI s) = some (nI m, V) := by
        unfold X_write X_write_J73
        rw [if_neg gx, chk_t (inb_nI (by omega) (by decide)), ix_nI (show s < 2 ^ 31 by omega), g1, if_neg (nI_pos (by omega)), chk_t (shB_t g2 g3), hT, bnd_ss, ix_nI (show k < 2 ^ 31 by omega), g4, mn10 g5, ← hm, hq, bnd_ss]
      have eV : ∀ r, r < 73 → V r = T r := fun r hr => c2 r (by omega)
      have hTV : Inv w V i ∨ True := Or.inr trivial
      -- the reference finds of V what it finds of T
      obtain ⟨t1, t2, t3, t4, t5⟩ := Inv_tx hI
      obtain ⟨p1, p2, p3⟩ := Inv_pn hI
      have hMf : ∃ U, M_find V = some U ∧ FrM V U ∧ JM (tX T) (nX T) U (lX T) := by
        obtain ⟨z, hz, z1, z2, z3, z4⟩ := reads_t (S := V) (tx := tX T) (n := nX T) t1 (by rw [eV 54 (by decide)]; exact t4) (by rw [eV 49 (by decide)]; exact t2)
        have hpz : PN z.2 (pX T) (rX T) (sX T) := PN_of (S := T) p1 (by rw [z2.1 56 (by decide) (by decide), eV 56 (by decide)]) (by rw [z2.1 60 (by decide) (by decide), eV 60 (by decide)]) (by rw [z2.1 62 (by decide) (by decide), eV 62 (by decide)])
        have hb20 := nb_le (tx := tX T) t1
        obtain ⟨U, hU, ⟨l1, l2⟩, l3, l4, l5⟩ := looks_t (tx := tX T) (pu := pX T) (rs := rX T) (st := sX T) (ex := 1000) t1 z4 hpz z3 (x1 := -1) (fun k hk => by
          rw [m_1, eqM_f (by omega)]
          exact ⟨fun g => g.elim, fun g => by omega⟩)
        refine ⟨U, ?_, ⟨fun r a b c d => by rw [l1 r a c d, z2.1 r a b], fun j a b c => by rw [l2 j c, z2.2 j a b]⟩, t1, by rw [l1 55 (by decide) (by decide) (by decide)]; exact z4, l3, fun e => (jl_rng _ _ _ _ _ _ e).1⟩
        unfold M_find
        rw [hz, bnd_ss, hU, bnd_ss]
      obtain ⟨U, hU, hFU, hJ⟩ := hMf
      have u50 : U 50 s = nI f := by rw [hFU.1 50 (by decide) (by decide) (by decide) (by decide), eV 50 (by decide), tS 50 (by decide)]; exact g7
      have u51 : U 51 s = nI n := by rw [hFU.1 51 (by decide) (by decide) (by decide) (by decide), eV 51 (by decide), tS 51 (by decide)]; exact g9
      obtain ⟨q, hq2, d1, d2, d3, d4⟩ := lp_cnt (st := fun q : Int32 × St => M_write_L54 q.2 (nI s) (nI m) q.1) (fun j q => q.1 = nI j ∧ (∀ r, r ≠ 52 → q.2 r = U r) ∧ (∀ e, e < j → q.2 52 (60 * s + e) = M_cut (nI f) (ldX (tX T) (lX T) e)) ∧ ∀ p, (p < 60 * s ∨ 60 * s + j ≤ p) → q.2 52 p = U 52 p) m (by omega) (q0 := (0, U)) ⟨rfl, fun _ _ => rfl, fun e he => absurd he (Nat.not_lt_zero e), fun _ _ => rfl⟩ (fun j q hj hq => by
        obtain ⟨a, W⟩ := q
        obtain ⟨h1, h2, h3, h4⟩ := hq
        have h1 : a = nI j := h1
        subst h1
        have h2 : ∀ r, r ≠ 52 → W r = U r := h2
        have hJW : JM (tX T) (nX T) W (lX T) := ⟨hJ.1, by rw [h2 55 (by decide)]; exact hJ.2.1, by rw [h2 64 (by decide)]; exact hJ.2.2.1, hJ.2.2.2⟩
        try dsimp only
        unfold M_write_L54
        rw [if_neg (nI_ge hj (by omega)), chk_t (inb_nI hs4 (by decide)), ownerOf_t hJW (show j < 10 by omega), bnd_ss, sixty, chk_t (inb_nI (show 60 * s + j < 240 by omega) (by decide)), ix_nI (by omega), ix_nI (by omega), h2 50 (by decide), u50, nI_1]
        refine ⟨_, rfl, rfl, fun r hr => ?_, fun e he => ?_, fun p hp => ?_⟩
        · show up W 52 _ _ r = U r
          rw [up_ne hr, h2 r hr]
        · show up W 52 _ _ 52 _ = _
          by_cases c : e = j
          · rw [c, up_self]
          · rw [up_oth (by omega)]; exact h3 e (by omega)
        · show up W 52 _ _ 52 p = _
          rw [up_oth (by omega)]; exact h4 p (by omega)) (fun q hq => by
        obtain ⟨a, W⟩ := q
        obtain ⟨h1, -⟩ := hq
        have h1 : a = nI m := h1
        subst h1
        try dsimp only
        unfold M_write_L54
        rw [if_pos (nI_le (Nat.le_refl _) (by omega))])
      obtain ⟨b, W⟩ := q
      have d2 : ∀ r, r ≠ 52 → W r = U r := d2
      have d3 : ∀ e, e < m → W 52 (60 * s + e) = M_cut (nI f) (ldX (tX T) (lX T) e) := d3
      have d4 : ∀ p, (p < 60 * s ∨ 60 * s + m ≤ p) → W 52 p = U 52 p := d4
      have hM : M_write V (nI s) = some (nI m, W) := by
        have hJ51 : M_write_J51 U (nI s) (nI m) = some (nI m, W) := by
          unfold M_write_J51 M_write_J90
          rw [hq2, bnd_ss]
        unfold M_write
        rw [if_neg gm, chk_t (inb_nI hs4 (by decide)), ix_nI (by omega), eV 50 (by decide), tS 50 (by decide), g7, if_pos (nI_pos' (by omega)), hU, bnd_ss, chk_t (inb_nI hs4 (by decide)), chk_t (inb_nI hs4 (by decide)), u51]
        by_cases c : 10 ≤ n
        · rw [if_pos (by rw [n_10]; exact nI_le c (by omega)), n_10, show (10 : Nat) = m by omega, hJ51]
        · rw [if_neg (by rw [n_10]; exact nI_ge (by omega) (by omega)), show n = m by omega, hJ51]
      refine ⟨_, (nI m, W), hX, hM, rfl, ?_⟩
      show Inv w W (i + 1)
      have hS := Sh_un hI.2.2.2.2.1
      have w52 : ∀ p, (p < 60 * s ∨ 60 * s + m ≤ p) → W 52 p = S 52 p := fun p hp => by
        rw [d4 p hp, hFU.1 52 (by decide) (by decide) (by decide) (by decide), eV 52 (by decide), tS 52 (by decide)]
      have wr : ∀ r, r ≠ 52 → r ≠ 49 → r ≠ 55 → r ≠ 64 → r ≠ 65 → W r = V r := fun r a b c d e => by rw [d2 r a, hFU.1 r b c d e]
      refine sh_inv hI (fun r r73 _ _ _ x hsc h49 => ?_) (fun j a b c => ?_) (Sh_items (s := s) (k := k) hS hs4 (by rw [tS 48 (by decide)]; exact g1) g3 ?_ ?_ ?_ (fun t j ht e hj => ?_) (fun r hr e => ?_) (fun j hj => ?_))
      · rw [wr r x h49 (fun g => by rw [g] at hsc; cases hsc) (fun g => by rw [g] at hsc; cases hsc) (fun g => by rw [g] at hsc; cases hsc), eV r r73]
      · rw [d2 49 (by decide), hFU.2 j a b c, eV 49 (by decide)]
      · rw [wr 48 (by decide) (by decide) (by decide) (by decide) (by decide), eV 48 (by decide)]
      · rw [wr 50 (by decide) (by decide) (by decide) (by decide) (by decide), eV 50 (by decide)]
      · rw [wr 51 (by decide) (by decide) (by decide) (by decide) (by decide), eV 51 (by decide)]
      · rw [w52 _ (by omega), tS 52 (by decide)]
      · rw [wr r (by omega) (by omega) (by omega) (by omega) (by omega), c2 r e]
      · rw [g4] at hj
        rw [wr _ (by omega) (by omega) (by omega) (by omega) (by omega)]
        by_cases c : j < m
        · rw [c3 j c, d3 j c]
        · rw [c4 j (by omega), w52 _ (by omega)]
          exact g10 j hj
  · refine ⟨(-2, S), (-2, S), ?_, ?_, rfl, Inv_next h⟩
    · unfold X_write
      rw [if_pos (show X_isSheet a1 = 0 from xw_f h1 (by decide))]
    · show M_write S _ = _
      unfold M_write
      rw [if_pos (show M_isSheet a1 = 0 from mi_f h1 (by decide))]
/-! ===== rather ===== -/
theorem lp_find {st : Int32 → Option (Int32 × Nat)} (P : Nat → Bool) (n a : Nat) (hn : n < 10000000) (hs : ∀ j, j < n → st (nI (a + j)) = if P j = true then some (nI (a + j), 1) else some (nI (a + j + 1), 0)) (hx : st (nI (a + n)) = some (nI (a + n), 2)) : lp st FZ (nI a) = some (if fe P n < n then (nI (a + fe P n), 1) else (nI (a + n), 2)) := by
  have hle := fe_le P n
  refine lp_go (fun j => nI (a + j)) (fe P n) rfl (fun j hj => ?_) ?_ ?_ (by omega)
  · try dsimp only
    rw [hs j (by omega), if_neg (fe_no P n j hj)]
    rfl
  · try dsimp only
    by_cases c : fe P n < n
    · rw [hs _ c, if_pos (fe_yes P n c), if_pos c]
    · rw [if_neg c, show fe P n = n by omega, hx]
  · by_cases c : fe P n < n
    · rw [if_pos c]; exact Nat.succ_ne_zero 0
    · rw [if_neg c]; exact Nat.succ_ne_zero 1
/-- what a set gets of the row r -/
noncomputable def gts (r : Nat → Int32) (x : Nat) : Nat → Int64
  | 0 => 0
  | b + 1 => if x.testBit b = true then gts r x b + (r b).toInt64 else gts r x b
theorem gts_congr {r r' : Nat → Int32} {x : Nat} : ∀ n, (∀ j, j < n → r j = r' j) → gts r x n = gts r' x n := by
  intro n
  induction n with
  | zero => intro _; rfl
  | succ n ih =>
    intro h
    unfold gts
    rw [ih (fun j hj => h j (by omega)), h n (by omega)]
theorem xSum_t {w : gw} {T : St} {k n x : Nat} (hg : gln w (k + 1) = n) (hn : n ≤ 60) (h5 : 5 ≤ n) (hx : x < 32) : SH_sumOf w T k (nI x) = some (gts (T (k + 1)) x 5) := by
  unfold SH_sumOf SH_sumOf_J48
  have hl : lp (σ := Int64 × Int32) (fun q => SH_sumOf_L5 w T k (nI x) q.1 q.2) FZ (0, 0) = some ((gts (T (k + 1)) x 5, nI 5), 1) := by
    refine lp_1 (fun j => (gts (T (k + 1)) x j, nI j)) 5 rfl ?_ ?_ (by decide)
    · intro j hj
      try dsimp only
      unfold SH_sumOf_L5
      rw [if_neg (by rw [n_5]; try simp (disch := omega) only [↓m_1, n_0, n_1, n_2, n_3, n_4, n_5, n_6, n_7, n_8, n_9, n_10, n_16, n_20, n_24, n_31, n_32, n_48, n_52, n_57, n_59, n_60, n_64, n_100, n_1024, nI_add, pk_mul, pk_sub, leI_t, leI_f, ltI_t, ltI_f, eqI_t, eqI_f, geM_t, eqM_f, eqM_g, ltM_f, ltM_t, leM_f, inb_nI, ix_nI, chk_tt, bnd_ss, up_ne, up_self, up_oth, if_true, if_false, reduceCtorEq, Nat.succ_ne_zero]; exact fun g => g), hg, show Int32.ofNat n = nI n from rfl, if_neg (nI_ge (by omega) (by omega)), shr_t (by omega) (by omega), chk_t (inb_nI (show j < n by omega) (by omega)), ix_nI (by omega), nI_1]
      show _ = some ((if x.testBit j = true then gts (T (k + 1)) x j + (T (k + 1) j).toInt64 else gts (T (k + 1)) x j, nI (j + 1)), 0)
      by_cases c : x.testBit j = true
      · rw [if_pos c, if_pos (show nI 1 = 1 from rfl), if_pos c]
      · rw [if_neg c, if_neg (show ¬ nI 0 = 1 by decide), if_neg c]
    · try dsimp only
      unfold SH_sumOf_L5
      rw [if_pos (by decide)]
  rw [hl, bnd_ss]
theorem mSum_t {T : St} {s x : Nat} (hs : s < 4) (hx : x < 32) : lp (σ := Int64 × Int32) (fun q => M_rather_L51 T (nI s) (nI x) q.1 q.2) FZ (0, 0) = some ((gts (fun j => T 52 (60 * s + j)) x 5, nI 5), 1) := by
  refine lp_1 (fun j => (gts (fun j => T 52 (60 * s + j)) x j, nI j)) 5 rfl ?_ ?_ (by decide)
  · intro j hj
    try dsimp only
    unfold M_rather_L51
    rw [if_neg (by rw [n_5]; try simp (disch := omega) only [↓m_1, n_0, n_1, n_2, n_3, n_4, n_5, n_6, n_7, n_8, n_9, n_10, n_16, n_20, n_24, n_31, n_32, n_48, n_52, n_57, n_59, n_60, n_64, n_100, n_1024, nI_add, pk_mul, pk_sub, leI_t, leI_f, ltI_t, ltI_f, eqI_t, eqI_f, geM_t, eqM_f, eqM_g, ltM_f, ltM_t, leM_f, inb_nI, ix_nI, chk_tt, bnd_ss, up_ne, up_self, up_oth, if_true, if_false, reduceCtorEq, Nat.succ_ne_zero]; exact fun g => g), isIn_t (by omega) (by omega), sixty, chk_t (inb_nI (show 60 * s + j < 240 by omega) (by decide)), ix_nI (by omega), nI_1]
    show _ = some ((if x.testBit j = true then gts (fun j => T 52 (60 * s + j)) x j + (T 52 (60 * s + j)).toInt64 else gts (fun j => T 52 (60 * s + j)) x j, nI (j + 1)), 0)
    by_cases c : x.testBit j = true
    · rw [if_pos c, if_neg (show ¬ nI 1 = 0 by decide), if_pos c]
    · rw [if_neg c, if_pos (show nI 0 = 0 from rfl), if_neg c, Int64.add_zero]
  · try dsimp only
    unfold M_rather_L51
    rw [if_pos (by decide)]
theorem op_rather {w : gw} {S : St} {i : Nat} (h : Inv w S i) (hi : i < 512) (a1 : Int32) : ∃ z1 z2, X_rather w S a1 = some z1 ∧ M_rather z1.2 a1 = some z2 ∧ z1.1 = z2.1 ∧ Inv w z2.2 (i + 1) := by
  rcases sm_or a1 3 with h1 | h1
  · obtain ⟨s, hs, rfl⟩ := h1
    have hs4 : s < 4 := by omega
    obtain ⟨gx, gm⟩ := isS_t hs4
    rcases sh_get h hs4 with ⟨g1, g2⟩ | ⟨k, n, f, g1, g2, g3, g4, g5, g6, g7, g8, g9, g10⟩
    · refine ⟨(-10 - 1, up S 0 8 1), (-10 - 1, up (up S 0 8 1) 49 4 1), ?_, ?_, rfl, fnd_inv h⟩
      · unfold X_rather X_finding
        rw [if_neg gx, chk_t (inb_nI (by omega) (by decide)), ix_nI (by omega), g1, if_pos neg1_lt, bnd_ss]
      · show M_rather (up S 0 8 1) _ = _
        unfold M_rather M_met
        rw [if_neg gm, chk_t (inb_nI (by omega) (by decide)), ix_nI (by omega), up_ne (by decide), g2, if_neg neg1_ge, bnd_ss]
    · by_cases c5 : 5 ≤ n
      · obtain ⟨T, hT, hI, hC, hF⟩ := XC h (by omega)
        obtain ⟨v1, v2, v3, v4⟩ := Inv_vv hI
        have k73 := g2.1
        have tS : ∀ r, r ≠ 43 → r ≠ 44 → T r = S r := hF
        have hrow : ∀ x, gts (T (k + 1)) x 5 = gts (fun j => T 52 (60 * s + j)) x 5 := fun x => gts_congr 5 (fun j hj => by
          rw [tS (k + 1) (by omega) (by omega), tS 52 (by decide) (by decide)]
          exact g10 j (by omega))
        obtain ⟨P, hP⟩ : ∃ P : Nat → Bool, P = fun j => decide (¬ 0 ≤ lg_cmp (gts (fun j => T 52 (60 * s + j)) (1 + j) 5) ((nI (cw (vR (T 58)) (rX T) (1 + j))).toInt64)) := ⟨_, rfl⟩
        have hPj : ∀ j, (P j = true ↔ ¬ 0 ≤ lg_cmp (gts (fun j => T 52 (60 * s + j)) (1 + j) 5) ((nI (cw (vR (T 58)) (rX T) (1 + j))).toInt64)) := fun j => by rw [hP]; exact decide_eq_true_iff
        have hCx : ∀ j, j < 31 → T 44 (1 + j) = nI (cw (vR (T 58)) (rX T) (1 + j)) := fun j hj => hC (1 + j) (by omega)
        have hl1 := lp_find (st := fun q => X_rather_L47 w T k q) P 31 1 (by decide) (fun j hj => by
          try dsimp only
          unfold X_rather_L47
          rw [if_neg (by rw [n_31]; exact nI_nlt (by omega) (by omega)), xSum_t g4 g5 c5 (show 1 + j < 32 by omega), bnd_ss, chk_t (inb_nI (show 1 + j < 32 by omega) (by decide)), ix_nI (by omega), hCx j hj, hrow, nI_1]
          by_cases c : P j = true
          · rw [if_pos c, if_neg ((hPj j).mp c)]
          · rw [if_neg c, if_pos (Classical.byContradiction fun q => c ((hPj j).mpr q))]) (by
          try dsimp only
          unfold X_rather_L47
          rw [if_pos (by decide)])
        have hl2 := lp_find (st := fun q => M_rather_L40 T (nI s) q) P 31 1 (by decide) (fun j hj => by
          try dsimp only
          unfold M_rather_L40
          rw [if_neg (by rw [n_32]; exact nI_ge (by omega) (by omega)), mSum_t hs4 (show 1 + j < 32 by omega), bnd_ss]
          try dsimp only
          unfold M_rather_J92
          rw [clubOf_t v2 v4 (show 1 + j < 32 by omega), bnd_ss, nI_1]
          by_cases c : P j = true
          · rw [if_pos c, if_neg ((hPj j).mp c)]
          · rw [if_neg c, if_pos (Classical.byContradiction fun q => c ((hPj j).mpr q))]) (by
          try dsimp only
          unfold M_rather_L40
          rw [if_pos (by decide)])
        have hX : X_rather w S (nI s) = some (if fe P 31 < 31 then nI (1 + fe P 31) else -1, T) := by
          unfold X_rather X_rather_J72 X_rather_J81
          rw [if_neg gx, chk_t (inb_nI (by omega) (by decide)), ix_nI (show s < 2 ^ 31 by omega), g1, if_neg (nI_pos (by omega)), chk_t (shB_t g2 g3), ix_nI (show k < 2 ^ 31 by omega), g4, if_pos (show (5 : Int32) ≤ Int32.ofNat n from nI_le (a := 5) c5 (by omega)), hT, bnd_ss, show (1 : Int32) = nI 1 from rfl, hl1, bnd_ss]
          by_cases c : fe P 31 < 31
          · rw [if_pos c, if_pos c, if_pos rfl]
          · rw [if_neg c, if_neg c, if_neg (by decide)]
        have hM : M_rather T (nI s) = some (if fe P 31 < 31 then nI (1 + fe P 31) else -1, T) := by
          unfold M_rather M_rather_J103 M_rather_J111
          rw [if_neg gm, chk_t (inb_nI hs4 (by decide)), ix_nI (by omega), tS 50 (by decide) (by decide), g7, if_pos (nI_pos' (by omega)), chk_t (inb_nI hs4 (by decide)), tS 51 (by decide) (by decide), g9, if_pos (show (5 : Int32) ≤ nI n from nI_le (a := 5) c5 (by omega)), show (1 : Int32) = nI 1 from rfl, hl2, bnd_ss]
          by_cases c : fe P 31 < 31
          · rw [if_pos c, if_pos c, if_pos rfl]
          · rw [if_neg c, if_neg c, if_neg (by decide)]
        exact ⟨_, _, hX, hM, rfl, Inv_next hI⟩
      · refine ⟨(-3, S), (-3, S), ?_, ?_, rfl, Inv_next h⟩
        · unfold X_rather
          rw [if_neg gx, chk_t (inb_nI (by omega) (by decide)), ix_nI (show s < 2 ^ 31 by omega), g1, if_neg (nI_pos (by omega)), chk_t (shB_t g2 g3), ix_nI (show k < 2 ^ 31 by omega), g4, if_neg (show ¬ (5 : Int32) ≤ Int32.ofNat n from nI_ge (b := 5) (by omega) (by omega))]
        · show M_rather S _ = _
          unfold M_rather
          rw [if_neg gm, chk_t (inb_nI hs4 (by decide)), ix_nI (by omega), g7, if_pos (nI_pos' (by omega)), chk_t (inb_nI hs4 (by decide)), g9, if_neg (show ¬ (5 : Int32) ≤ nI n from nI_ge (b := 5) (by omega) (by omega))]
  · refine ⟨(-2, S), (-2, S), ?_, ?_, rfl, Inv_next h⟩
    · unfold X_rather
      rw [if_pos (show X_isSheet a1 = 0 from xw_f h1 (by decide))]
    · show M_rather S _ = _
      unfold M_rather
      rw [if_pos (show M_isSheet a1 = 0 from mi_f h1 (by decide))]
