/-! ===== count, undo ===== -/
noncomputable def noX (S : St) : Nat → Nat
  | 0 => 0
  | m + 1 => noX S m + (if lX S m = 0 then 0 else 1)
noncomputable def palX (S : St) : Nat → Nat
  | 0 => 0
  | m + 1 => palX S m + (if lX S m = 0 then 0 else prX S m)
noncomputable def nhX (S : St) : Nat → Nat := nh (tX S) (pX S) (rX S) (sX S) 1000
noncomputable def ctX (S : St) (x : Int32) : Int32 := if x = 0 then nI (NX S) else if x = 1 then nI (nX S) else if x = 2 then nI (nhX S (NX S)) else if x = 3 then nI (noX S 10) else if x = 4 then nI (palX S 10) else if x = 5 then S 49 22 else if x = 6 then S 62 0 else if x = 7 then S 62 1 else if x = 8 then S 49 4 else -2
theorem numberOwned_t {w : gw} {T : St} {i : Nat} (hI : Inv w T i) (hO : OcOK T) : OC_numberOwned T = some (nI (noX T 10)) := by
  have hn := (Inv_tx hI).1
  unfold OC_numberOwned
  have hl : lp (σ := Int32 × Int32) (fun q => OC_numberOwned_L4 T q.1 q.2) FZ (0, 0) = some ((nI (noX T 10), nI 10), 1) := by
    refine lp_1 (fun j => (nI (noX T j), nI j)) 10 rfl ?_ ?_ (by decide)
    · intro j hj
      dsimp only
      unfold OC_numberOwned_L4
      rw [if_neg (by rw [n_10]; try simp (disch := omega) only [↓m_1, n_0, n_1, n_2, n_3, n_4, n_5, n_6, n_7, n_8, n_9, n_10, n_16, n_20, n_24, n_31, n_32, n_48, n_52, n_57, n_59, n_60, n_64, n_100, n_1024, nI_add, pk_mul, pk_sub, leI_t, leI_f, ltI_t, ltI_f, eqI_t, eqI_f, geM_t, eqM_f, eqM_g, ltM_f, ltM_t, leM_f, inb_nI, ix_nI, chk_tt, bnd_ss, up_ne, up_self, up_oth, if_true, if_false, reduceCtorEq, Nat.succ_ne_zero]; exact fun g => g), chk_t (inb_nI hj (by decide)), ix_nI (by omega), Oc29 hO hj, nI_1, nI_1]
      show _ = some ((nI (noX T j + (if lX T j = 0 then 0 else 1)), nI (j + 1)), 0)
      rcases ldX_c hn j with ⟨c, d⟩ | ⟨c, q, q1, q2, d⟩
      · rw [d, if_pos (show mI = -1 from rfl), if_pos c]
        rfl
      · rw [d, if_neg (by rw [m_1]; try simp (disch := omega) only [↓m_1, n_0, n_1, n_2, n_3, n_4, n_5, n_6, n_7, n_8, n_9, n_10, n_16, n_20, n_24, n_31, n_32, n_48, n_52, n_57, n_59, n_60, n_64, n_100, n_1024, nI_add, pk_mul, pk_sub, leI_t, leI_f, ltI_t, ltI_f, eqI_t, eqI_f, geM_t, eqM_f, eqM_g, ltM_f, ltM_t, leM_f, inb_nI, ix_nI, chk_tt, bnd_ss, up_ne, up_self, up_oth, if_true, if_false, reduceCtorEq, Nat.succ_ne_zero]; exact fun g => g), if_neg c]
    · dsimp only
      unfold OC_numberOwned_L4
      rw [if_pos (by decide)]
  rw [hl, bnd_ss]
  rfl
theorem psum_all {S : St} (hn : nX S ≤ 100) : ∀ m, smE (fun b => psum S b m) 5 = palX S m := by
  intro m
  induction m with
  | zero => rfl
  | succ m ih =>
    have ih : 0 + psum S 0 m + psum S 1 m + psum S 2 m + psum S 3 m + psum S 4 m = palX S m := ih
    show 0 + (psum S 0 m + (if lX S m ≠ 0 ∧ bdk (tX S) (lX S m - 1) = 0 then prX S m else 0)) + (psum S 1 m + (if lX S m ≠ 0 ∧ bdk (tX S) (lX S m - 1) = 1 then prX S m else 0)) + (psum S 2 m + (if lX S m ≠ 0 ∧ bdk (tX S) (lX S m - 1) = 2 then prX S m else 0)) + (psum S 3 m + (if lX S m ≠ 0 ∧ bdk (tX S) (lX S m - 1) = 3 then prX S m else 0)) + (psum S 4 m + (if lX S m ≠ 0 ∧ bdk (tX S) (lX S m - 1) = 4 then prX S m else 0)) = palX S m + (if lX S m = 0 then 0 else prX S m)
    by_cases c : lX S m = 0
    · rw [if_neg (fun g => g.1 c), if_neg (fun g => g.1 c), if_neg (fun g => g.1 c), if_neg (fun g => g.1 c), if_neg (fun g => g.1 c), if_pos c]
      omega
    · have hb := (lX_bid S hn c).2.2.2.1
      rw [if_neg (show ¬ lX S m = 0 from c)]
      generalize bdk (tX S) (lX S m - 1) = q at hb
      generalize prX S m = z
      match q, hb with
      | 0, _ => rw [if_pos ⟨c, rfl⟩, if_neg (fun g => by omega), if_neg (fun g => by omega), if_neg (fun g => by omega), if_neg (fun g => by omega)]; omega
      | 1, _ => rw [if_neg (fun g => by omega), if_pos ⟨c, rfl⟩, if_neg (fun g => by omega), if_neg (fun g => by omega), if_neg (fun g => by omega)]; omega
      | 2, _ => rw [if_neg (fun g => by omega), if_neg (fun g => by omega), if_pos ⟨c, rfl⟩, if_neg (fun g => by omega), if_neg (fun g => by omega)]; omega
      | 3, _ => rw [if_neg (fun g => by omega), if_neg (fun g => by omega), if_neg (fun g => by omega), if_pos ⟨c, rfl⟩, if_neg (fun g => by omega)]; omega
      | 4, _ => rw [if_neg (fun g => by omega), if_neg (fun g => by omega), if_neg (fun g => by omega), if_neg (fun g => by omega), if_pos ⟨c, rfl⟩]; omega
      | q + 5, hb => exact absurd hb (by omega)
theorem allPrices_t {w : gw} {T : St} {i : Nat} (hI : Inv w T i) (hO : OcOK T) : OC_allPrices T = some (nI (palX T 10)) := by
  have hn := (Inv_tx hI).1
  unfold OC_allPrices
  have hl : lp (σ := Int32 × Int32) (fun q => OC_allPrices_L4 T q.1 q.2) FZ (0, 0) = some ((nI (smE (fun b => psum T b 10) 5), nI 5), 1) := by
    refine lp_1 (fun j => (nI (smE (fun b => psum T b 10) j), nI j)) 5 rfl ?_ ?_ (by decide)
    · intro j hj
      dsimp only
      unfold OC_allPrices_L4
      rw [if_neg (by rw [n_5]; try simp (disch := omega) only [↓m_1, n_0, n_1, n_2, n_3, n_4, n_5, n_6, n_7, n_8, n_9, n_10, n_16, n_20, n_24, n_31, n_32, n_48, n_52, n_57, n_59, n_60, n_64, n_100, n_1024, nI_add, pk_mul, pk_sub, leI_t, leI_f, ltI_t, ltI_f, eqI_t, eqI_f, geM_t, eqM_f, eqM_g, ltM_f, ltM_t, leM_f, inb_nI, ix_nI, chk_tt, bnd_ss, up_ne, up_self, up_oth, if_true, if_false, reduceCtorEq, Nat.succ_ne_zero]; exact fun g => g), pricesOf_t hI hO hj, bnd_ss, nI_1, nI_add]
      rfl
    · dsimp only
      unfold OC_allPrices_L4
      rw [if_pos (by decide)]
  rw [hl, bnd_ss, psum_all hn]
  rfl
theorem Inv_misc {w : gw} {T : St} {i : Nat} (hI : Inv w T i) : T 45 3 = T 49 22 ∧ T 24 0 = T 62 0 ∧ T 24 1 = T 62 1 ∧ T 0 8 = T 49 4 := by
  obtain ⟨k, -, k1, k2, -⟩ := hI.2.2.2.1
  have k1 : T 45 3 = nI k := k1
  have k2 : T 49 22 = nI k := k2
  have h1 : T 24 0 = T 62 0 := hI.2.1.2.2.2.2.2.2.2.1.1
  have h2 : T 0 8 = T 49 4 := hI.2.2.2.2.2.1
  exact ⟨k1.trans k2.symm, h1, (Inv_rl hI).1, h2⟩
theorem xCount {w : gw} {S T : St} {i : Nat} (hT : X_judgedOutcome S = some T) (hI : Inv w T i) (hO : OcOK T) (x : Int32) : X_count S x = some (ctX T x, T) := by
  obtain ⟨m1, m2, m3, m4⟩ := Inv_misc hI
  obtain ⟨t1, t2, t3, t4, t5⟩ := Inv_tx hI
  have h1 : T 25 3 = nI (NX T) := hO.2.1
  have h2 : T 27 5 = nI (nhX T (NX T)) := hO.2.2.2.2.2.1
  unfold X_count ctX
  rw [hT, bnd_ss, numberOwned_t hI hO, bnd_ss, allPrices_t hI hO, bnd_ss, h1, t3, h2, m1, m2, m3, m4]
  by_cases c : x = 0
  · rw [if_pos c, if_pos c]
  rw [if_neg c, if_neg c]
  by_cases c : x = 1
  · rw [if_pos c, if_pos c]
  rw [if_neg c, if_neg c]
  by_cases c : x = 2
  · rw [if_pos c, if_pos c]
  rw [if_neg c, if_neg c]
  by_cases c : x = 3
  · rw [if_pos c, if_pos c]
  rw [if_neg c, if_neg c]
  by_cases c : x = 4
  · rw [if_pos c, if_pos c]
  rw [if_neg c, if_neg c]
  by_cases c : x = 5
  · rw [if_pos c, if_pos c]
  rw [if_neg c, if_neg c]
  by_cases c : x = 6
  · rw [if_pos c, if_pos c]
  rw [if_neg c, if_neg c]
  by_cases c : x = 7
  · rw [if_pos c, if_pos c]
  rw [if_neg c, if_neg c]
  by_cases c : x = 8
  · rw [if_pos c, if_pos c]
  rw [if_neg c, if_neg c]
theorem mCount {w : gw} {T U : St} {i : Nat} (hI : Inv w T i) (hU : M_find T = some U) (hM : MFs T U) (x : Int32) : M_count T x = some (ctX T x, U) := by
  obtain ⟨t1, t2, t3, t4, t5⟩ := Inv_tx hI
  have hN : NX T ≤ 20 := nb_le t1
  have l2 : lp (σ := Int32 × Int32) (fun q => M_count_L68 U q.1 q.2) FZ (0, 0) = some ((nI (nhX T (NX T)), nI (NX T)), 1) := by
    refine lp_1 (fun j => (nI (nhX T j), nI j)) (NX T) rfl ?_ ?_ (by omega)
    · intro j hj
      dsimp only
      unfold M_count_L68
      rw [hM.2.1, if_neg (fun g => by rw [nI_leI (by omega) (by omega)] at g; omega), chk_t (inb_nI (show j < 20 by omega) (by decide)), ix_nI (by omega), hM.2.2.2.1 j hj, nI_1, nI_1]
      show _ = some ((nI (nhX T j + (if hld (tX T) (pX T) (rX T) (sX T) 1000 j = true then 1 else 0)), nI (j + 1)), 0)
      by_cases c : hld (tX T) (pX T) (rX T) (sX T) 1000 j = true
      · rw [if_pos c, if_neg n10, if_pos c]
      · rw [if_neg c, if_pos rfl, if_neg c, n_0, nI_add]
    · dsimp only
      unfold M_count_L68
      rw [hM.2.1, if_pos (nI_le (Nat.le_refl _) (by omega))]
  have l3 : lp (σ := Int32 × Int32) (fun q => M_count_L103 U q.1 q.2) FZ (0, 0) = some ((nI (noX T 10), nI 10), 1) := by
    refine lp_1 (fun j => (nI (noX T j), nI j)) 10 rfl ?_ ?_ (by decide)
    · intro j hj
      dsimp only
      unfold M_count_L103
      rw [if_neg (by rw [n_10]; try simp (disch := omega) only [↓m_1, n_0, n_1, n_2, n_3, n_4, n_5, n_6, n_7, n_8, n_9, n_10, n_16, n_20, n_24, n_31, n_32, n_48, n_52, n_57, n_59, n_60, n_64, n_100, n_1024, nI_add, pk_mul, pk_sub, leI_t, leI_f, ltI_t, ltI_f, eqI_t, eqI_f, geM_t, eqM_f, eqM_g, ltM_f, ltM_t, leM_f, inb_nI, ix_nI, chk_tt, bnd_ss, up_ne, up_self, up_oth, if_true, if_false, reduceCtorEq, Nat.succ_ne_zero]; exact fun g => g), chk_t (inb_nI hj (by decide)), ix_nI (by omega), hM.2.2.1.2.2.1 j hj, nI_1, nI_1]
      show _ = some ((nI (noX T j + (if lX T j = 0 then 0 else 1)), nI (j + 1)), 0)
      unfold ldM
      by_cases c : lX T j = 0
      · rw [if_pos c, if_pos (show mI = -1 from rfl), if_pos c, n_0, nI_add]
      · have := (lX_bid T t1 c).1
        rw [if_neg c, if_neg (by rw [m_1]; try simp (disch := omega) only [↓m_1, n_0, n_1, n_2, n_3, n_4, n_5, n_6, n_7, n_8, n_9, n_10, n_16, n_20, n_24, n_31, n_32, n_48, n_52, n_57, n_59, n_60, n_64, n_100, n_1024, nI_add, pk_mul, pk_sub, leI_t, leI_f, ltI_t, ltI_f, eqI_t, eqI_f, geM_t, eqM_f, eqM_g, ltM_f, ltM_t, leM_f, inb_nI, ix_nI, chk_tt, bnd_ss, up_ne, up_self, up_oth, if_true, if_false, reduceCtorEq, Nat.succ_ne_zero]; exact fun g => g), if_neg c]
    · dsimp only
      unfold M_count_L103
      rw [if_pos (by decide)]
  have l4 : lp (σ := Int32 × Int32) (fun q => M_count_L137 U q.1 q.2) FZ (0, 0) = some ((nI (palX T 10), nI 10), 1) := by
    refine lp_1 (fun j => (nI (palX T j), nI j)) 10 rfl ?_ ?_ (by decide)
    · intro j hj
      dsimp only
      unfold M_count_L137
      rw [if_neg (by rw [n_10]; try simp (disch := omega) only [↓m_1, n_0, n_1, n_2, n_3, n_4, n_5, n_6, n_7, n_8, n_9, n_10, n_16, n_20, n_24, n_31, n_32, n_48, n_52, n_57, n_59, n_60, n_64, n_100, n_1024, nI_add, pk_mul, pk_sub, leI_t, leI_f, ltI_t, ltI_f, eqI_t, eqI_f, geM_t, eqM_f, eqM_g, ltM_f, ltM_t, leM_f, inb_nI, ix_nI, chk_tt, bnd_ss, up_ne, up_self, up_oth, if_true, if_false, reduceCtorEq, Nat.succ_ne_zero]; exact fun g => g), chk_t (inb_nI hj (by decide)), ix_nI (by omega), hM.2.2.1.2.2.1 j hj, mPrice_t hI hM hj, bnd_ss, nI_1]
      show _ = some ((nI (palX T j + (if lX T j = 0 then 0 else prX T j)), nI (j + 1)), 0)
      unfold ldM
      by_cases c : lX T j = 0
      · rw [if_pos c, if_pos (show mI = -1 from rfl), if_pos c, n_0, nI_add]
      · have := (lX_bid T t1 c).1
        rw [if_neg c, if_neg (by rw [m_1]; try simp (disch := omega) only [↓m_1, n_0, n_1, n_2, n_3, n_4, n_5, n_6, n_7, n_8, n_9, n_10, n_16, n_20, n_24, n_31, n_32, n_48, n_52, n_57, n_59, n_60, n_64, n_100, n_1024, nI_add, pk_mul, pk_sub, leI_t, leI_f, ltI_t, ltI_f, eqI_t, eqI_f, geM_t, eqM_f, eqM_g, ltM_f, ltM_t, leM_f, inb_nI, ix_nI, chk_tt, bnd_ss, up_ne, up_self, up_oth, if_true, if_false, reduceCtorEq, Nat.succ_ne_zero]; exact fun g => g), if_neg c, if_neg c, nI_add]
    · dsimp only
      unfold M_count_L137
      rw [if_pos (by decide)]
  unfold M_count ctX
  rw [hU, bnd_ss, l2, bnd_ss, l3, bnd_ss, l4, bnd_ss, hM.2.1, hM.1.2 6 (by decide) (by decide) (by decide), hM.1.2 22 (by decide) (by decide) (by decide), hM.1.2 4 (by decide) (by decide) (by decide), hM.1.1 62 (by decide) (by decide) (by decide) (by decide), t2]
  unfold M_count_J99 M_count_J133 M_count_J171
  by_cases c : x = 0
  · rw [if_pos c, if_pos c]
  rw [if_neg c, if_neg c]
  by_cases c : x = 1
  · rw [if_pos c, if_pos c]
  rw [if_neg c, if_neg c]
  by_cases c : x = 2
  · rw [if_pos c, if_pos c]
  rw [if_neg c, if_neg c]
  by_cases c : x = 3
  · rw [if_pos c, if_pos c]
  rw [if_neg c, if_neg c]
  by_cases c : x = 4
  · rw [if_pos c, if_pos c]
  rw [if_neg c, if_neg c]
  by_cases c : x = 5
  · rw [if_pos c, if_pos c]
  rw [if_neg c, if_neg c]
  by_cases c : x = 6
  · rw [if_pos c, if_pos c, c, show ix ((6 : Int32) - 6) = 0 by decide, chk_t (show inb ((6 : Int32) - 6) 3 = true by decide)]
  rw [if_neg c, if_neg c]
  by_cases c : x = 7
  · rw [if_pos c, if_pos c, c, show ix ((7 : Int32) - 6) = 1 by decide, chk_t (show inb ((7 : Int32) - 6) 3 = true by decide)]
  rw [if_neg c, if_neg c]
  by_cases c : x = 8
  · rw [if_pos c, if_pos c]
  rw [if_neg c, if_neg c]
theorem op_count {w : gw} {S : St} {i : Nat} (h : Inv w S i) (hi : i < 512) (a1 : Int32) : ∃ z1 z2, X_count S a1 = some z1 ∧ M_count z1.2 a1 = some z2 ∧ z1.1 = z2.1 ∧ Inv w z2.2 (i + 1) := by
  obtain ⟨T, U, hT, hU, hI, hI2, hO, hM⟩ := XMf h hi
  exact ⟨_, _, xCount hT hI hO a1, mCount hI hU hM a1, rfl, hI2⟩
theorem Cf_of2 {S S' : St} (h : Cf S) (hl : ∀ k, 2 ≤ k → k < 25 → S' k = S k) (hm : ∀ k, 56 ≤ k → k < 64 → S' k = S k) : Cf S' := by
  obtain ⟨h1, h2, h3, h4, h5, h6, h7, h8, h9, h10⟩ := h
  have e56 := hm 56 (by omega) (by omega)
  have e57 := hm 57 (by omega) (by omega)
  have e58 := hm 58 (by omega) (by omega)
  have e59 := hm 59 (by omega) (by omega)
  have e60 := hm 60 (by omega) (by omega)
  have e61 := hm 61 (by omega) (by omega)
  have e62 := hm 62 (by omega) (by omega)
  have e63 := hm 63 (by omega) (by omega)
  refine ⟨?_, ?_, ?_, ?_, ?_, ?_, ?_, ?_, ?_, ?_⟩
  · rw [hl 2 (by omega) (by omega), e56]; exact h1
  · rw [hl 3 (by omega) (by omega), e57]; exact h2
  · intro b e hb he; rw [hl (5 + b) (by omega) (by omega), e58]; exact h3 b e hb he
  · intro b p hb hp; rw [hl (11 + b) (by omega) (by omega), e59]; exact h4 b p hb hp
  · intro b hb; rw [hl (17 + b) (by omega) (by omega), e63]; exact h5 b hb
  · rw [hl 22 (by omega) (by omega), e60]; exact h6
  · rw [hl 23 (by omega) (by omega), e61]; exact h7
  · rw [hl 24 (by omega) (by omega), e62]; exact h8
  · rw [hl 24 (by omega) (by omega), e62]; exact h9
  · rw [hl 24 (by omega) (by omega), e62]; exact h10
/-- the text is cut to n -/
theorem txt_inv {w : gw} {S U : St} {i n : Nat} (h : Inv w S i) (hi : i < 512) (hr : ∀ r, r ≠ 0 → r ≠ 25 → r ≠ 49 → scr r = false → U r = S r) (h0 : ∀ j, j ≠ 9 → U 0 j = S 0 j) (h09 : U 0 9 = S 0 9 + 1) (h25 : U 25 1 = nI n) (h496 : U 49 6 = nI n) (h49 : ∀ j, j ≠ 6 → j ≠ 7 → j ≠ 8 → j ≠ 20 → U 49 j = S 49 j) (hn : n ≤ nX S) : Inv w U (i + 1) := by
  obtain ⟨t1, t2, t3, t4, t5⟩ := Inv_tx h
  obtain ⟨k0, k1, k2, k3, k4, k5, k7⟩ := h
  have hm : ∀ r, r ≠ 0 → r ≠ 25 → r ≠ 49 → msk U r = msk S r := by
    intro r r0 r25 r49
    cases hs : scr r with
    | true =>
      unfold msk
      rw [hs]
      rfl
    | false => rw [msk_at hs r49, msk_at hs r49, hr r r0 r25 r49 hs]
  have hm49 : ∀ j, j ≠ 6 → msk U 49 j = msk S 49 j := by
    intro j hj
    show cond (Nat.beq j 7 || Nat.beq j 8 || Nat.beq j 20) 0 (U 49 j) = cond (Nat.beq j 7 || Nat.beq j 8 || Nat.beq j 20) 0 (S 49 j)
    by_cases c : (Nat.beq j 7 || Nat.beq j 8 || Nat.beq j 20) = true
    · rw [c]; rfl
    · rw [h49 j hj (fun g => c (by rw [g]; rfl)) (fun g => c (by rw [g]; rfl)) (fun g => c (by rw [g]; rfl))]
  refine ⟨w48_of k0 (hm 48 (by omega) (by omega) (by omega)), Cf_of2 k1 (fun k a b => hm k (by omega) (by omega) (by omega)) (fun k a b => hm k (by omega) (by omega) (by omega)), ⟨n, by omega, h25, h496, fun j hj => ?_⟩, Sg_of k3 (by rw [hm 45 (by omega) (by omega) (by omega)]) (hm49 22 (by omega)) (hm 46 (by omega) (by omega) (by omega)) (hm 67 (by omega) (by omega) (by omega)) (by rw [hm 45 (by omega) (by omega) (by omega)]), Sh_of k4 (hm 48 (by omega) (by omega) (by omega)) (hm 50 (by omega) (by omega) (by omega)) (hm 51 (by omega) (by omega) (by omega)) (hm 52 (by omega) (by omega) (by omega)) (fun k hk => hm k (by omega) (by omega) (by omega)), ?_, Ed_up (d := 1) k7 hi ⟨by omega, by omega⟩ ?_ (by rw [hm 27 (by omega) (by omega) (by omega)]) (by rw [hm 39 (by omega) (by omega) (by omega)]) (by rw [hm 43 (by omega) (by omega) (by omega)])⟩
  · rw [hm 26 (by omega) (by omega) (by omega), hm 54 (by omega) (by omega) (by omega)]
    show S 26 j = S 54 j ∧ sm (S 54 j) 255
    rw [(t4 j (by omega)).1, (t5 j (by omega)).1]
    exact ⟨rfl, _, (t4 j (by omega)).2, rfl⟩
  · rw [hm49 4 (by omega)]
    show U 0 8 = _
    rw [h0 8 (by omega)]
    exact k5
  · exact h09
theorem op_undo {w : gw} {S : St} {i : Nat} (h : Inv w S i) (hi : i < 512) : ∃ z1 z2, X_undo S = some z1 ∧ M_undo z1.2 = some z2 ∧ z1.1 = z2.1 ∧ Inv w z2.2 (i + 1) := by
  obtain ⟨T, hT, hI, hO, -⟩ := XJ h (by omega)
  obtain ⟨t1, t2, t3, t4, t5⟩ := Inv_tx hI
  have hN : NX T ≤ 20 := nb_le t1
  have h3 : T 25 3 = nI (NX T) := hO.2.1
  unfold X_undo
  rw [hT, bnd_ss, h3]
  by_cases c : NX T = 0
  · obtain ⟨z, hz, z1, z2, z3, z4⟩ := MR hI
    rw [c, if_pos nI_0]
    refine ⟨_, (-3, z.2), rfl, ?_, rfl, ?_⟩
    · show M_undo T = _
      unfold M_undo
      rw [hz, bnd_ss, z3, c, if_pos nI_0]
    · exact Inv_next (FrM_inv ⟨fun r a b _ _ => z2.1 r a b, fun j a b _ => z2.2 j a b⟩ hI)
  · obtain ⟨k, hk⟩ : ∃ k, NX T = k + 1 := ⟨NX T - 1, by omega⟩
    have hn5 : nX T = 5 * (k + 1) - 1 := by
      have := (nb_n (tx := tX T) (n := nX T) (k := 0) (by show 0 < NX T; omega)).1
      have e : nb (tX T) (nX T) = k + 1 := hk
      rw [e] at this
      exact this
    obtain ⟨n', hn'⟩ : ∃ n', n' = if k = 0 then 0 else 5 * k - 1 := ⟨_, rfl⟩
    have hn2 : n' + (if k = 0 then 4 else 5) = nX T := by
      rw [hn', hn5]
      split <;> omega
    have ek : BT_keep T (nI k) = some (up T 25 1 (nI n')) := by
      unfold BT_keep
      by_cases ck : k = 0
      · rw [ck, if_pos nI_0, hn', if_pos ck]
        rfl
      · rw [if_neg (nI_ne0 (by omega) (by omega)), n_5, pk_mul, n_1, pk_sub (by omega), hn', if_neg ck, Nat.mul_comm k 5]
    rw [hk, if_neg (nI_ne0 (by omega) (by omega)), nI_pred, ek, bnd_ss]
    obtain ⟨V, hV⟩ : ∃ V, V = up (up T 25 1 (nI n')) 0 9 (((up T 25 1 (nI n')) 0 9) + 1) := ⟨_, rfl⟩
    rw [← hV]
    have v25 : V 25 1 = nI n' := by rw [hV, up_ne (by decide), up_self]
    have v09 : V 0 9 = T 0 9 + 1 := by rw [hV, up_self, up_ne (by decide)]
    have v0 : ∀ j, j ≠ 9 → V 0 j = T 0 j := fun j hj => by rw [hV, up_oth hj, up_ne (by decide)]
    have vr : ∀ r, r ≠ 0 → r ≠ 25 → V r = T r := fun r a b => by rw [hV, up_ne a, up_ne b]
    obtain ⟨z, hz, z1, z2, z3, z4⟩ := reads_t (S := V) (tx := tX T) (n := nX T) t1 (by rw [vr 54 (by decide) (by decide)]; exact t4) (by rw [vr 49 (by decide) (by decide)]; exact t2)
    have z3 : z.2 49 8 = nI (NX T) := z3
    have z6 : z.2 49 6 = nI (nX T) := by rw [z2.2 6 (by decide) (by decide), vr 49 (by decide) (by decide)]; exact t2
    obtain ⟨W, hW⟩ : ∃ W, W = up z.2 49 6 (nI n') := ⟨_, rfl⟩
    refine ⟨_, (nI k, W), rfl, ?_, rfl, ?_⟩
    · show M_undo V = _
      unfold M_undo M_undo_J33
      rw [hz, bnd_ss, z3, hk, if_neg (nI_ne0 (by omega) (by omega)), z6, ← hn2]
      by_cases ck : k = 0
      · rw [if_pos ck, if_pos (by rw [ck]; rfl), n_4, pk_sub (by omega), Nat.add_sub_cancel, up_oth (by decide), z3, hk, nI_pred, hW]
      · rw [if_neg ck, if_neg (by rw [n_1, nI_eq (by omega) (by omega)]; omega), n_5, pk_sub (by omega), Nat.add_sub_cancel, up_oth (by decide), z3, hk, nI_pred, hW]
    · show Inv w W (i + 1)
      refine txt_inv (S := T) (n := n') hI hi ?_ ?_ ?_ ?_ ?_ ?_ (by omega)
      · intro r r0 r25 r49 hs
        rw [hW, up_ne r49, z2.1 r r49 (fun g => by rw [g] at hs; cases hs), vr r r0 r25]
      · intro j hj
        rw [hW, up_ne (by decide), z2.1 0 (by decide) (by decide), v0 j hj]
      · rw [hW, up_ne (by decide), z2.1 0 (by decide) (by decide), v09]
      · rw [hW, up_ne (by decide), z2.1 25 (by decide) (by decide), v25]
      · rw [hW, up_self]
      · intro j j6 j7 j8 j20
        rw [hW, up_oth j6, z2.2 j j7 j8, vr 49 (by decide) (by decide)]
