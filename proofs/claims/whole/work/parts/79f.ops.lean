/-! ===== bits ===== -/
theorem or_nI (a b : Nat) : nI a ||| nI b = nI (a ||| b) := by
  apply Int32.toBitVec_inj.mp
  show BitVec.ofNat 32 a ||| BitVec.ofNat 32 b = BitVec.ofNat 32 (a ||| b)
  exact BitVec.ofNat_or.symm
theorem and31 {e : Nat} (he : e < 32) : nI e &&& 31 = nI e := by
  rw [pk_andN (by omega) 5 (by decide), Nat.mod_eq_of_lt (by omega)]
theorem sh_k {e : Nat} (he : e < 32) : ((nI e).toBitVec.smod 32).toNat = e := by
  match e, he with
  | 0, _ | 1, _ | 2, _ | 3, _ | 4, _ | 5, _ | 6, _ | 7, _ | 8, _ | 9, _ | 10, _ | 11, _ | 12, _ | 13, _ | 14, _ | 15, _ | 16, _ | 17, _ | 18, _ | 19, _ | 20, _ | 21, _ | 22, _ | 23, _ | 24, _ | 25, _ | 26, _ | 27, _ | 28, _ | 29, _ | 30, _ | 31, _ => rfl
  | e + 32, he => exact absurd he (by omega)
theorem shl_nI {e : Nat} (he : e < 31) : nI 1 <<< (nI e &&& nI 31) = nI (2 ^ e) := by
  rw [show nI 31 = 31 from rfl, and31 (by omega), pk_shlN _ e (sh_k (by omega)) (by
    rw [Nat.one_mul]
    exact Nat.pow_lt_pow_right (by omega) (by omega)), Nat.one_mul]
theorem shr_nI {B e : Nat} (hB : B < 2147483648) (he : e < 31) : (nI B >>> (nI e &&& nI 31)) &&& nI 1 = nI (if B.testBit e = true then 1 else 0) := by
  rw [show nI 31 = 31 from rfl, and31 (by omega), pk_shrN (by omega) _ e (sh_k (by omega)), show nI 1 = 1 from rfl, pk_andN (by have : B / 2 ^ e ≤ B := Nat.div_le_self _ _; omega) 1 (by decide)]
  have : B / 2 ^ e % 2 ^ 1 = (B.testBit e).toNat := by rw [Nat.toNat_testBit]
  rw [this]
  cases B.testBit e <;> rfl
theorem isIn_t {B e : Nat} (hB : B < 2147483648) (he : e < 31) : M_isIn (nI B) (nI e) = if B.testBit e = true then nI 1 else nI 0 := by
  unfold M_isIn
  rw [show (31 : Int32) = nI 31 from rfl, n_1, shr_nI hB he]
  by_cases c : B.testBit e = true
  · try simp (disch := omega) only [↓m_1, n_0, n_1, n_2, n_3, n_4, n_5, n_6, n_7, n_8, n_9, n_10, n_16, n_20, n_24, n_31, n_32, n_48, n_52, n_57, n_59, n_60, n_64, n_100, n_1024, nI_add, pk_mul, pk_sub, leI_t, leI_f, ltI_t, ltI_f, eqI_t, eqI_f, geM_t, eqM_f, eqM_g, ltM_f, ltM_t, leM_f, inb_nI, ix_nI, chk_tt, bnd_ss, up_ne, up_self, up_oth, if_true, if_false, reduceCtorEq, Nat.succ_ne_zero, c]
  · rw [if_neg c, if_neg c]
    try simp (disch := omega) only [↓m_1, n_0, n_1, n_2, n_3, n_4, n_5, n_6, n_7, n_8, n_9, n_10, n_16, n_20, n_24, n_31, n_32, n_48, n_52, n_57, n_59, n_60, n_64, n_100, n_1024, nI_add, pk_mul, pk_sub, leI_t, leI_f, ltI_t, ltI_f, eqI_t, eqI_f, geM_t, eqM_f, eqM_g, ltM_f, ltM_t, leM_f, inb_nI, ix_nI, chk_tt, bnd_ss, up_ne, up_self, up_oth, if_true, if_false, reduceCtorEq, Nat.succ_ne_zero]
/-! ===== owner, price, holds ===== -/
theorem Oc29 {T : St} (h : OcOK T) {e : Nat} (he : e < 10) : T 29 e = ldX (tX T) (lX T) e := (h.2.2.1 e he).1
theorem ldX_c {S : St} (hn : nX S ≤ 100) (e : Nat) : (lX S e = 0 ∧ ldX (tX S) (lX S) e = mI) ∨ (lX S e ≠ 0 ∧ ∃ b, b < 5 ∧ bdk (tX S) (lX S e - 1) = b ∧ ldX (tX S) (lX S) e = nI b) := by
  unfold ldX
  by_cases c : lX S e = 0
  · exact Or.inl ⟨c, by rw [if_pos c]⟩
  · exact Or.inr ⟨c, _, (lX_bid S hn c).2.2.2.1, rfl, by rw [if_neg c]⟩
theorem op_owner {w : gw} {S : St} {i : Nat} (h : Inv w S i) (hi : i < 512) (a1 : Int32) : ∃ z1 z2, X_owner S a1 = some z1 ∧ M_owner z1.2 a1 = some z2 ∧ z1.1 = z2.1 ∧ Inv w z2.2 (i + 1) := by
  rcases sm_or a1 9 with h1 | h1
  · obtain ⟨T, U, hT, hU, hI, hI2, hO, hM⟩ := XMf h hi
    have gx : ¬ X_isEvening a1 = 0 := by rw [show X_isEvening a1 = 1 from xw_t h1 (by decide)]; exact n10
    have gm : ¬ M_isEvening a1 = 0 := by rw [show M_isEvening a1 = 1 from mi_t h1 (by decide)]; exact n10
    obtain ⟨e, he, rfl⟩ := h1
    refine ⟨(ldX (tX T) (lX T) e, T), (ldX (tX T) (lX T) e, U), ?_, ?_, rfl, hI2⟩
    · unfold X_owner
      rw [if_neg gx, hT, bnd_ss]
      try simp (disch := omega) only [↓m_1, n_0, n_1, n_2, n_3, n_4, n_5, n_6, n_7, n_8, n_9, n_10, n_16, n_20, n_24, n_31, n_32, n_48, n_52, n_57, n_59, n_60, n_64, n_100, n_1024, nI_add, pk_mul, pk_sub, leI_t, leI_f, ltI_t, ltI_f, eqI_t, eqI_f, geM_t, eqM_f, eqM_g, ltM_f, ltM_t, leM_f, inb_nI, ix_nI, chk_tt, bnd_ss, up_ne, up_self, up_oth, if_true, if_false, reduceCtorEq, Nat.succ_ne_zero, Oc29 hO (show e < 10 by omega)]
    · show M_owner T _ = _
      unfold M_owner
      rw [hU, bnd_ss, if_neg gm, ownerOf_t hM.2.2.1 (by omega), bnd_ss]
  · obtain ⟨U, hU, hI, -⟩ := MF h
    refine ⟨(-2, S), (-2, U), ?_, ?_, rfl, Inv_next hI⟩
    · unfold X_owner
      rw [if_pos (show X_isEvening a1 = 0 from xw_f h1 (by decide))]
    · show M_owner S _ = _
      unfold M_owner
      rw [hU, bnd_ss, if_pos (show M_isEvening a1 = 0 from mi_f h1 (by decide))]
theorem op_price {w : gw} {S : St} {i : Nat} (h : Inv w S i) (hi : i < 512) (a1 : Int32) : ∃ z1 z2, X_price S a1 = some z1 ∧ M_price z1.2 a1 = some z2 ∧ z1.1 = z2.1 ∧ Inv w z2.2 (i + 1) := by
  rcases sm_or a1 9 with h1 | h1
  · obtain ⟨T, U, hT, hU, hI, hI2, hO, hM⟩ := XMf h hi
    have gx : ¬ X_isEvening a1 = 0 := by rw [show X_isEvening a1 = 1 from xw_t h1 (by decide)]; exact n10
    have gm : ¬ M_isEvening a1 = 0 := by rw [show M_isEvening a1 = 1 from mi_t h1 (by decide)]; exact n10
    obtain ⟨e, he, rfl⟩ := h1
    refine ⟨(if lX T e = 0 then -3 else nI (prX T e), T), (if lX T e = 0 then -3 else nI (prX T e), U), ?_, ?_, rfl, hI2⟩
    · unfold X_price
      rw [if_neg gx, hT, bnd_ss, chk_t (inb_nI (by omega) (by decide)), ix_nI (by omega), Oc29 hO (show e < 10 by omega), ocPrice_t hI hO (show e < 10 by omega), bnd_ss]
      rcases ldX_c (Inv_tx hI).1 e with ⟨c, d⟩ | ⟨c, b, b1, -, d⟩
      · rw [d, if_pos (show mI = -1 from rfl), if_pos c]
      · rw [d, if_neg (by rw [m_1]; try simp (disch := omega) only [↓m_1, n_0, n_1, n_2, n_3, n_4, n_5, n_6, n_7, n_8, n_9, n_10, n_16, n_20, n_24, n_31, n_32, n_48, n_52, n_57, n_59, n_60, n_64, n_100, n_1024, nI_add, pk_mul, pk_sub, leI_t, leI_f, ltI_t, ltI_f, eqI_t, eqI_f, geM_t, eqM_f, eqM_g, ltM_f, ltM_t, leM_f, inb_nI, ix_nI, chk_tt, bnd_ss, up_ne, up_self, up_oth, if_true, if_false, reduceCtorEq, Nat.succ_ne_zero]; exact fun g => g), if_neg c]
    · show M_price T _ = _
      unfold M_price
      rw [hU, bnd_ss, if_neg gm, mPrice_t hI hM (by omega), bnd_ss]
  · obtain ⟨U, hU, hI, -⟩ := MF h
    refine ⟨(-2, S), (-2, U), ?_, ?_, rfl, Inv_next hI⟩
    · unfold X_price
      rw [if_pos (show X_isEvening a1 = 0 from xw_f h1 (by decide))]
    · show M_price S _ = _
      unfold M_price
      rw [hU, bnd_ss, if_pos (show M_isEvening a1 = 0 from mi_f h1 (by decide))]
/-- a number of a bid, or not -/
theorem bidNo {x : Int32} {N : Nat} (hN : N ≤ 20) : (X_within x 0 (nI N - 1) = (if ∃ k, k < N ∧ x = nI k then 1 else 0)) ∧ (M_in x.toInt64 0 ((nI N - 1).toInt64) = (if ∃ k, k < N ∧ x = nI k then 1 else 0)) := by
  by_cases hz : N = 0
  · subst hz
    rw [if_neg (fun ⟨k, hk, _⟩ => by omega)]
    constructor
    · unfold X_within
      by_cases c : x < 0
      · rw [if_pos c]
      · rw [if_neg c, if_pos]
        obtain ⟨j, hj, rfl⟩ := nI_of c
        rw [show nI 0 - 1 = mI from rfl]
        try simp (disch := omega) only [↓m_1, n_0, n_1, n_2, n_3, n_4, n_5, n_6, n_7, n_8, n_9, n_10, n_16, n_20, n_24, n_31, n_32, n_48, n_52, n_57, n_59, n_60, n_64, n_100, n_1024, nI_add, pk_mul, pk_sub, leI_t, leI_f, ltI_t, ltI_f, eqI_t, eqI_f, geM_t, eqM_f, eqM_g, ltM_f, ltM_t, leM_f, inb_nI, ix_nI, chk_tt, bnd_ss, up_ne, up_self, up_oth, if_true, if_false, reduceCtorEq, Nat.succ_ne_zero]
    · rw [mi_iff, if_neg]
      rintro ⟨g1, g2⟩
      rw [Int64.le_iff_toInt_le] at g1 g2
      have e1 : ((nI 0 - 1 : Int32).toInt64).toInt = -1 := by decide
      have e2 : (0 : Int64).toInt = 0 := rfl
      omega
  · obtain ⟨M, rfl⟩ : ∃ M, N = M + 1 := ⟨N - 1, by omega⟩
    have e : nI (M + 1) - 1 = nI M := by rw [n_1, pk_sub (by omega)]; rfl
    rw [e]
    by_cases c : sm x M
    · have c2 : ∃ k, k < M + 1 ∧ x = nI k := by
        obtain ⟨v, h1, h2⟩ := c
        exact ⟨v, by omega, h2⟩
      rw [if_pos c2]
      refine ⟨xw_t c (by omega), ?_⟩
      rw [nI_l (by omega)]
      exact mi_t c (by omega)
    · have c2 : ¬ ∃ k, k < M + 1 ∧ x = nI k := by
        rintro ⟨v, h1, h2⟩
        exact c ⟨v, by omega, h2⟩
      rw [if_neg c2]
      refine ⟨xw_f c (by omega), ?_⟩
      rw [nI_l (by omega)]
      exact mi_f c (by omega)
theorem op_holds {w : gw} {S : St} {i : Nat} (h : Inv w S i) (hi : i < 512) (a1 : Int32) : ∃ z1 z2, X_holds S a1 = some z1 ∧ M_holds z1.2 a1 = some z2 ∧ z1.1 = z2.1 ∧ Inv w z2.2 (i + 1) := by
  obtain ⟨T, U, hT, hU, hI, hI2, hO, hM⟩ := XMf h hi
  have hN : NX T ≤ 20 := nb_le (Inv_tx hI).1
  have h3 : T 25 3 = nI (NX T) := hO.2.1
  obtain ⟨b1, b2⟩ := bidNo (x := a1) hN
  by_cases c : ∃ k, k < NX T ∧ a1 = nI k
  · rw [if_pos c] at b1 b2
    obtain ⟨k, hk, rfl⟩ := c
    have h28 : T 28 k = if hld (tX T) (pX T) (rX T) (sX T) 1000 k = true then 1 else 0 := hO.2.2.2.2.1 k hk
    have h65 := hM.2.2.2.1 k hk
    refine ⟨(if hld (tX T) (pX T) (rX T) (sX T) 1000 k = true then 1 else 0, T), (if hld (tX T) (pX T) (rX T) (sX T) 1000 k = true then 1 else 0, U), ?_, ?_, rfl, hI2⟩
    · unfold X_holds
      rw [hT, bnd_ss, h3, b1, if_neg n10, chk_t (inb_nI (by omega) (by decide)), ix_nI (by omega), h28]
      by_cases d : hld (tX T) (pX T) (rX T) (sX T) 1000 k = true
      · rw [if_pos d, if_neg n10]
      · rw [if_neg d, if_pos rfl]
    · show M_holds T _ = _
      unfold M_holds
      rw [hU, bnd_ss, hM.2.1, b2, if_neg n10, chk_t (inb_nI (by omega) (by decide)), ix_nI (by omega), h65]
      by_cases d : hld (tX T) (pX T) (rX T) (sX T) 1000 k = true
      · rw [if_pos d, if_neg n10]
      · rw [if_neg d, if_pos rfl]
  · rw [if_neg c] at b1 b2
    refine ⟨(-2, T), (-2, U), ?_, ?_, rfl, hI2⟩
    · unfold X_holds
      rw [hT, bnd_ss, h3, b1, if_pos rfl]
    · show M_holds T _ = _
      unfold M_holds
      rw [hU, bnd_ss, hM.2.1, b2, if_pos rfl]
theorem XK_b_inv {w : gw} {S T : St} {tx pu rs : Nat → Nat} {st ex k i : Nat} (h : XK_b S tx pu rs st ex k T) (hI : Inv w S i) : Inv w T i := by
  refine Inv_msk (msk_eq (fun r hr h49 => ?_) (fun j _ _ _ => ?_)) hI
  · exact h.1 r (fun g => by rw [g] at hr; cases hr) (fun g => by rw [g] at hr; cases hr) (fun g => by rw [g] at hr; cases hr) (fun g => by rw [g] at hr; cases hr) (fun g => by rw [g] at hr; cases hr) (fun g => by rw [g] at hr; cases hr)
  · rw [h.1 49 (by decide) (by decide) (by decide) (by decide) (by decide) (by decide)]
/-- one bid left out: the leads -/
noncomputable def lW (S : St) (k : Nat) : Nat → Nat := jl (tX S) (pX S) (rX S) (sX S) k (NX S)
theorem XW {w : gw} {T : St} {i k e : Nat} (hI : Inv w T i) (hO : OcOK T) (hk : k < NX T) (he : e < 10) : ∃ V, OC_judge_b T (nI k) = some V ∧ V 35 e = ldX (tX T) (lW T k) e ∧ Inv w V i ∧ XKF_b T V := by
  obtain ⟨t1, t2, t3, t4, t5⟩ := Inv_tx hI
  obtain ⟨-, p2, -⟩ := Inv_pn hI
  have hN : NX T ≤ 20 := nb_le t1
  obtain ⟨V, hV, hK⟩ := judge_t_b (S := T) (tx := tX T) (pu := pX T) (rs := rX T) (st := sX T) (ex := k) t1 hO.2.1 t5 p2 (x1 := nI k) (fun j hj => nI_eq (by have : j < NX T := hj; omega) (by omega))
  exact ⟨V, hV, (hK.2.2.1 e he).1, XK_b_inv hK hI, hK.1⟩
/-- the reference, one bid left out; its bids have been read -/
theorem MW {w : gw} {T U : St} {i k e : Nat} (hI : Inv w T i) (hF : FrM T U) (h8 : U 49 8 = nI (NX T)) (he5 : ent (tX T) (U 55) (NX T)) (hk : k < NX T) (he : e < 10) : ∃ V, M_withoutOf U (nI k) (nI e) = some (ldX (tX T) (lW T k) e, V) ∧ FrM T V ∧ V 49 8 = nI (NX T) ∧ ent (tX T) (V 55) (NX T) := by
  obtain ⟨t1, t2, t3, t4, t5⟩ := Inv_tx hI
  obtain ⟨p1, -, -⟩ := Inv_pn hI
  have hN : NX T ≤ 20 := nb_le t1
  have hpU : PN U (pX T) (rX T) (sX T) := PN_of p1 (hF.1 56 (by decide) (by decide) (by decide) (by decide)) (hF.1 60 (by decide) (by decide) (by decide) (by decide)) (hF.1 62 (by decide) (by decide) (by decide) (by decide))
  obtain ⟨V, hV, ⟨l1, l2⟩, l3, l4, l5⟩ := looks_t (tx := tX T) (pu := pX T) (rs := rX T) (st := sX T) (ex := k) t1 he5 hpU h8 (x1 := nI k) (fun j hj => nI_eq (by have : j < NX T := hj; omega) (by omega))
  have e55 : ent (tX T) (V 55) (NX T) := by rw [l1 55 (by decide) (by decide) (by decide)]; exact he5
  have hJ : JM (tX T) (nX T) V (lW T k) := ⟨t1, e55, l3, fun e => (jl_rng _ _ _ _ _ _ e).1⟩
  unfold M_withoutOf
  rw [hV, bnd_ss, ownerOf_t hJ he, bnd_ss]
  exact ⟨V, rfl, ⟨fun r a b c d => by rw [l1 r a c d, hF.1 r a b c d], fun j a b c => by rw [l2 j c, hF.2 j a b c]⟩, by rw [l2 8 (by decide)]; exact h8, e55⟩
theorem op_without {w : gw} {S : St} {i : Nat} (h : Inv w S i) (hi : i < 512) (a1 : Int32) (a2 : Int32) : ∃ z1 z2, X_without S a1 a2 = some z1 ∧ M_without z1.2 a1 a2 = some z2 ∧ z1.1 = z2.1 ∧ Inv w z2.2 (i + 1) := by
  obtain ⟨T, hT, hI, hO, -⟩ := XJ h (by omega)
  have hN : NX T ≤ 20 := nb_le (Inv_tx hI).1
  have h3 : T 25 3 = nI (NX T) := hO.2.1
  obtain ⟨b1, b2⟩ := bidNo (x := a1) hN
  by_cases c : ∃ k, k < NX T ∧ a1 = nI k
  · rw [if_pos c] at b1 b2
    obtain ⟨k, hk, rfl⟩ := c
    rcases sm_or a2 9 with h1 | h1
    · have gx : ¬ X_isEvening a2 = 0 := by rw [show X_isEvening a2 = 1 from xw_t h1 (by decide)]; exact n10
      have gm : ¬ M_isEvening a2 = 0 := by rw [show M_isEvening a2 = 1 from mi_t h1 (by decide)]; exact n10
      obtain ⟨e, he, rfl⟩ := h1
      obtain ⟨V, hV, v1, v2, v3⟩ := XW hI hO hk (show e < 10 by omega)
      obtain ⟨z, hz, z1, z2, z3, z4⟩ := MR v2
      have et : tX V = tX T := by unfold tX; rw [v3 54 (by decide) (by decide) (by decide) (by decide) (by decide) (by decide)]
      have en : nX V = nX T := by unfold nX; rw [v3 49 (by decide) (by decide) (by decide) (by decide) (by decide) (by decide)]
      have ep : pX V = pX T := by unfold pX; rw [v3 56 (by decide) (by decide) (by decide) (by decide) (by decide) (by decide)]
      have er : rX V = rX T := by unfold rX; rw [v3 60 (by decide) (by decide) (by decide) (by decide) (by decide) (by decide)]
      have es : sX V = sX T := by unfold sX; rw [v3 62 (by decide) (by decide) (by decide) (by decide) (by decide) (by decide)]
      have eN : NX V = NX T := by unfold NX; rw [et, en]
      have el : lW V k = lW T k := by unfold lW; rw [et, ep, er, es, eN]
      have hF : FrM V z.2 := ⟨fun r a b _ _ => z2.1 r a b, fun j a b _ => z2.2 j a b⟩
      obtain ⟨W, hW, w1, w2, w3⟩ := MW v2 hF z3 z4 (k := k) (by rw [eN]; exact hk) (show e < 10 by omega)
      refine ⟨(ldX (tX T) (lW T k) e, V), (ldX (tX T) (lW T k) e, W), ?_, ?_, rfl, Inv_next (FrM_inv w1 v2)⟩
      · unfold X_without
        rw [hT, bnd_ss, h3, b1, if_neg n10, if_neg gx, hV, bnd_ss, chk_t (inb_nI (by omega) (by decide)), ix_nI (by omega), v1]
      · show M_without V _ _ = _
        unfold M_without
        rw [hz, bnd_ss, z3, eN, b2, if_neg n10, if_neg gm, hW, bnd_ss, et, el]
    · obtain ⟨z, hz, z1, z2, z3, z4⟩ := MR hI
      refine ⟨(-2, T), (-2, z.2), ?_, ?_, rfl, ?_⟩
      · unfold X_without
        rw [hT, bnd_ss, h3, b1, if_neg n10, if_pos (show X_isEvening a2 = 0 from xw_f h1 (by decide))]
      · show M_without T _ _ = _
        unfold M_without
        rw [hz, bnd_ss, z3, b2, if_neg n10, if_pos (show M_isEvening a2 = 0 from mi_f h1 (by decide))]
      · exact Inv_next (FrM_inv ⟨fun r a b _ _ => z2.1 r a b, fun j a b _ => z2.2 j a b⟩ hI)
  · rw [if_neg c] at b1 b2
    obtain ⟨z, hz, z1, z2, z3, z4⟩ := MR hI
    refine ⟨(-2, T), (-2, z.2), ?_, ?_, rfl, ?_⟩
    · unfold X_without
      rw [hT, bnd_ss, h3, b1, if_pos rfl]
    · show M_without T _ _ = _
      unfold M_without
      rw [hz, bnd_ss, z3, b2, if_pos rfl]
    · exact Inv_next (FrM_inv ⟨fun r a b _ _ => z2.1 r a b, fun j a b _ => z2.2 j a b⟩ hI)
