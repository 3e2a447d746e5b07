/-! ===== wet, harm, gain, swap, count, undo ===== -/
/-- the weather's numbers -/
noncomputable def rng (x : Int32) : Nat → Int32
  | 0 => x
  | j + 1 => 1103515245 * rng x j + 12345
noncomputable def rmd (x : Int32) : Int32 := (x.toUInt32 >>> ((16 : Int32).toUInt32 &&& Int32.toUInt32 31)).toInt32 - (x.toUInt32 >>> ((16 : Int32).toUInt32 &&& Int32.toUInt32 31)).toInt32 / 16 * 16
/-- refused in evening e -/
noncomputable def rfs (S : St) (x : Int32) (e : Nat) : Bool := decide (¬ S 61 e ≤ rmd (rng x (e + 1)))
noncomputable def rmk (S : St) (x : Int32) : Nat → Nat
  | 0 => 0
  | j + 1 => if rfs S x j = true then rmk S x j ||| 2 ^ j else rmk S x j
theorem rmk_bit (S : St) (x : Int32) : ∀ n e, (rmk S x n).testBit e = (decide (e < n) && rfs S x e) := by
  intro n
  induction n with
  | zero => intro e; show Nat.testBit 0 e = _; rw [Nat.zero_testBit]; simp
  | succ n ih =>
    intro e
    unfold rmk
    by_cases c : rfs S x n = true
    · rw [if_pos c, Nat.testBit_or, ih, Nat.testBit_two_pow]
      by_cases c2 : e = n
      · subst c2; simp [c]
      · by_cases c3 : e < n
        · simp [c3, show e < n + 1 by omega, show ¬ n = e by omega]
        · simp [c3, show ¬ e < n + 1 by omega, show ¬ n = e by omega]
    · rw [if_neg c, ih]
      by_cases c2 : e = n
      · subst c2; simp [c]
      · by_cases c3 : e < n
        · simp [c3, show e < n + 1 by omega]
        · simp [c3, show ¬ e < n + 1 by omega]
theorem rmk_lt (S : St) (x : Int32) : ∀ n, n ≤ 10 → rmk S x n < 1024 := by
  intro n
  induction n with
  | zero => intro _; show 0 < 1024; omega
  | succ n ih =>
    intro hn
    have := ih (by omega)
    unfold rmk
    split
    · exact Nat.or_lt_two_pow (n := 10) this (Nat.pow_lt_pow_right (by omega) (by omega))
    · exact this
theorem refusedBy_t {w : gw} {T U : St} {i : Nat} (hI : Inv w T i) (hM : MFs T U) (x : Int32) : M_refusedBy U x = some (nI (rmk T x 10)) := by
  unfold M_refusedBy
  have hl : lp (σ := Int32 × Int32 × Int32) (fun q => M_refusedBy_L7 U q.1 q.2.1 q.2.2) FZ (x, 0, 0) = some ((rng x 10, nI (rmk T x 10), nI 10), 1) := by
    refine lp_1 (fun j => (rng x j, nI (rmk T x j), nI j)) 10 rfl ?_ ?_ (by decide)
    · intro j hj
      dsimp only
      unfold M_refusedBy_L7
      rw [if_neg (by rw [n_10]; try simp (disch := omega) only [↓m_1, n_0, n_1, n_2, n_3, n_4, n_5, n_6, n_7, n_8, n_9, n_10, n_16, n_20, n_24, n_31, n_32, n_48, n_52, n_57, n_59, n_60, n_64, n_100, n_1024, nI_add, pk_mul, pk_sub, leI_t, leI_f, ltI_t, ltI_f, eqI_t, eqI_f, geM_t, eqM_f, eqM_g, ltM_f, ltM_t, leM_f, inb_nI, ix_nI, chk_tt, bnd_ss, up_ne, up_self, up_oth, if_true, if_false, reduceCtorEq, Nat.succ_ne_zero]; exact fun g => g), chk_t (inb_nI hj (by decide)), ix_nI (by omega), hM.1.1 61 (by decide) (by decide) (by decide) (by decide), nI_1]
      show (if T 61 j ≤ rmd (rng x (j + 1)) then _ else _) = some ((rng x (j + 1), nI (if rfs T x j = true then rmk T x j ||| 2 ^ j else rmk T x j), nI (j + 1)), 0)
      by_cases c : T 61 j ≤ rmd (rng x (j + 1))
      · have c2 : ¬ rfs T x j = true := fun g => of_decide_eq_true g c
        rw [if_pos c, if_neg c2, n_0, or_nI, Nat.or_zero]
        rfl
      · have c2 : rfs T x j = true := decide_eq_true c
        rw [if_neg c, if_pos c2, n_1, show (31 : Int32) = nI 31 from rfl, shl_nI (by omega), or_nI]
        rfl
    · dsimp only
      unfold M_refusedBy_L7
      rw [if_pos (by decide)]
  rw [hl, bnd_ss]
  rfl
theorem op_wet {w : gw} {S : St} {i : Nat} (h : Inv w S i) (hi : i < 512) (a1 : Int32) (a2 : Int32) : ∃ z1 z2, X_wet S a1 a2 = some z1 ∧ M_wet z1.2 a1 a2 = some z2 ∧ z1.1 = z2.1 ∧ Inv w z2.2 (i + 1) := by
  rcases sm_or a1 4 with h1 | h1
  · obtain ⟨T, U, hT, hU, hI, hI2, hO, hM⟩ := XMf h hi
    have gx : ¬ X_isBidder a1 = 0 := by rw [show X_isBidder a1 = 1 from xw_t h1 (by decide)]; exact n10
    have gm : ¬ M_isBidder a1 = 0 := by rw [show M_isBidder a1 = 1 from mi_t h1 (by decide)]; exact n10
    obtain ⟨b, hb, rfl⟩ := h1
    have hb5 : b < 5 := by omega
    have hmk := rmk_lt T a2 10 (Nat.le_refl _)
    refine ⟨(nI (smE (fun e => if (rmk T a2 10).testBit e = true then 0 else jyE T b e) 10), T), (nI (smE (fun e => if (rmk T a2 10).testBit e = true then 0 else jyE T b e) 10), U), ?_, ?_, rfl, hI2⟩
    · unfold X_wet
      rw [if_neg gx, hT, bnd_ss]
      have hl : lp (σ := Int32 × Int32 × Int32) (fun q => X_wet_L24 T (nI b) q.1 q.2.1 q.2.2) FZ (0, a2, 0) = some ((nI (smE (fun e => if (rmk T a2 10).testBit e = true then 0 else jyE T b e) 10), rng a2 10, nI 10), 1) := by
        refine lp_1 (fun j => (nI (smE (fun e => if (rmk T a2 10).testBit e = true then 0 else jyE T b e) j), rng a2 j, nI j)) 10 rfl ?_ ?_ (by decide)
        · intro j hj
          dsimp only
          unfold X_wet_L24 X_wet_J68
          rw [if_neg (by rw [n_10]; try simp (disch := omega) only [↓m_1, n_0, n_1, n_2, n_3, n_4, n_5, n_6, n_7, n_8, n_9, n_10, n_16, n_20, n_24, n_31, n_32, n_48, n_52, n_57, n_59, n_60, n_64, n_100, n_1024, nI_add, pk_mul, pk_sub, leI_t, leI_f, ltI_t, ltI_f, eqI_t, eqI_f, geM_t, eqM_f, eqM_g, ltM_f, ltM_t, leM_f, inb_nI, ix_nI, chk_tt, bnd_ss, up_ne, up_self, up_oth, if_true, if_false, reduceCtorEq, Nat.succ_ne_zero]; exact fun g => g), chk_t (inb_nI hj (by decide)), ix_nI (by omega), joyBy_t hI hO hb5 hj, bnd_ss, nI_1, show T 23 j = T 61 j from (Inv_cl hI hj).2.2.trans (Inv_cl hI hj).1.symm, chk_t (inb_nI hj (by decide)), if_pos rfl, if_neg n10]
          show (if T 61 j ≤ rmd (rng a2 (j + 1)) then _ else _) = some ((nI (smE (fun e => if (rmk T a2 10).testBit e = true then 0 else jyE T b e) j + (if (rmk T a2 10).testBit j = true then 0 else jyE T b j)), rng a2 (j + 1), nI (j + 1)), 0)
          rw [rmk_bit, decide_eq_true hj, Bool.true_and]
          by_cases c : T 61 j ≤ rmd (rng a2 (j + 1))
          · have c2 : ¬ rfs T a2 j = true := fun g => of_decide_eq_true g c
            rw [if_pos c, if_neg c2, nI_add]
            rfl
          · have c2 : rfs T a2 j = true := decide_eq_true c
            rw [if_neg c, if_pos c2]
            rfl
        · dsimp only
          unfold X_wet_L24
          rw [if_pos (by decide)]
      rw [hl, bnd_ss]
      rfl
    · show M_wet T _ _ = _
      unfold M_wet
      rw [hU, bnd_ss, if_neg gm, refusedBy_t hI hM, bnd_ss, happyOf_t hI hM hb5 (by omega), bnd_ss]
  · obtain ⟨U, hU, hI, -⟩ := MF h
    refine ⟨(-2, S), (-2, U), ?_, ?_, rfl, Inv_next hI⟩
    · unfold X_wet
      rw [if_pos (show X_isBidder a1 = 0 from xw_f h1 (by decide))]
    · show M_wet S _ _ = _
      unfold M_wet
      rw [hU, bnd_ss, if_pos (show M_isBidder a1 = 0 from mi_f h1 (by decide))]
/-- the joy of all in programme p -/
def jyA (S : St) (p : Nat) : Nat := smE (fun b => jR (S 59) b p) 5
theorem jyA_le {w : gw} {S : St} {i p : Nat} (hI : Inv w S i) (hp : p < 5) : jyA S p ≤ 45 := by
  have h0 := (Inv_jy hI (b := 0) (by omega) hp).2.1
  have h1 := (Inv_jy hI (b := 1) (by omega) hp).2.1
  have h2 := (Inv_jy hI (b := 2) (by omega) hp).2.1
  have h3 := (Inv_jy hI (b := 3) (by omega) hp).2.1
  have h4 := (Inv_jy hI (b := 4) (by omega) hp).2.1
  show 0 + jR (S 59) 0 p + jR (S 59) 1 p + jR (S 59) 2 p + jR (S 59) 3 p + jR (S 59) 4 p ≤ 45
  omega
theorem xJoyAll {w : gw} {T : St} {i p : Nat} (hI : Inv w T i) (hp : p < 5) : TW_joyOfAll T (nI p) = some (nI (jyA T p)) := by
  unfold TW_joyOfAll
  have hl : lp (σ := Int32 × Int32) (fun q => TW_joyOfAll_L4 T (nI p) q.1 q.2) FZ (0, 0) = some ((nI (smE (fun b => jR (T 59) b p) 5), nI 5), 1) := by
    refine lp_1 (fun j => (nI (smE (fun b => jR (T 59) b p) j), nI j)) 5 rfl ?_ ?_ (by decide)
    · intro j hj
      dsimp only
      unfold TW_joyOfAll_L4
      rw [if_neg (by rw [n_5]; try simp (disch := omega) only [↓m_1, n_0, n_1, n_2, n_3, n_4, n_5, n_6, n_7, n_8, n_9, n_10, n_16, n_20, n_24, n_31, n_32, n_48, n_52, n_57, n_59, n_60, n_64, n_100, n_1024, nI_add, pk_mul, pk_sub, leI_t, leI_f, ltI_t, ltI_f, eqI_t, eqI_f, geM_t, eqM_f, eqM_g, ltM_f, ltM_t, leM_f, inb_nI, ix_nI, chk_tt, bnd_ss, up_ne, up_self, up_oth, if_true, if_false, reduceCtorEq, Nat.succ_ne_zero]; exact fun g => g), chk_t (inb_nI hj (by decide)), chk_t (inb_nI hp (by decide)), ix_nI (by omega), ix_nI (by omega), (Inv_jy hI hj hp).2.2, nI_add, nI_1]
      rfl
    · dsimp only
      unfold TW_joyOfAll_L4
      rw [if_pos (by decide)]
  rw [hl, bnd_ss]
  rfl
theorem mJoyAll {w : gw} {T U : St} {i p : Nat} (hI : Inv w T i) (hF : FrM T U) (hp : p < 5) : M_joyOfAll U (nI p) = some (nI (jyA T p)) := by
  unfold M_joyOfAll
  have hl : lp (σ := Int32 × Int32) (fun q => M_joyOfAll_L4 U (nI p) q.1 q.2) FZ (0, 0) = some ((nI (smE (fun b => jR (T 59) b p) 5), nI 5), 1) := by
    refine lp_1 (fun j => (nI (smE (fun b => jR (T 59) b p) j), nI j)) 5 rfl ?_ ?_ (by decide)
    · intro j hj
      dsimp only
      unfold M_joyOfAll_L4
      rw [hF.1 59 (by decide) (by decide) (by decide) (by decide)]
      try simp (disch := omega) only [↓m_1, n_0, n_1, n_2, n_3, n_4, n_5, n_6, n_7, n_8, n_9, n_10, n_16, n_20, n_24, n_31, n_32, n_48, n_52, n_57, n_59, n_60, n_64, n_100, n_1024, nI_add, pk_mul, pk_sub, leI_t, leI_f, ltI_t, ltI_f, eqI_t, eqI_f, geM_t, eqM_f, eqM_g, ltM_f, ltM_t, leM_f, inb_nI, ix_nI, chk_tt, bnd_ss, up_ne, up_self, up_oth, if_true, if_false, reduceCtorEq, Nat.succ_ne_zero, (Inv_jy hI hj hp).1]
      rfl
    · dsimp only
      unfold M_joyOfAll_L4
      rw [if_pos (by decide)]
  rw [hl, bnd_ss]
  rfl
noncomputable def hrX (S : St) (e : Nat) : Int32 := if lX S e = 0 then -3 else nI (mxE (jyA S) 5 0) - nI (jyA S (nR (S 57) (bdk (tX S) (lX S e - 1))))
theorem mxE_le {f : Nat → Nat} {m a : Nat} (ha : a ≤ m) : ∀ n, (∀ e, e < n → f e ≤ m) → mxE f n a ≤ m := by
  intro n
  induction n with
  | zero => intro _; exact ha
  | succ n ih =>
    intro h
    unfold mxE
    exact Nat.max_le.mpr ⟨ih (fun e he => h e (by omega)), h n (by omega)⟩
theorem harmOf_t {w : gw} {T U : St} {i e : Nat} (hI : Inv w T i) (hM : MFs T U) (he : e < 10) : M_harmOf U (nI e) = some (hrX T e) := by
  have hn := (Inv_tx hI).1
  unfold M_harmOf hrX
  rw [chk_t (inb_nI he (by decide)), ix_nI (by omega), hM.2.2.1.2.2.1 e he]
  unfold ldM
  rcases ldX_c hn e with ⟨c, d⟩ | ⟨c, q, q1, q2, d⟩
  · rw [if_pos c, if_pos (show mI = -1 from rfl), if_pos c]
  · have hl1 := (lX_bid T hn c).1
    have hq := Inv_pg hI q1
    rw [if_neg c, if_neg (by rw [m_1]; try simp (disch := omega) only [↓m_1, n_0, n_1, n_2, n_3, n_4, n_5, n_6, n_7, n_8, n_9, n_10, n_16, n_20, n_24, n_31, n_32, n_48, n_52, n_57, n_59, n_60, n_64, n_100, n_1024, nI_add, pk_mul, pk_sub, leI_t, leI_f, ltI_t, ltI_f, eqI_t, eqI_f, geM_t, eqM_f, eqM_g, ltM_f, ltM_t, leM_f, inb_nI, ix_nI, chk_tt, bnd_ss, up_ne, up_self, up_oth, if_true, if_false, reduceCtorEq, Nat.succ_ne_zero]; exact fun g => g), if_neg c, q2]
    have hl : lp (σ := Int32 × Int32) (fun q => M_harmOf_L17 U (nI e) q.1 q.2) FZ (0, 0) = some ((nI (mxE (jyA T) 5 0), nI 5), 1) := by
      refine lp_1 (fun j => (nI (mxE (jyA T) j 0), nI j)) 5 rfl ?_ ?_ (by decide)
      · intro j hj
        dsimp only
        have l1 := jyA_le hI hj
        have l2 := mxE_le (f := jyA T) (m := 45) (a := 0) (by omega) j (fun e he => jyA_le hI (by omega))
        unfold M_harmOf_L17
        rw [if_neg (by rw [n_5]; try simp (disch := omega) only [↓m_1, n_0, n_1, n_2, n_3, n_4, n_5, n_6, n_7, n_8, n_9, n_10, n_16, n_20, n_24, n_31, n_32, n_48, n_52, n_57, n_59, n_60, n_64, n_100, n_1024, nI_add, pk_mul, pk_sub, leI_t, leI_f, ltI_t, ltI_f, eqI_t, eqI_f, geM_t, eqM_f, eqM_g, ltM_f, ltM_t, leM_f, inb_nI, ix_nI, chk_tt, bnd_ss, up_ne, up_self, up_oth, if_true, if_false, reduceCtorEq, Nat.succ_ne_zero]; exact fun g => g), mJoyAll hI hM.1 hj, bnd_ss, bnd_ss, nI_1]
        show _ = some ((nI (max (mxE (jyA T) j 0) (jyA T j)), nI (j + 1)), 0)
        by_cases c : jyA T j ≤ mxE (jyA T) j 0
        · rw [if_pos ((nI_leI (by omega) (by omega)).mpr c), Nat.max_eq_left c]
        · rw [if_neg (fun g => c ((nI_leI (by omega) (by omega)).mp g)), Nat.max_eq_right (by omega)]
      · dsimp only
        unfold M_harmOf_L17
        rw [if_pos (by decide)]
    rw [hl, bnd_ss]
    dsimp only
    unfold M_harmOf_J47
    rw [ownerOf_t hM.2.2.1 he, bnd_ss, d, chk_t (inb_nI q1 (by decide)), ix_nI (by omega), hM.1.1 57 (by decide) (by decide) (by decide) (by decide), hq.1, mJoyAll hI hM.1 (by omega), bnd_ss]
theorem op_harm {w : gw} {S : St} {i : Nat} (h : Inv w S i) (hi : i < 512) (a1 : Int32) : ∃ z1 z2, X_harm S a1 = some z1 ∧ M_harm z1.2 a1 = some z2 ∧ z1.1 = z2.1 ∧ Inv w z2.2 (i + 1) := by
  rcases sm_or a1 9 with h1 | h1
  · obtain ⟨T, U, hT, hU, hI, hI2, hO, hM⟩ := XMf h hi
    have gx : ¬ X_isEvening a1 = 0 := by rw [show X_isEvening a1 = 1 from xw_t h1 (by decide)]; exact n10
    have gm : ¬ M_isEvening a1 = 0 := by rw [show M_isEvening a1 = 1 from mi_t h1 (by decide)]; exact n10
    obtain ⟨e, he, rfl⟩ := h1
    have he10 : e < 10 := by omega
    have hn := (Inv_tx hI).1
    refine ⟨(hrX T e, T), (hrX T e, U), ?_, ?_, rfl, hI2⟩
    · unfold X_harm
      rw [if_neg gx, hT, bnd_ss, chk_t (inb_nI he10 (by decide)), ix_nI (by omega), Oc29 hO he10]
      unfold hrX
      rcases ldX_c hn e with ⟨c, d⟩ | ⟨c, q, q1, q2, d⟩
      · rw [d, if_pos (show X_isBidder mI = 0 by decide), if_pos c]
      · have hq := Inv_pg hI q1
        rw [d, if_neg (by rw [show X_isBidder (nI q) = 1 from xw_t (show sm (nI q) 4 from ⟨q, by omega, rfl⟩) (by decide)]; exact n10), if_neg c, q2]
        have hl : lp (σ := Int32 × Int32) (fun z => X_harm_L35 T (nI q) z.1 z.2) FZ (0, 0) = some ((nI (mxE (jyA T) 5 0), nI 5), 1) := by
          refine lp_1 (fun j => (nI (mxE (jyA T) j 0), nI j)) 5 rfl ?_ ?_ (by decide)
          · intro j hj
            dsimp only
            have l1 := jyA_le hI hj
            have l2 := mxE_le (f := jyA T) (m := 45) (a := 0) (by omega) j (fun e he => jyA_le hI (by omega))
            unfold X_harm_L35
            rw [if_neg (by rw [n_5]; try simp (disch := omega) only [↓m_1, n_0, n_1, n_2, n_3, n_4, n_5, n_6, n_7, n_8, n_9, n_10, n_16, n_20, n_24, n_31, n_32, n_48, n_52, n_57, n_59, n_60, n_64, n_100, n_1024, nI_add, pk_mul, pk_sub, leI_t, leI_f, ltI_t, ltI_f, eqI_t, eqI_f, geM_t, eqM_f, eqM_g, ltM_f, ltM_t, leM_f, inb_nI, ix_nI, chk_tt, bnd_ss, up_ne, up_self, up_oth, if_true, if_false, reduceCtorEq, Nat.succ_ne_zero]; exact fun g => g), xJoyAll hI hj, bnd_ss, nI_1, mx_nI (by omega) (by omega)]
            rfl
          · dsimp only
            unfold X_harm_L35
            rw [if_pos (by decide)]
        rw [hl, bnd_ss]
        dsimp only
        unfold X_harm_J61
        rw [chk_t (inb_nI q1 (by decide)), ix_nI (by omega), hq.2.2, xJoyAll hI (by omega), bnd_ss]
    · show M_harm T _ = _
      unfold M_harm
      rw [hU, bnd_ss, if_neg gm, harmOf_t hI hM he10, bnd_ss]
  · obtain ⟨U, hU, hI, -⟩ := MF h
    refine ⟨(-2, S), (-2, U), ?_, ?_, rfl, Inv_next hI⟩
    · unfold X_harm
      rw [if_pos (show X_isEvening a1 = 0 from xw_f h1 (by decide))]
    · show M_harm S _ = _
      unfold M_harm
      rw [hU, bnd_ss, if_pos (show M_isEvening a1 = 0 from mi_f h1 (by decide))]
/-- what b has of its evenings' values -/
noncomputable def vsum (S : St) (b : Nat) : Nat → Nat
  | 0 => 0
  | m + 1 => vsum S b m + (if lX S m ≠ 0 ∧ bdk (tX S) (lX S m - 1) = b then vR (S 58) b m else 0)
theorem gainOf_t {w : gw} {T U : St} {i b : Nat} (hI : Inv w T i) (hM : MFs T U) (hb : b < 5) : M_gainOf U (nI b) = some (nI (vsum T b 10) - nI (psum T b 10)) := by
  have hn := (Inv_tx hI).1
  unfold M_gainOf
  have hl : lp (σ := Int32 × Int32) (fun q => M_gainOf_L4 U (nI b) q.1 q.2) FZ (0, 0) = some ((nI (vsum T b 10) - nI (psum T b 10), nI 10), 1) := by
    refine lp_1 (fun j => (nI (vsum T b j) - nI (psum T b j), nI j)) 10 (by show (0, 0) = (nI 0 - nI 0, nI 0); rw [pk_sub (Nat.le_refl 0)]; rfl) ?_ ?_ (by decide)
    · intro j hj
      dsimp only
      have hv := Inv_vl hI hb hj
      unfold M_gainOf_L4
      rw [if_neg (by rw [n_10]; try simp (disch := omega) only [↓m_1, n_0, n_1, n_2, n_3, n_4, n_5, n_6, n_7, n_8, n_9, n_10, n_16, n_20, n_24, n_31, n_32, n_48, n_52, n_57, n_59, n_60, n_64, n_100, n_1024, nI_add, pk_mul, pk_sub, leI_t, leI_f, ltI_t, ltI_f, eqI_t, eqI_f, geM_t, eqM_f, eqM_g, ltM_f, ltM_t, leM_f, inb_nI, ix_nI, chk_tt, bnd_ss, up_ne, up_self, up_oth, if_true, if_false, reduceCtorEq, Nat.succ_ne_zero]; exact fun g => g), ownerOf_t hM.2.2.1 hj, bnd_ss, mPrice_t hI hM hj, bnd_ss, hM.1.1 58 (by decide) (by decide) (by decide) (by decide), nI_1]
      show _ = some ((nI (vsum T b j + (if lX T j ≠ 0 ∧ bdk (tX T) (lX T j - 1) = b then vR (T 58) b j else 0)) - nI (psum T b j + (if lX T j ≠ 0 ∧ bdk (tX T) (lX T j - 1) = b then prX T j else 0)), nI (j + 1)), 0)
      by_cases c : lX T j ≠ 0 ∧ bdk (tX T) (lX T j - 1) = b
      · rw [if_pos ((owB_b hn hb).mpr c), if_pos c, if_pos c, if_neg c.1, show (10 : Int32) * nI b + nI j = nI (10 * b + j) by rw [n_10, pk_mul, nI_add], chk_t (inb_nI (by omega) (by decide)), ix_nI (by omega), hv.1, ← nI_add (vsum T b j), ← nI_add (psum T b j)]
        have e : ∀ a b c d : Int32, a - b + (c - d) = a + c - (b + d) := fun a b c d => by grind
        rw [e]
      · rw [if_neg (fun g => c ((owB_b hn hb).mp g)), if_neg c, if_neg c, Int32.add_zero]
        rfl
    · dsimp only
      unfold M_gainOf_L4
      rw [if_pos (by decide)]
  rw [hl, bnd_ss]
  rfl
theorem op_gain {w : gw} {S : St} {i : Nat} (h : Inv w S i) (hi : i < 512) (a1 : Int32) : ∃ z1 z2, X_gain S a1 = some z1 ∧ M_gain z1.2 a1 = some z2 ∧ z1.1 = z2.1 ∧ Inv w z2.2 (i + 1) := by
  rcases sm_or a1 4 with h1 | h1
  · obtain ⟨T, U, hT, hU, hI, hI2, hO, hM⟩ := XMf h hi
    have gx : ¬ X_isBidder a1 = 0 := by rw [show X_isBidder a1 = 1 from xw_t h1 (by decide)]; exact n10
    have gm : ¬ M_isBidder a1 = 0 := by rw [show M_isBidder a1 = 1 from mi_t h1 (by decide)]; exact n10
    obtain ⟨b, hb, rfl⟩ := h1
    have hb5 : b < 5 := by omega
    have hn := (Inv_tx hI).1
    refine ⟨(nI (vsum T b 10) - nI (psum T b 10), T), (nI (vsum T b 10) - nI (psum T b 10), U), ?_, ?_, rfl, hI2⟩
    · unfold X_gain
      rw [if_neg gx, hT, bnd_ss]
      have hl : lp (σ := Int32 × Int32) (fun q => X_gain_L21 T (nI b) q.1 q.2) FZ (0, 0) = some ((nI (vsum T b 10), nI 10), 1) := by
        refine lp_1 (fun j => (nI (vsum T b j), nI j)) 10 rfl ?_ ?_ (by decide)
        · intro j hj
          dsimp only
          have hv := Inv_vl hI hb5 hj
          unfold X_gain_L21
          rw [if_neg (by rw [n_10]; try simp (disch := omega) only [↓m_1, n_0, n_1, n_2, n_3, n_4, n_5, n_6, n_7, n_8, n_9, n_10, n_16, n_20, n_24, n_31, n_32, n_48, n_52, n_57, n_59, n_60, n_64, n_100, n_1024, nI_add, pk_mul, pk_sub, leI_t, leI_f, ltI_t, ltI_f, eqI_t, eqI_f, geM_t, eqM_f, eqM_g, ltM_f, ltM_t, leM_f, inb_nI, ix_nI, chk_tt, bnd_ss, up_ne, up_self, up_oth, if_true, if_false, reduceCtorEq, Nat.succ_ne_zero]; exact fun g => g), chk_t (inb_nI hj (by decide)), ix_nI (by omega), Oc29 hO hj, chk_t (inb_nI hb5 (by decide)), chk_t (inb_nI hj (by decide)), ix_nI (by omega), hv.2.2, nI_1, nI_add]
          show _ = some ((nI (vsum T b j + (if lX T j ≠ 0 ∧ bdk (tX T) (lX T j - 1) = b then vR (T 58) b j else 0)), nI (j + 1)), 0)
          by_cases c : lX T j ≠ 0 ∧ bdk (tX T) (lX T j - 1) = b
          · rw [if_pos ((owB_b hn hb5).mpr c), if_pos c]
          · rw [if_neg (fun g => c ((owB_b hn hb5).mp g)), if_neg c]
            rfl
        · dsimp only
          unfold X_gain_L21
          rw [if_pos (by decide)]
      rw [hl, bnd_ss]
      dsimp only
      unfold X_gain_J60
      rw [pricesOf_t hI hO hb5, bnd_ss]
    · show M_gain T _ = _
      unfold M_gain
      rw [hU, bnd_ss, if_neg gm, gainOf_t hI hM hb5, bnd_ss]
  · obtain ⟨U, hU, hI, -⟩ := MF h
    refine ⟨(-10002, S), (-10002, U), ?_, ?_, rfl, Inv_next hI⟩
    · unfold X_gain
      rw [if_pos (show X_isBidder a1 = 0 from xw_f h1 (by decide))]
    · show M_gain S _ = _
      unfold M_gain
      rw [hU, bnd_ss, if_pos (show M_isBidder a1 = 0 from mi_f h1 (by decide))]
