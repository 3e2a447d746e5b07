/-! ===== what the class answers, said alone; what all answers rest on ===== -/
theorem xOwner {w : gw} {S T : St} {i e : Nat} (hT : X_judgedOutcome S = some T) (hO : OcOK T) (he : e < 10) : X_owner S (nI e) = some (ldX (tX T) (lX T) e, T) := by
  unfold X_owner
  rw [if_neg (isE_t he), hT, bnd_ss, chk_t (inb_nI he (by decide)), ix_nI (by omega), Oc29 hO he]
noncomputable def pcX (S : St) (e : Nat) : Int32 := if lX S e = 0 then -3 else nI (prX S e)
theorem xPrice {w : gw} {S T : St} {i e : Nat} (hT : X_judgedOutcome S = some T) (hI : Inv w T i) (hO : OcOK T) (he : e < 10) : X_price S (nI e) = some (pcX T e, T) := by
  unfold X_price pcX
  rw [if_neg (isE_t he), hT, bnd_ss, chk_t (inb_nI (by omega) (by decide)), ix_nI (by omega), Oc29 hO he, ocPrice_t hI hO he, bnd_ss]
  rcases ldX_c (Inv_tx hI).1 e with ⟨c, d⟩ | ⟨c, b, b1, -, d⟩
  · rw [d, if_pos (show mI = -1 from rfl), if_pos c]
  · rw [d, if_neg (by rw [m_1]; try simp (disch := omega) only [↓m_1, n_0, n_1, n_2, n_3, n_4, n_5, n_6, n_7, n_8, n_9, n_10, n_16, n_20, n_24, n_31, n_32, n_48, n_52, n_57, n_59, n_60, n_64, n_100, n_1024, nI_add, pk_mul, pk_sub, leI_t, leI_f, ltI_t, ltI_f, eqI_t, eqI_f, geM_t, eqM_f, eqM_g, ltM_f, ltM_t, leM_f, inb_nI, ix_nI, chk_tt, bnd_ss, up_ne, up_self, up_oth, if_true, if_false, reduceCtorEq, Nat.succ_ne_zero]; exact fun g => g), if_neg c]
theorem xHarm {w : gw} {S T : St} {i e : Nat} (hT : X_judgedOutcome S = some T) (hI : Inv w T i) (hO : OcOK T) (he10 : e < 10) : X_harm S (nI e) = some (hrX T e, T) := by
  have hn := (Inv_tx hI).1
  unfold X_harm
  rw [if_neg (isE_t he10), hT, bnd_ss, chk_t (inb_nI he10 (by decide)), ix_nI (by omega), Oc29 hO he10]
  unfold hrX
  rcases ldX_c hn e with ⟨c, d⟩ | ⟨c, q, q1, q2, d⟩
  · rw [d, if_pos (show X_isBidder mI = 0 by decide), if_pos c]
  · have hq := Inv_pg hI q1
    rw [d, if_neg (isB_t q1), if_neg c, q2]
    have hl : lp (σ := Int32 × Int32) (fun z => X_harm_L35 T (nI q) z.1 z.2) FZ (0, 0) = some ((nI (mxE (jyA T) 5 0), nI 5), 1) := by
      refine lp_1 (fun j => (nI (mxE (jyA T) j 0), nI j)) 5 rfl ?_ ?_ (by decide)
      · intro j hj
        try dsimp only
        have l1 := jyA_le hI hj
        have l2 := mxE_le (f := jyA T) (m := 45) (a := 0) (by omega) j (fun e he => jyA_le hI (by omega))
        unfold X_harm_L35
        rw [if_neg (by rw [n_5]; try simp (disch := omega) only [↓m_1, n_0, n_1, n_2, n_3, n_4, n_5, n_6, n_7, n_8, n_9, n_10, n_16, n_20, n_24, n_31, n_32, n_48, n_52, n_57, n_59, n_60, n_64, n_100, n_1024, nI_add, pk_mul, pk_sub, leI_t, leI_f, ltI_t, ltI_f, eqI_t, eqI_f, geM_t, eqM_f, eqM_g, ltM_f, ltM_t, leM_f, inb_nI, ix_nI, chk_tt, bnd_ss, up_ne, up_self, up_oth, if_true, if_false, reduceCtorEq, Nat.succ_ne_zero]; exact fun g => g), xJoyAll hI hj, bnd_ss, nI_1, mx_nI (by omega) (by omega)]
        rfl
      · try dsimp only
        unfold X_harm_L35
        rw [if_pos (by decide)]
    rw [hl, bnd_ss]
    try dsimp only
    unfold X_harm_J61
    rw [chk_t (inb_nI q1 (by decide)), ix_nI (by omega), hq.2.2, xJoyAll hI (by omega), bnd_ss]
noncomputable def hsX (S : St) (b : Nat) (x : Int32) : Int32 := if x = 0 then emk S b 10 else if x = 1 then nI (bsum (tX S) (lX S) b 10) else S 56 b - nI (psum S b 10)
theorem xHas {w : gw} {S T : St} {i b : Nat} {x : Int32} (hT : X_judgedOutcome S = some T) (hI : Inv w T i) (hO : OcOK T) (hb5 : b < 5) (h3 : sm x 2) : X_has S (nI b) x = some (hsX T b x, T) := by
  have h32 : T 32 b = nI (bsum (tX T) (lX T) b 10) := hO.2.2.2.1 b hb5
  have h2 : T 2 b = T 56 b := hI.2.1.1 b hb5 |>.1
  unfold X_has hsX
  rw [if_neg (isB_t hb5), hT, bnd_ss, evOf_t hI hO hb5, bnd_ss, pricesOf_t hI hO hb5, bnd_ss, chk_t (inb_nI hb5 (by decide)), chk_t (inb_nI hb5 (by decide)), ix_nI (by omega), h32, h2]
  rcases sm_2.mp h3 with rfl | rfl | rfl <;> rfl
noncomputable def hpX (S : St) (b : Nat) : Int32 := nI (smE (jyE S b) 10)
theorem xHappy {w : gw} {S T : St} {i b : Nat} (hT : X_judgedOutcome S = some T) (hI : Inv w T i) (hO : OcOK T) (hb5 : b < 5) : X_happy S (nI b) = some (hpX T b, T) := by
  unfold X_happy hpX
  rw [if_neg (isB_t hb5), hT, bnd_ss]
  have hl : lp (σ := Int32 × Int32) (fun q => X_happy_L20 T (nI b) q.1 q.2) FZ (0, 0) = some ((nI (smE (jyE T b) 10), nI 10), 1) := by
    refine lp_1 (fun j => (nI (smE (jyE T b) j), nI j)) 10 rfl ?_ ?_ (by decide)
    · intro j hj
      try dsimp only
      unfold X_happy_L20
      rw [if_neg (by rw [n_10]; try simp (disch := omega) only [↓m_1, n_0, n_1, n_2, n_3, n_4, n_5, n_6, n_7, n_8, n_9, n_10, n_16, n_20, n_24, n_31, n_32, n_48, n_52, n_57, n_59, n_60, n_64, n_100, n_1024, nI_add, pk_mul, pk_sub, leI_t, leI_f, ltI_t, ltI_f, eqI_t, eqI_f, geM_t, eqM_f, eqM_g, ltM_f, ltM_t, leM_f, inb_nI, ix_nI, chk_tt, bnd_ss, up_ne, up_self, up_oth, if_true, if_false, reduceCtorEq, Nat.succ_ne_zero]; exact fun g => g), chk_t (inb_nI hj (by decide)), ix_nI (by omega), joyBy_t hI hO hb5 hj, bnd_ss, nI_1, nI_add]
      rfl
    · try dsimp only
      unfold X_happy_L20
      rw [if_pos (by decide)]
  rw [hl, bnd_ss]
  rfl
noncomputable def wtX (S : St) (b : Nat) (x : Int32) : Int32 := nI (smE (fun e => if (rmk S x 10).testBit e = true then 0 else jyE S b e) 10)
theorem xWet {w : gw} {S T : St} {i b : Nat} {a2 : Int32} (hT : X_judgedOutcome S = some T) (hI : Inv w T i) (hO : OcOK T) (hb5 : b < 5) : X_wet S (nI b) a2 = some (wtX T b a2, T) := by
  unfold X_wet wtX
  rw [if_neg (isB_t hb5), hT, bnd_ss]
  have hl : lp (σ := Int32 × Int32 × Int32) (fun q => X_wet_L24 T (nI b) q.1 q.2.1 q.2.2) FZ (0, a2, 0) = some ((nI (smE (fun e => if (rmk T a2 10).testBit e = true then 0 else jyE T b e) 10), rng a2 10, nI 10), 1) := by
    refine lp_1 (fun j => (nI (smE (fun e => if (rmk T a2 10).testBit e = true then 0 else jyE T b e) j), rng a2 j, nI j)) 10 rfl ?_ ?_ (by decide)
    · intro j hj
      try dsimp only
      unfold X_wet_L24 X_wet_J68
      rw [if_neg (by rw [n_10]; try simp (disch := omega) only [↓m_1, n_0, n_1, n_2, n_3, n_4, n_5, n_6, n_7, n_8, n_9, n_10, n_16, n_20, n_24, n_31, n_32, n_48, n_52, n_57, n_59, n_60, n_64, n_100, n_1024, nI_add, pk_mul, pk_sub, leI_t, leI_f, ltI_t, ltI_f, eqI_t, eqI_f, geM_t, eqM_f, eqM_g, ltM_f, ltM_t, leM_f, inb_nI, ix_nI, chk_tt, bnd_ss, up_ne, up_self, up_oth, if_true, if_false, reduceCtorEq, Nat.succ_ne_zero]; exact fun g => g), chk_t (inb_nI hj (by decide)), ix_nI (by omega), joyBy_t hI hO hb5 hj, bnd_ss, nI_1, show T 23 j = T 61 j from (Inv_cl hI hj).2.2.trans (Inv_cl hI hj).1.symm, chk_t (inb_nI hj (by decide)), if_pos rfl, if_neg n10]
      show (if T 61 j ≤ rmd (rng a2 (j + 1)) then _ else _) = some ((nI (smE (fun e => if (rmk T a2 10).testBit e = true then 0 else jyE T b e) j + (if (rmk T a2 10).testBit j = true then 0 else jyE T b j)), rng a2 (j + 1), nI (j + 1)), 0)
      rw [rmk_bit, decide_eq_true hj, Bool.true_and]
      by_cases c : T 61 j ≤ rmd (rng a2 (j + 1))
      · have c2 : ¬ rfs T a2 j = true := fun g => of_decide_eq_true g c
        rw [if_pos c, if_neg c2, nI_add]
        rfl
      · have c2 : rfs T a2 j = true := decide_eq_true c
        rw [if_neg c, if_pos c2]
        rfl
    · try dsimp only
      unfold X_wet_L24
      rw [if_pos (by decide)]
  rw [hl, bnd_ss]
  rfl
noncomputable def gnX (S : St) (b : Nat) : Int32 := nI (vsum S b 10) - nI (psum S b 10)
theorem xGain {w : gw} {S T : St} {i b : Nat} (hT : X_judgedOutcome S = some T) (hI : Inv w T i) (hO : OcOK T) (hb5 : b < 5) : X_gain S (nI b) = some (gnX T b, T) := by
  have hn := (Inv_tx hI).1
  unfold X_gain gnX
  rw [if_neg (isB_t hb5), hT, bnd_ss]
  have hl : lp (σ := Int32 × Int32) (fun q => X_gain_L21 T (nI b) q.1 q.2) FZ (0, 0) = some ((nI (vsum T b 10), nI 10), 1) := by
    refine lp_1 (fun j => (nI (vsum T b j), nI j)) 10 rfl ?_ ?_ (by decide)
    · intro j hj
      try dsimp only
      have hv := Inv_vl hI hb5 hj
      unfold X_gain_L21
      rw [if_neg (by rw [n_10]; try simp (disch := omega) only [↓m_1, n_0, n_1, n_2, n_3, n_4, n_5, n_6, n_7, n_8, n_9, n_10, n_16, n_20, n_24, n_31, n_32, n_48, n_52, n_57, n_59, n_60, n_64, n_100, n_1024, nI_add, pk_mul, pk_sub, leI_t, leI_f, ltI_t, ltI_f, eqI_t, eqI_f, geM_t, eqM_f, eqM_g, ltM_f, ltM_t, leM_f, inb_nI, ix_nI, chk_tt, bnd_ss, up_ne, up_self, up_oth, if_true, if_false, reduceCtorEq, Nat.succ_ne_zero]; exact fun g => g), chk_t (inb_nI hj (by decide)), ix_nI (by omega), Oc29 hO hj, chk_t (inb_nI hb5 (by decide)), chk_t (inb_nI hj (by decide)), ix_nI (by omega), hv.2.2, nI_1, nI_add]
      show _ = some ((nI (vsum T b j + (if lX T j ≠ 0 ∧ bdk (tX T) (lX T j - 1) = b then vR (T 58) b j else 0)), nI (j + 1)), 0)
      by_cases c : lX T j ≠ 0 ∧ bdk (tX T) (lX T j - 1) = b
      · rw [if_pos ((owB_b hn hb5).mpr c), if_pos c]
      · rw [if_neg (fun g => c ((owB_b hn hb5).mp g)), if_neg c]
        rfl
    · try dsimp only
      unfold X_gain_L21
      rw [if_pos (by decide)]
  rw [hl, bnd_ss]
  try dsimp only
  unfold X_gain_J60
  rw [pricesOf_t hI hO hb5, bnd_ss]
noncomputable def hoX (S : St) (k : Nat) : Int32 := if hld (tX S) (pX S) (rX S) (sX S) 1000 k = true then 1 else 0
theorem xHolds {w : gw} {S T : St} {i k : Nat} (hT : X_judgedOutcome S = some T) (hI : Inv w T i) (hO : OcOK T) (hk : k < NX T) : X_holds S (nI k) = some (hoX T k, T) := by
  have hN : NX T ≤ 20 := nb_le (Inv_tx hI).1
  have h3 : T 25 3 = nI (NX T) := hO.2.1
  obtain ⟨b1, b2⟩ := bidNo (x := nI k) hN
  rw [if_pos ⟨k, hk, rfl⟩] at b1
  have h28 : T 28 k = if hld (tX T) (pX T) (rX T) (sX T) 1000 k = true then 1 else 0 := hO.2.2.2.2.1 k hk
  unfold X_holds hoX
  rw [hT, bnd_ss, h3, b1, if_neg n10, chk_t (inb_nI (by omega) (by decide)), ix_nI (by omega), h28]
  by_cases d : hld (tX T) (pX T) (rX T) (sX T) 1000 k = true
  · rw [if_pos d, if_neg n10]
  · rw [if_neg d, if_pos rfl]
noncomputable def wiX (S : St) (k : Nat) : Int32 := ldX (tX S) (lW S k) 0
theorem xWithout {w : gw} {S T : St} {i k : Nat} (hT : X_judgedOutcome S = some T) (hI : Inv w T i) (hO : OcOK T) (hk : k < NX T) : ∃ V, X_without S (nI k) 0 = some (wiX T k, V) ∧ Inv w V i ∧ XKF_b T V := by
  have hN : NX T ≤ 20 := nb_le (Inv_tx hI).1
  have h3 : T 25 3 = nI (NX T) := hO.2.1
  obtain ⟨b1, b2⟩ := bidNo (x := nI k) hN
  rw [if_pos ⟨k, hk, rfl⟩] at b1
  obtain ⟨V, hV, v1, v2, v3⟩ := XW hI hO hk (show 0 < 10 by omega)
  refine ⟨V, ?_, v2, v3⟩
  unfold X_without wiX
  rw [hT, bnd_ss, h3, b1, if_neg n10, if_neg (show ¬ X_isEvening 0 = 0 from isE_t (q := 0) (by omega)), hV, bnd_ss, chk_t (by decide), show ix (0 : Int32) = 0 from by decide, v1]
noncomputable def fjX (S : St) : Int32 := if fn (tX S) (pX S) (rX S) (sX S) 1000 (NX S) = 0 then mI else nI (fn (tX S) (pX S) (rX S) (sX S) 1000 (NX S) - 1)
theorem xJudged {w : gw} {S T : St} {i : Nat} (hT : X_judgedOutcome S = some T) (hO : OcOK T) : X_judged S = some (fjX T, T) := by
  unfold X_judged
  rw [hT, bnd_ss, hO.2.2.2.2.2.2]
  rfl
theorem xFault {w : gw} {S T : St} {i : Nat} (hT : X_judgedOutcome S = some T) (hO : OcOK T) : X_fault S = some (flt (tX T) (nX T), T) := by
  unfold X_fault
  rw [hT, bnd_ss, hO.1]
  rfl
/-! ===== what all answers rest on ===== -/
def kr (k : Nat) : Bool := [54, 56, 57, 58, 59, 60, 61, 62, 63, 67].contains k
def cor (S : St) : St := fun k => cond (kr k) (S k) (cond (Nat.beq k 49) (fun j => cond (Nat.beq j 4 || Nat.beq j 6 || Nat.beq j 22) (S 49 j) 0) (fun _ => 0))
def Kq (S T : St) : Prop := cor T = cor S
theorem Kq_of {S T : St} (h : ∀ r, kr r = true → T r = S r) (h4 : T 49 4 = S 49 4) (h6 : T 49 6 = S 49 6) (h22 : T 49 22 = S 49 22) : Kq S T := by
  unfold Kq
  funext k
  unfold cor
  cases hk : kr k with
  | true =>
    rw [h k hk]
    rfl
  | false =>
    have e : (fun j => cond (Nat.beq j 4 || Nat.beq j 6 || Nat.beq j 22) (T 49 j) 0) = (fun j => cond (Nat.beq j 4 || Nat.beq j 6 || Nat.beq j 22) (S 49 j) 0) := by
      funext j
      by_cases c4 : j = 4
      · rw [c4, h4]
      · by_cases c6 : j = 6
        · rw [c6, h6]
        · by_cases c22 : j = 22
          · rw [c22, h22]
          · have n4 : Nat.beq j 4 = false := by cases hb : Nat.beq j 4 with | false => rfl | true => exact absurd (Nat.eq_of_beq_eq_true hb) c4
            have n6 : Nat.beq j 6 = false := by cases hb : Nat.beq j 6 with | false => rfl | true => exact absurd (Nat.eq_of_beq_eq_true hb) c6
            have n22 : Nat.beq j 22 = false := by cases hb : Nat.beq j 22 with | false => rfl | true => exact absurd (Nat.eq_of_beq_eq_true hb) c22
            rw [n4, n6, n22]
            rfl
    rw [e]
    rfl
theorem Kq_rfl {S : St} : Kq S S := rfl
theorem Kq_tr {S T U : St} (h1 : Kq S T) (h2 : Kq T U) : Kq S U := h2.trans h1
theorem Kq_row {S T : St} (h : Kq S T) {r : Nat} (hr : kr r = true) : T r = S r := by
  have := congrFun h r
  unfold cor at this
  rw [hr] at this
  exact this
theorem Kq_49 {S T : St} (h : Kq S T) : T 49 4 = S 49 4 ∧ T 49 6 = S 49 6 ∧ T 49 22 = S 49 22 := by
  have := congrFun h 49
  exact ⟨congrFun this 4, congrFun this 6, congrFun this 22⟩
theorem K_t {S T : St} (h : Kq S T) : tX T = tX S := by unfold tX; rw [Kq_row h rfl]
theorem K_p {S T : St} (h : Kq S T) : pX T = pX S := by unfold pX; rw [Kq_row h rfl]
theorem K_r {S T : St} (h : Kq S T) : rX T = rX S := by unfold rX; rw [Kq_row h rfl]
theorem K_s {S T : St} (h : Kq S T) : sX T = sX S := by unfold sX; rw [Kq_row h rfl]
theorem K_n {S T : St} (h : Kq S T) : nX T = nX S := by unfold nX; rw [(Kq_49 h).2.1]
theorem K_N {S T : St} (h : Kq S T) : NX T = NX S := by unfold NX; rw [K_t h, K_n h]
theorem K_l {S T : St} (h : Kq S T) : lX T = lX S := by unfold lX; rw [K_t h, K_p h, K_r h, K_s h, K_N h]
theorem K_lW {S T : St} (h : Kq S T) : lW T = lW S := by funext k; unfold lW; rw [K_t h, K_p h, K_r h, K_s h, K_N h]
theorem K_se {S T : St} (h : Kq S T) : seX T = seX S := by funext e; unfold seX; rw [K_t h, K_p h, K_r h, K_s h, K_N h]
theorem K_pr {S T : St} (h : Kq S T) : prX T = prX S := by funext e; unfold prX; rw [Kq_row h (r := 62) rfl, K_t h, K_l h, K_se h, K_r h]
theorem K_pc {S T : St} (h : Kq S T) : pcX T = pcX S := by funext e; unfold pcX; rw [K_l h, K_pr h]
theorem K_emk {S T : St} (h : Kq S T) {b : Nat} : ∀ m, emk T b m = emk S b m := by
  intro m
  induction m with
  | zero => rfl
  | succ m ih => unfold emk; rw [ih, K_l h, K_t h]
theorem K_psum {S T : St} (h : Kq S T) {b : Nat} : ∀ m, psum T b m = psum S b m := by
  intro m
  induction m with
  | zero => rfl
  | succ m ih => unfold psum; rw [ih, K_l h, K_t h, K_pr h]
theorem K_vsum {S T : St} (h : Kq S T) {b : Nat} : ∀ m, vsum T b m = vsum S b m := by
  intro m
  induction m with
  | zero => rfl
  | succ m ih => unfold vsum; rw [ih, K_l h, K_t h, Kq_row h (r := 58) rfl]
theorem K_no {S T : St} (h : Kq S T) : ∀ m, noX T m = noX S m := by
  intro m
  induction m with
  | zero => rfl
  | succ m ih => unfold noX; rw [ih, K_l h]
theorem K_pal {S T : St} (h : Kq S T) : ∀ m, palX T m = palX S m := by
  intro m
  induction m with
  | zero => rfl
  | succ m ih => unfold palX; rw [ih, K_l h, K_pr h]
theorem K_ct {S T : St} (h : Kq S T) : ctX T = ctX S := by
  funext x
  unfold ctX nhX
  rw [K_N h, K_n h, K_t h, K_p h, K_r h, K_s h, K_no h, K_pal h, (Kq_49 h).1, (Kq_49 h).2.2, Kq_row h (r := 62) rfl]
theorem K_ho {S T : St} (h : Kq S T) : hoX T = hoX S := by funext k; unfold hoX; rw [K_t h, K_p h, K_r h, K_s h]
theorem K_wi {S T : St} (h : Kq S T) : wiX T = wiX S := by funext k; unfold wiX; rw [K_t h, K_lW h]
theorem K_fj {S T : St} (h : Kq S T) : fjX T = fjX S := by unfold fjX; rw [K_t h, K_p h, K_r h, K_s h, K_N h]
theorem K_jA {S T : St} (h : Kq S T) : jyA T = jyA S := by funext p; unfold jyA; rw [Kq_row h (r := 59) rfl]
theorem K_jE {S T : St} (h : Kq S T) : jyE T = jyE S := by funext b e; unfold jyE; rw [K_l h, K_t h, Kq_row h (r := 59) rfl, Kq_row h (r := 57) rfl]
theorem K_hr {S T : St} (h : Kq S T) : hrX T = hrX S := by funext e; unfold hrX; rw [K_l h, K_t h, K_jA h, Kq_row h (r := 57) rfl]
theorem K_hs {S T : St} (h : Kq S T) : hsX T = hsX S := by funext b x; unfold hsX; rw [K_emk h, K_psum h, K_l h, K_t h, Kq_row h (r := 56) rfl]
theorem K_hp {S T : St} (h : Kq S T) : hpX T = hpX S := by funext b; unfold hpX; rw [K_jE h]
theorem K_rmk {S T : St} (h : Kq S T) {x : Int32} : ∀ m, rmk T x m = rmk S x m := by
  intro m
  induction m with
  | zero => rfl
  | succ m ih => unfold rmk rfs; rw [ih, Kq_row h (r := 61) rfl]
theorem K_wt {S T : St} (h : Kq S T) : wtX T = wtX S := by funext b x; unfold wtX; rw [K_rmk h, K_jE h]
theorem K_gn {S T : St} (h : Kq S T) : gnX T = gnX S := by funext b; unfold gnX; rw [K_vsum h, K_psum h]
theorem K_wy {S T : St} (h : Kq S T) : wyX T = wyX S ∧ ∀ e, whX T e = whX S e := wX_of (Kq_row h rfl) (Kq_49 h).2.2 (Kq_row h rfl) (Kq_row h rfl)
theorem K_wo {S T : St} (h : Kq S T) : woX T = woX S := by funext b e x; unfold woX; rw [Kq_row h (r := 58) rfl, Kq_row h (r := 61) rfl]
theorem K_sr {S T : St} (h : Kq S T) : srX T = srX S := by funext b x; unfold srX; rw [Kq_row h (r := 58) rfl, K_r h]
theorem K_sw {S T : St} (h : Kq S T) : swX T = swX S := by funext a b; unfold swX; rw [K_l h, K_t h, Kq_row h (r := 58) rfl]
theorem K_cs {S T : St} (h : Kq S T) : csX T = csX S := by funext x e; unfold csX; rw [K_l h, K_t h, K_r h, K_s h]
theorem K_bm {S T : St} (h : Kq S T) {x : Nat} : ∀ m, bmk T x m = bmk S x m := by
  intro m
  induction m with
  | zero => rfl
  | succ m ih => unfold bmk; rw [ih, Kq_row h (r := 63) rfl]
theorem K_mt {S T : St} (h : Kq S T) : mtX T = mtX S := by funext x k y; unfold mtX; rw [K_cs h, K_bm h]
theorem K_va {S T : St} (h : Kq S T) : vR (T 58) = vR (S 58) := by rw [Kq_row h (r := 58) rfl]
/-! the frames of the calls -/
theorem kr_ne {r k : Nat} (h : kr r = true) (hk : kr k = false) : r ≠ k := fun g => by rw [g, hk] at h; cases h
theorem FrX_K {S T : St} (h : FrX S T) : Kq S T := Kq_of (fun r hr => h.1 r (kr_ne hr rfl) (kr_ne hr rfl) (kr_ne hr rfl) (kr_ne hr rfl) (kr_ne hr rfl) (kr_ne hr rfl) (kr_ne hr rfl)) (by rw [h.1 49 (by decide) (by decide) (by decide) (by decide) (by decide) (by decide) (by decide)]) (by rw [h.1 49 (by decide) (by decide) (by decide) (by decide) (by decide) (by decide) (by decide)]) (by rw [h.1 49 (by decide) (by decide) (by decide) (by decide) (by decide) (by decide) (by decide)])
theorem FrM_K {S T : St} (h : FrM S T) : Kq S T := Kq_of (fun r hr => h.1 r (kr_ne hr rfl) (kr_ne hr rfl) (kr_ne hr rfl) (kr_ne hr rfl)) (h.2 4 (by decide) (by decide) (by decide)) (h.2 6 (by decide) (by decide) (by decide)) (h.2 22 (by decide) (by decide) (by decide))
theorem FrW_K {S T : St} (h : FrW S T) : Kq S T := Kq_of (fun r hr => h r (kr_ne hr rfl) (fun g => by rw [g] at hr; cases hr) (kr_ne hr rfl) (kr_ne hr rfl) (kr_ne hr rfl)) (by rw [h 49 (by decide) (by decide) (by decide) (by decide) (by decide)]) (by rw [h 49 (by decide) (by decide) (by decide) (by decide) (by decide)]) (by rw [h 49 (by decide) (by decide) (by decide) (by decide) (by decide)])
theorem XKb_K {S T : St} (h : XKF_b S T) : Kq S T := Kq_of (fun r hr => h r (kr_ne hr rfl) (kr_ne hr rfl) (kr_ne hr rfl) (kr_ne hr rfl) (kr_ne hr rfl) (kr_ne hr rfl)) (by rw [h 49 (by decide) (by decide) (by decide) (by decide) (by decide) (by decide)]) (by rw [h 49 (by decide) (by decide) (by decide) (by decide) (by decide) (by decide)]) (by rw [h 49 (by decide) (by decide) (by decide) (by decide) (by decide) (by decide)])
theorem Fr1_K {S T : St} {k : Nat} (hk : kr k = false) (h9 : k ≠ 49) (h : ∀ r, r ≠ k → T r = S r) : Kq S T := Kq_of (fun r hr => h r (kr_ne hr hk)) (by rw [h 49 (fun g => h9 g.symm)]) (by rw [h 49 (fun g => h9 g.symm)]) (by rw [h 49 (fun g => h9 g.symm)])
theorem FrE_K {S T : St} (h : ∀ r, r ≠ 39 → r ≠ 40 → r ≠ 41 → r ≠ 42 → T r = S r) : Kq S T := Kq_of (fun r hr => h r (kr_ne hr rfl) (kr_ne hr rfl) (kr_ne hr rfl) (kr_ne hr rfl)) (by rw [h 49 (by decide) (by decide) (by decide) (by decide)]) (by rw [h 49 (by decide) (by decide) (by decide) (by decide)]) (by rw [h 49 (by decide) (by decide) (by decide) (by decide)])
theorem FrC_K {S T : St} (h : ∀ r, r ≠ 43 → r ≠ 44 → T r = S r) : Kq S T := Kq_of (fun r hr => h r (kr_ne hr rfl) (kr_ne hr rfl)) (by rw [h 49 (by decide) (by decide)]) (by rw [h 49 (by decide) (by decide)]) (by rw [h 49 (by decide) (by decide)])
/-- the class on its way: T rests on what S does -/
def GX (w : gw) (S : St) (i : Nat) (T : St) : Prop := Inv w T i ∧ Kq S T
theorem GJ {w : gw} {S T : St} {i : Nat} (h : GX w S i T) (hi : i < 513) : ∃ V, X_judgedOutcome T = some V ∧ GX w S i V ∧ OcOK V := by
  obtain ⟨V, h1, h2, h3, h4⟩ := XJ h.1 hi
  exact ⟨V, h1, ⟨h2, Kq_tr h.2 (FrX_K h4)⟩, h3⟩
theorem GE {w : gw} {S T : St} {i : Nat} (h : GX w S i T) (hi : i < 513) : ∃ V, X_solvedOneEach T = some V ∧ GX w S i V ∧ OeOK V := by
  obtain ⟨V, h1, h2, h3, h4⟩ := XE h.1 hi
  exact ⟨V, h1, ⟨h2, Kq_tr h.2 (FrE_K h4)⟩, h3⟩
theorem GC {w : gw} {S T : St} {i : Nat} (h : GX w S i T) (hi : i < 513) : ∃ V, X_valuedClubs T = some V ∧ GX w S i V ∧ ClOK V := by
  obtain ⟨V, h1, h2, h3, h4⟩ := XC h.1 hi
  exact ⟨V, h1, ⟨h2, Kq_tr h.2 (FrC_K h4)⟩, h3⟩
theorem G_count {w : gw} {S T : St} {i : Nat} (h : GX w S i T) (hi : i < 513) (x : Int32) : ∃ V, X_count T x = some (ctX S x, V) ∧ GX w S i V := by
  obtain ⟨V, hV, hG, hO⟩ := GJ h hi
  exact ⟨V, by rw [xCount hV hG.1 hO, K_ct hG.2], hG⟩
theorem G_fault {w : gw} {S T : St} {i : Nat} (h : GX w S i T) (hi : i < 513) : ∃ V, X_fault T = some (flt (tX S) (nX S), V) ∧ GX w S i V := by
  obtain ⟨V, hV, hG, hO⟩ := GJ h hi
  exact ⟨V, by rw [xFault (w := w) (i := i) hV hO, K_t hG.2, K_n hG.2], hG⟩
theorem G_judged {w : gw} {S T : St} {i : Nat} (h : GX w S i T) (hi : i < 513) : ∃ V, X_judged T = some (fjX S, V) ∧ GX w S i V := by
  obtain ⟨V, hV, hG, hO⟩ := GJ h hi
  exact ⟨V, by rw [xJudged (w := w) (i := i) hV hO, K_fj hG.2], hG⟩
theorem G_holds {w : gw} {S T : St} {i k : Nat} (h : GX w S i T) (hi : i < 513) (hk : k < NX S) : ∃ V, X_holds T (nI k) = some (hoX S k, V) ∧ GX w S i V := by
  obtain ⟨V, hV, hG, hO⟩ := GJ h hi
  exact ⟨V, by rw [xHolds hV hG.1 hO (by rw [K_N hG.2]; exact hk), K_ho hG.2], hG⟩
theorem G_without {w : gw} {S T : St} {i k : Nat} (h : GX w S i T) (hi : i < 513) (hk : k < NX S) : ∃ V, X_without T (nI k) 0 = some (wiX S k, V) ∧ GX w S i V := by
  obtain ⟨V, hV, hG, hO⟩ := GJ h hi
  obtain ⟨U, h1, h2, h3⟩ := xWithout hV hG.1 hO (k := k) (by rw [K_N hG.2]; exact hk)
  exact ⟨U, by rw [h1, K_wi hG.2], h2, Kq_tr hG.2 (XKb_K h3)⟩
theorem G_owner {w : gw} {S T : St} {i e : Nat} (h : GX w S i T) (hi : i < 513) (he : e < 10) : ∃ V, X_owner T (nI e) = some (ldX (tX S) (lX S) e, V) ∧ GX w S i V := by
  obtain ⟨V, hV, hG, hO⟩ := GJ h hi
  exact ⟨V, by rw [xOwner (w := w) (i := i) hV hO he, K_t hG.2, K_l hG.2], hG⟩
theorem G_price {w : gw} {S T : St} {i e : Nat} (h : GX w S i T) (hi : i < 513) (he : e < 10) : ∃ V, X_price T (nI e) = some (pcX S e, V) ∧ GX w S i V := by
  obtain ⟨V, hV, hG, hO⟩ := GJ h hi
  exact ⟨V, by rw [xPrice hV hG.1 hO he, K_pc hG.2], hG⟩
theorem G_harm {w : gw} {S T : St} {i e : Nat} (h : GX w S i T) (hi : i < 513) (he : e < 10) : ∃ V, X_harm T (nI e) = some (hrX S e, V) ∧ GX w S i V := by
  obtain ⟨V, hV, hG, hO⟩ := GJ h hi
  exact ⟨V, by rw [xHarm hV hG.1 hO he, K_hr hG.2], hG⟩
theorem G_owners {w : gw} {S T : St} {i e : Nat} (h : GX w S i T) (he : e < 10) : ∃ V, X_owners T (nI e) = some (nI (whX S e), V) ∧ GX w S i V := by
  obtain ⟨V, hV, hF⟩ := xOwners h.1 he
  exact ⟨V, by rw [hV, (K_wy h.2).2 e], Fr47_inv hF h.1, Kq_tr h.2 (Fr1_K rfl (by decide) hF)⟩
theorem G_ownersN {w : gw} {S T : St} {i : Nat} (h : GX w S i T) : ∃ V, X_owners T (-1) = some (nI (wyX S), V) ∧ GX w S i V := by
  obtain ⟨V, hV, hF⟩ := xOwnersN h.1
  exact ⟨V, by rw [hV, (K_wy h.2).1], Fr47_inv hF h.1, Kq_tr h.2 (Fr1_K rfl (by decide) hF)⟩
theorem G_worth {w : gw} {S T : St} {i b e : Nat} {x : Int32} (h : GX w S i T) (hb : b < 5) (he : e < 10) (hx : sm x 1) : X_worth T (nI b) (nI e) x = some (woX S b e x) := by rw [xWorth h.1 hb he hx, K_wo h.2]
theorem G_has {w : gw} {S T : St} {i b : Nat} {x : Int32} (h : GX w S i T) (hi : i < 513) (hb : b < 5) (hx : sm x 2) : ∃ V, X_has T (nI b) x = some (hsX S b x, V) ∧ GX w S i V := by
  obtain ⟨V, hV, hG, hO⟩ := GJ h hi
  exact ⟨V, by rw [xHas hV hG.1 hO hb hx, K_hs hG.2], hG⟩
theorem G_happy {w : gw} {S T : St} {i b : Nat} (h : GX w S i T) (hi : i < 513) (hb : b < 5) : ∃ V, X_happy T (nI b) = some (hpX S b, V) ∧ GX w S i V := by
  obtain ⟨V, hV, hG, hO⟩ := GJ h hi
  exact ⟨V, by rw [xHappy hV hG.1 hO hb, K_hp hG.2], hG⟩
theorem G_wet {w : gw} {S T : St} {i b : Nat} {x : Int32} (h : GX w S i T) (hi : i < 513) (hb : b < 5) : ∃ V, X_wet T (nI b) x = some (wtX S b x, V) ∧ GX w S i V := by
  obtain ⟨V, hV, hG, hO⟩ := GJ h hi
  exact ⟨V, by rw [xWet hV hG.1 hO hb, K_wt hG.2], hG⟩
theorem G_gain {w : gw} {S T : St} {i b : Nat} (h : GX w S i T) (hi : i < 513) (hb : b < 5) : ∃ V, X_gain T (nI b) = some (gnX S b, V) ∧ GX w S i V := by
  obtain ⟨V, hV, hG, hO⟩ := GJ h hi
  exact ⟨V, by rw [xGain hV hG.1 hO hb, K_gn hG.2], hG⟩
theorem G_each {w : gw} {S T : St} {i b : Nat} (h : GX w S i T) (hi : i < 513) (hb : b < 5) : ∃ V, X_each T (nI b) = some (eaX (vR (S 58)) b, V) ∧ GX w S i V := by
  obtain ⟨V, hV, hG, hO⟩ := GE h hi
  exact ⟨V, by rw [xEach (w := w) hV hO hb, K_va hG.2], hG⟩
theorem G_eachN {w : gw} {S T : St} {i : Nat} (h : GX w S i T) (hi : i < 513) : ∃ V, X_each T (-1) = some (nI (mo (vR (S 58)) 5 5 0), V) ∧ GX w S i V := by
  obtain ⟨V, hV, hG, hO⟩ := GE h hi
  exact ⟨V, by rw [xEachN hV hO, K_va hG.2], hG⟩
theorem G_pays {w : gw} {S T : St} {i b : Nat} (h : GX w S i T) (hi : i < 513) (hb : b < 5) : ∃ V, X_pays T (nI b) = some (paX (vR (S 58)) b, V) ∧ GX w S i V := by
  obtain ⟨V, hV, hG, hO⟩ := GE h hi
  exact ⟨V, by rw [xPays hV hG.1 hO hb, K_va hG.2], hG⟩
theorem G_share {w : gw} {S T : St} {i b : Nat} {x : Int32} (h : GX w S i T) (hi : i < 513) (hb : b < 5) (hx : sm x 1) : ∃ V, X_share T (nI b) x = some (srX S b x, V) ∧ GX w S i V := by
  obtain ⟨V, hV, hG, hC⟩ := GC h hi
  exact ⟨V, by rw [xShare hV hG.1 hC hb hx, K_sr hG.2], hG⟩
theorem G_meet {w : gw} {S T : St} {i : Nat} {x : Int32} (h : GX w S i T) (hi : i < 513) (hx : sm x 1) : ∃ V, X_meet T 3 2 x = some (mtX S 3 2 x, V) ∧ GX w S i V := by
  obtain ⟨V, hV, hG, hO⟩ := GJ h hi
  have := xMeet hV hG.1 hO (x := 3) (k := 2) ⟨by omega, by omega⟩ ⟨by omega, by omega⟩ hx
  rw [K_mt hG.2] at this
  exact ⟨V, this, hG⟩
theorem G_club {w : gw} {S T : St} {i : Nat} (h : GX w S i T) (hi : i < 513) : ∃ V, X_club T 31 = some (nI (cw (vR (S 58)) (rX S) 31), V) ∧ GX w S i V := by
  obtain ⟨V, hV, hG, hC⟩ := GC h hi
  have := xClub hV hG.1 hC (x := 31) (by omega)
  rw [K_va hG.2, K_r hG.2] at this
  exact ⟨V, this, hG⟩
theorem G_swap {w : gw} {S T : St} {i : Nat} (h : GX w S i T) (hi : i < 513) : ∃ V, X_swap T 0 1 = some (swX S 0 1, V) ∧ GX w S i V := by
  obtain ⟨V, hV, hG, hO⟩ := GJ h hi
  have := xSwap hV hG.1 hO (a := 0) (b := 1) (by omega) (by omega) (by omega)
  rw [K_sw hG.2] at this
  exact ⟨V, this, hG⟩
