/-! ===== has, happy, wet, harm, gain, swap ===== -/
theorem Inv_vl {w : gw} {S : St} {i b e : Nat} (h : Inv w S i) (hb : b < 5) (he : e < 10) : S 58 (10 * b + e) = nI (vR (S 58) b e) ∧ vR (S 58) b e ≤ 99 ∧ S (5 + b) e = nI (vR (S 58) b e) := by
  have h1 := h.2.1.2.2.1 b e hb he
  rw [mk_row S (by omega)] at h1
  have h2 : S (5 + b) e = S 58 (10 * b + e) ∧ sm (S 58 (10 * b + e)) 99 := h1
  have := sm_nI h2.2 (by omega)
  exact ⟨this.1, this.2, h2.1.trans this.1⟩
theorem Inv_pg {w : gw} {S : St} {i b : Nat} (h : Inv w S i) (hb : b < 5) : S 57 b = nI (nR (S 57) b) ∧ nR (S 57) b ≤ 4 ∧ S 3 b = nI (nR (S 57) b) := by
  have h2 : S 3 b = S 57 b ∧ sm (S 57 b) 4 := h.2.1.2.1 b hb
  have := sm_nI h2.2 (by omega)
  exact ⟨this.1, this.2, h2.1.trans this.1⟩
def jR (r : Nat → Int32) : Nat → Nat → Nat := fun b p => ix (r (5 * b + p))
theorem Inv_jy {w : gw} {S : St} {i b e : Nat} (h : Inv w S i) (hb : b < 5) (he : e < 5) : S 59 (5 * b + e) = nI (jR (S 59) b e) ∧ jR (S 59) b e ≤ 9 ∧ S (11 + b) e = nI (jR (S 59) b e) := by
  have h1 := h.2.1.2.2.2.1 b e hb he
  rw [mk_row S (by omega)] at h1
  have h2 : S (11 + b) e = S 59 (5 * b + e) ∧ sm (S 59 (5 * b + e)) 9 := h1
  have := sm_nI h2.2 (by omega)
  exact ⟨this.1, this.2, h2.1.trans this.1⟩
theorem Inv_cl {w : gw} {S : St} {i e : Nat} (h : Inv w S i) (he : e < 10) : S 61 e = nI (nR (S 61) e) ∧ nR (S 61) e ≤ 16 ∧ S 23 e = nI (nR (S 61) e) := by
  have h2 : S 23 e = S 61 e ∧ sm (S 61 e) 16 := h.2.1.2.2.2.2.2.2.1 e he
  have := sm_nI h2.2 (by omega)
  exact ⟨this.1, this.2, h2.1.trans this.1⟩
theorem owB_b {S : St} {b e : Nat} (hn : nX S ≤ 100) (hb : b < 5) : ldX (tX S) (lX S) e = nI b ↔ lX S e ≠ 0 ∧ bdk (tX S) (lX S e - 1) = b := by
  rcases ldX_c hn e with ⟨c, d⟩ | ⟨c, q, q1, q2, d⟩
  · rw [d, eqM_g (by omega)]
    exact ⟨fun g => g.elim, fun g => g.1 c⟩
  · rw [d, nI_eq (by omega) (by omega), q2]
    exact ⟨fun g => ⟨c, g⟩, fun g => g.2⟩
noncomputable def psum (S : St) (b : Nat) : Nat → Nat
  | 0 => 0
  | m + 1 => psum S b m + (if lX S m ≠ 0 ∧ bdk (tX S) (lX S m - 1) = b then prX S m else 0)
noncomputable def emk (S : St) (b : Nat) : Nat → Int32
  | 0 => 0
  | m + 1 => if lX S m ≠ 0 ∧ bdk (tX S) (lX S m - 1) = b then emk S b m ||| ((1 : Int32) <<< (nI m &&& 31)) else emk S b m
theorem evOf_t {w : gw} {T : St} {i b : Nat} (hI : Inv w T i) (hO : OcOK T) (hb : b < 5) : OC_eveningsOf T (nI b) = some (emk T b 10) := by
  have hn := (Inv_tx hI).1
  unfold OC_eveningsOf
  have hl : lp (σ := Int32 × Int32) (fun q => OC_eveningsOf_L4 T (nI b) q.1 q.2) FZ (0, 0) = some ((emk T b 10, nI 10), 1) := by
    refine lp_1 (fun j => (emk T b j, nI j)) 10 rfl ?_ ?_ (by decide)
    · intro j hj
      dsimp only
      unfold OC_eveningsOf_L4
      rw [if_neg (by rw [n_10]; try simp (disch := omega) only [↓m_1, n_0, n_1, n_2, n_3, n_4, n_5, n_6, n_7, n_8, n_9, n_10, n_16, n_20, n_24, n_31, n_32, n_48, n_52, n_57, n_59, n_60, n_64, n_100, n_1024, nI_add, pk_mul, pk_sub, leI_t, leI_f, ltI_t, ltI_f, eqI_t, eqI_f, geM_t, eqM_f, eqM_g, ltM_f, ltM_t, leM_f, inb_nI, ix_nI, chk_tt, bnd_ss, up_ne, up_self, up_oth, if_true, if_false, reduceCtorEq, Nat.succ_ne_zero]; exact fun g => g), chk_t (inb_nI hj (by decide)), ix_nI (by omega), Oc29 hO hj, nI_1]
      show _ = some ((if lX T j ≠ 0 ∧ bdk (tX T) (lX T j - 1) = b then emk T b j ||| ((1 : Int32) <<< (nI j &&& 31)) else emk T b j, nI (j + 1)), 0)
      by_cases c : lX T j ≠ 0 ∧ bdk (tX T) (lX T j - 1) = b
      · rw [if_pos ((owB_b hn hb).mpr c), if_pos c]
      · rw [if_neg (fun g => c ((owB_b hn hb).mp g)), if_neg c]
    · dsimp only
      unfold OC_eveningsOf_L4
      rw [if_pos (by decide)]
  rw [hl, bnd_ss]
  rfl
theorem pricesOf_t {w : gw} {T : St} {i b : Nat} (hI : Inv w T i) (hO : OcOK T) (hb : b < 5) : OC_pricesOf T (nI b) = some (nI (psum T b 10)) := by
  have hn := (Inv_tx hI).1
  unfold OC_pricesOf
  have hl : lp (σ := Int32 × Int32) (fun q => OC_pricesOf_L5 T (nI b) q.1 q.2) FZ (0, 0) = some ((nI (psum T b 10), nI 10), 1) := by
    refine lp_1 (fun j => (nI (psum T b j), nI j)) 10 rfl ?_ ?_ (by decide)
    · intro j hj
      dsimp only
      unfold OC_pricesOf_L5
      rw [if_neg (by rw [n_10]; try simp (disch := omega) only [↓m_1, n_0, n_1, n_2, n_3, n_4, n_5, n_6, n_7, n_8, n_9, n_10, n_16, n_20, n_24, n_31, n_32, n_48, n_52, n_57, n_59, n_60, n_64, n_100, n_1024, nI_add, pk_mul, pk_sub, leI_t, leI_f, ltI_t, ltI_f, eqI_t, eqI_f, geM_t, eqM_f, eqM_g, ltM_f, ltM_t, leM_f, inb_nI, ix_nI, chk_tt, bnd_ss, up_ne, up_self, up_oth, if_true, if_false, reduceCtorEq, Nat.succ_ne_zero]; exact fun g => g), chk_t (inb_nI hj (by decide)), ix_nI (by omega), Oc29 hO hj, nI_1, ocPrice_t hI hO hj, bnd_ss, nI_add]
      show _ = some ((nI (psum T b j + (if lX T j ≠ 0 ∧ bdk (tX T) (lX T j - 1) = b then prX T j else 0)), nI (j + 1)), 0)
      by_cases c : lX T j ≠ 0 ∧ bdk (tX T) (lX T j - 1) = b
      · rw [if_pos ((owB_b hn hb).mpr c), if_pos c]
      · rw [if_neg (fun g => c ((owB_b hn hb).mp g)), if_neg c]
        rfl
    · dsimp only
      unfold OC_pricesOf_L5
      rw [if_pos (by decide)]
  rw [hl, bnd_ss]
  rfl
theorem hasOf_t {w : gw} {T U : St} {i b : Nat} (hI : Inv w T i) (hM : MFs T U) (hb : b < 5) (x2 : Int32) : M_hasOf U (nI b) x2 = some (if x2 = 0 then emk T b 10 else if x2 = 1 then nI (bsum (tX T) (lX T) b 10) else T 56 b - nI (psum T b 10)) := by
  have hn := (Inv_tx hI).1
  unfold M_hasOf
  have hl : lp (σ := Int32 × Int32 × Int32 × Int32) (fun q => M_hasOf_L11 U (nI b) x2 q.1 q.2.1 q.2.2.1 q.2.2.2) FZ (0, 0, 0, 0) = some ((emk T b 10, nI (bsum (tX T) (lX T) b 10), nI (psum T b 10), nI 10), 1) := by
    refine lp_1 (fun j => (emk T b j, nI (bsum (tX T) (lX T) b j), nI (psum T b j), nI j)) 10 rfl ?_ ?_ (by decide)
    · intro j hj
      dsimp only
      unfold M_hasOf_L11
      rw [if_neg (by rw [n_10]; try simp (disch := omega) only [↓m_1, n_0, n_1, n_2, n_3, n_4, n_5, n_6, n_7, n_8, n_9, n_10, n_16, n_20, n_24, n_31, n_32, n_48, n_52, n_57, n_59, n_60, n_64, n_100, n_1024, nI_add, pk_mul, pk_sub, leI_t, leI_f, ltI_t, ltI_f, eqI_t, eqI_f, geM_t, eqM_f, eqM_g, ltM_f, ltM_t, leM_f, inb_nI, ix_nI, chk_tt, bnd_ss, up_ne, up_self, up_oth, if_true, if_false, reduceCtorEq, Nat.succ_ne_zero]; exact fun g => g), ownerOf_t hM.2.2.1 hj, bnd_ss, amountOf_t hM.2.2.1 hj, bnd_ss, mPrice_t hI hM hj, bnd_ss, nI_1]
      show _ = some ((if lX T j ≠ 0 ∧ bdk (tX T) (lX T j - 1) = b then emk T b j ||| ((1 : Int32) <<< (nI j &&& 31)) else emk T b j, nI (bsum (tX T) (lX T) b j + (if lX T j ≠ 0 ∧ bdk (tX T) (lX T j - 1) = b then amk (tX T) (lX T j - 1) else 0)), nI (psum T b j + (if lX T j ≠ 0 ∧ bdk (tX T) (lX T j - 1) = b then prX T j else 0)), nI (j + 1)), 0)
      by_cases c : lX T j ≠ 0 ∧ bdk (tX T) (lX T j - 1) = b
      · rw [if_pos ((owB_b hn hb).mpr c), if_pos c, if_pos c, if_pos c, if_neg c.1, nI_add, nI_add]
        unfold amX
        rw [if_neg c.1]
      · rw [if_neg (fun g => c ((owB_b hn hb).mp g)), if_neg c, if_neg c, if_neg c]
        rfl
    · dsimp only
      unfold M_hasOf_L11
      rw [if_pos (by decide)]
  rw [hl, bnd_ss]
  dsimp only
  unfold M_hasOf_J63
  rw [chk_t (inb_nI hb (by decide)), ix_nI (by omega), hM.1.1 56 (by decide) (by decide) (by decide) (by decide)]
  split
  · rfl
  · split <;> rfl
theorem sm_2 {x : Int32} : sm x 2 ↔ x = 0 ∨ x = 1 ∨ x = 2 := by
  constructor
  · rintro ⟨v, hv, rfl⟩
    match v, hv with
    | 0, _ => exact Or.inl rfl
    | 1, _ => exact Or.inr (Or.inl rfl)
    | 2, _ => exact Or.inr (Or.inr rfl)
    | v + 3, hv => exact absurd hv (by omega)
  · rintro (rfl | rfl | rfl)
    · exact ⟨0, by omega, rfl⟩
    · exact ⟨1, by omega, rfl⟩
    · exact ⟨2, by omega, rfl⟩
theorem op_has {w : gw} {S : St} {i : Nat} (h : Inv w S i) (hi : i < 512) (a1 : Int32) (a2 : Int32) : ∃ z1 z2, X_has S a1 a2 = some z1 ∧ M_has z1.2 a1 a2 = some z2 ∧ z1.1 = z2.1 ∧ Inv w z2.2 (i + 1) := by
  rcases sm_or a1 4 with h1 | h1
  · obtain ⟨T, U, hT, hU, hI, hI2, hO, hM⟩ := XMf h hi
    have gx : ¬ X_isBidder a1 = 0 := by rw [show X_isBidder a1 = 1 from xw_t h1 (by decide)]; exact n10
    have gm : ¬ M_isBidder a1 = 0 := by rw [show M_isBidder a1 = 1 from mi_t h1 (by decide)]; exact n10
    obtain ⟨b, hb, rfl⟩ := h1
    have hb5 : b < 5 := by omega
    have h32 : T 32 b = nI (bsum (tX T) (lX T) b 10) := hO.2.2.2.1 b hb5
    have h2 : T 2 b = T 56 b := hI.2.1.1 b hb5 |>.1
    unfold X_has
    rw [if_neg gx, hT, bnd_ss, evOf_t hI hO hb5, bnd_ss, pricesOf_t hI hO hb5, bnd_ss, chk_t (inb_nI hb5 (by decide)), chk_t (inb_nI hb5 (by decide)), ix_nI (by omega), h32, h2]
    rcases sm_or a2 2 with h3 | h3
    · refine ⟨(if a2 = 0 then emk T b 10 else if a2 = 1 then nI (bsum (tX T) (lX T) b 10) else T 56 b - nI (psum T b 10), T), (if a2 = 0 then emk T b 10 else if a2 = 1 then nI (bsum (tX T) (lX T) b 10) else T 56 b - nI (psum T b 10), U), ?_, ?_, rfl, hI2⟩
      · rcases sm_2.mp h3 with rfl | rfl | rfl <;> rfl
      · show M_has T _ _ = _
        unfold M_has
        rw [hU, bnd_ss, if_neg gm, if_neg (by rw [show M_in a2.toInt64 0 2 = 1 from mi_t h3 (by decide)]; exact n10), hasOf_t hI hM hb5, bnd_ss]
    · refine ⟨(-2, T), (-2, U), ?_, ?_, rfl, hI2⟩
      · rw [if_neg (fun g => h3 (sm_2.mpr (Or.inl g))), if_neg (fun g => h3 (sm_2.mpr (Or.inr (Or.inl g)))), if_neg (fun g => h3 (sm_2.mpr (Or.inr (Or.inr g))))]
      · show M_has T _ _ = _
        unfold M_has
        rw [hU, bnd_ss, if_neg gm, if_pos (show M_in a2.toInt64 0 2 = 0 from mi_f h3 (by decide))]
  · obtain ⟨U, hU, hI, -⟩ := MF h
    refine ⟨(-2, S), (-2, U), ?_, ?_, rfl, Inv_next hI⟩
    · unfold X_has
      rw [if_pos (show X_isBidder a1 = 0 from xw_f h1 (by decide))]
    · show M_has S _ _ = _
      unfold M_has
      rw [hU, bnd_ss, if_pos (show M_isBidder a1 = 0 from mi_f h1 (by decide))]
/-- what b enjoys in evening e -/
noncomputable def jyE (S : St) (b e : Nat) : Nat := if lX S e = 0 then 0 else jR (S 59) b (nR (S 57) (bdk (tX S) (lX S e - 1)))
theorem joyBy_t {w : gw} {T : St} {i b e : Nat} (hI : Inv w T i) (hO : OcOK T) (hb : b < 5) (he : e < 10) : TW_joyBy T (T 29 e) (nI b) = some (nI (jyE T b e)) := by
  have hn := (Inv_tx hI).1
  unfold TW_joyBy jyE
  rw [Oc29 hO he]
  rcases ldX_c hn e with ⟨c, d⟩ | ⟨c, q, q1, q2, d⟩
  · rw [d, if_pos (show X_isBidder mI = 0 by decide), if_pos c]
    rfl
  · have hq := Inv_pg hI q1
    have hj := Inv_jy hI hb (show nR (T 57) q < 5 by omega)
    rw [d, if_neg (by rw [show X_isBidder (nI q) = 1 from xw_t (show sm (nI q) 4 from ⟨q, by omega, rfl⟩) (by decide)]; exact n10), if_neg c, q2]
    try simp (disch := omega) only [↓m_1, n_0, n_1, n_2, n_3, n_4, n_5, n_6, n_7, n_8, n_9, n_10, n_16, n_20, n_24, n_31, n_32, n_48, n_52, n_57, n_59, n_60, n_64, n_100, n_1024, nI_add, pk_mul, pk_sub, leI_t, leI_f, ltI_t, ltI_f, eqI_t, eqI_f, geM_t, eqM_f, eqM_g, ltM_f, ltM_t, leM_f, inb_nI, ix_nI, chk_tt, bnd_ss, up_ne, up_self, up_oth, if_true, if_false, reduceCtorEq, Nat.succ_ne_zero, hq.2.2, hj.2.2]
theorem happyOf_t {w : gw} {T U : St} {i b B : Nat} (hI : Inv w T i) (hM : MFs T U) (hb : b < 5) (hB : B < 2147483648) : M_happyOf U (nI b) (nI B) = some (nI (smE (fun e => if B.testBit e = true then 0 else jyE T b e) 10)) := by
  have hn := (Inv_tx hI).1
  unfold M_happyOf
  have hl : lp (σ := Int32 × Int32) (fun q => M_happyOf_L5 U (nI b) (nI B) q.1 q.2) FZ (0, 0) = some ((nI (smE (fun e => if B.testBit e = true then 0 else jyE T b e) 10), nI 10), 1) := by
    refine lp_1 (fun j => (nI (smE (fun e => if B.testBit e = true then 0 else jyE T b e) j), nI j)) 10 rfl ?_ ?_ (by decide)
    · intro j hj
      dsimp only
      unfold M_happyOf_L5 M_happyOf_J36 M_happyOf_J37
      rw [if_neg (by rw [n_10]; try simp (disch := omega) only [↓m_1, n_0, n_1, n_2, n_3, n_4, n_5, n_6, n_7, n_8, n_9, n_10, n_16, n_20, n_24, n_31, n_32, n_48, n_52, n_57, n_59, n_60, n_64, n_100, n_1024, nI_add, pk_mul, pk_sub, leI_t, leI_f, ltI_t, ltI_f, eqI_t, eqI_f, geM_t, eqM_f, eqM_g, ltM_f, ltM_t, leM_f, inb_nI, ix_nI, chk_tt, bnd_ss, up_ne, up_self, up_oth, if_true, if_false, reduceCtorEq, Nat.succ_ne_zero]; exact fun g => g), chk_t (inb_nI hj (by decide)), ix_nI (by omega), hM.2.2.1.2.2.1 j hj, ownerOf_t hM.2.2.1 hj, bnd_ss, isIn_t hB (by omega), nI_1, if_pos rfl, if_neg (show ¬ (1 : Int32) = 0 by decide)]
      show _ = some ((nI (smE (fun e => if B.testBit e = true then 0 else jyE T b e) j + (if B.testBit j = true then 0 else jyE T b j)), nI (j + 1)), 0)
      unfold ldM jyE
      rcases ldX_c hn j with ⟨c, d⟩ | ⟨c, q, q1, q2, d⟩
      · rw [if_pos c, if_pos (show mI = -1 from rfl), if_pos c, n_0]
        by_cases cb : B.testBit j = true
        · rw [if_pos cb, nI_add]
        · rw [if_neg cb, nI_add]
      · have hl1 := (lX_bid T hn c).1
        rw [if_neg c, if_neg (by rw [m_1]; try simp (disch := omega) only [↓m_1, n_0, n_1, n_2, n_3, n_4, n_5, n_6, n_7, n_8, n_9, n_10, n_16, n_20, n_24, n_31, n_32, n_48, n_52, n_57, n_59, n_60, n_64, n_100, n_1024, nI_add, pk_mul, pk_sub, leI_t, leI_f, ltI_t, ltI_f, eqI_t, eqI_f, geM_t, eqM_f, eqM_g, ltM_f, ltM_t, leM_f, inb_nI, ix_nI, chk_tt, bnd_ss, up_ne, up_self, up_oth, if_true, if_false, reduceCtorEq, Nat.succ_ne_zero]; exact fun g => g), if_neg c]
        by_cases cb : B.testBit j = true
        · rw [if_pos cb, if_pos cb, if_neg (show ¬ nI 1 = 0 by decide), n_0, nI_add]
        · have hq := Inv_pg hI q1
          have hj := Inv_jy hI hb (show nR (T 57) q < 5 by omega)
          rw [if_neg cb, if_neg cb, if_pos (show nI 0 = 0 from rfl), d, q2, hM.1.1 57 (by decide) (by decide) (by decide) (by decide), hM.1.1 59 (by decide) (by decide) (by decide) (by decide)]
          try simp (disch := omega) only [↓m_1, n_0, n_1, n_2, n_3, n_4, n_5, n_6, n_7, n_8, n_9, n_10, n_16, n_20, n_24, n_31, n_32, n_48, n_52, n_57, n_59, n_60, n_64, n_100, n_1024, nI_add, pk_mul, pk_sub, leI_t, leI_f, ltI_t, ltI_f, eqI_t, eqI_f, geM_t, eqM_f, eqM_g, ltM_f, ltM_t, leM_f, inb_nI, ix_nI, chk_tt, bnd_ss, up_ne, up_self, up_oth, if_true, if_false, reduceCtorEq, Nat.succ_ne_zero, hq.1, hj.1]
    · dsimp only
      unfold M_happyOf_L5
      rw [if_pos (by decide)]
  rw [hl, bnd_ss]
  rfl
theorem smE_congr {f g : Nat → Nat} : ∀ n, (∀ e, e < n → f e = g e) → smE f n = smE g n := by
  intro n
  induction n with
  | zero => intro _; rfl
  | succ n ih =>
    intro h
    unfold smE
    rw [ih (fun e he => h e (by omega)), h n (by omega)]
theorem op_happy {w : gw} {S : St} {i : Nat} (h : Inv w S i) (hi : i < 512) (a1 : Int32) : ∃ z1 z2, X_happy S a1 = some z1 ∧ M_happy z1.2 a1 = some z2 ∧ z1.1 = z2.1 ∧ Inv w z2.2 (i + 1) := by
  rcases sm_or a1 4 with h1 | h1
  · obtain ⟨T, U, hT, hU, hI, hI2, hO, hM⟩ := XMf h hi
    have gx : ¬ X_isBidder a1 = 0 := by rw [show X_isBidder a1 = 1 from xw_t h1 (by decide)]; exact n10
    have gm : ¬ M_isBidder a1 = 0 := by rw [show M_isBidder a1 = 1 from mi_t h1 (by decide)]; exact n10
    obtain ⟨b, hb, rfl⟩ := h1
    have hb5 : b < 5 := by omega
    refine ⟨(nI (smE (jyE T b) 10), T), (nI (smE (jyE T b) 10), U), ?_, ?_, rfl, hI2⟩
    · unfold X_happy
      rw [if_neg gx, hT, bnd_ss]
      have hl : lp (σ := Int32 × Int32) (fun q => X_happy_L20 T (nI b) q.1 q.2) FZ (0, 0) = some ((nI (smE (jyE T b) 10), nI 10), 1) := by
        refine lp_1 (fun j => (nI (smE (jyE T b) j), nI j)) 10 rfl ?_ ?_ (by decide)
        · intro j hj
          dsimp only
          unfold X_happy_L20
          rw [if_neg (by rw [n_10]; try simp (disch := omega) only [↓m_1, n_0, n_1, n_2, n_3, n_4, n_5, n_6, n_7, n_8, n_9, n_10, n_16, n_20, n_24, n_31, n_32, n_48, n_52, n_57, n_59, n_60, n_64, n_100, n_1024, nI_add, pk_mul, pk_sub, leI_t, leI_f, ltI_t, ltI_f, eqI_t, eqI_f, geM_t, eqM_f, eqM_g, ltM_f, ltM_t, leM_f, inb_nI, ix_nI, chk_tt, bnd_ss, up_ne, up_self, up_oth, if_true, if_false, reduceCtorEq, Nat.succ_ne_zero]; exact fun g => g), chk_t (inb_nI hj (by decide)), ix_nI (by omega), joyBy_t hI hO hb5 hj, bnd_ss, nI_1, nI_add]
          rfl
        · dsimp only
          unfold X_happy_L20
          rw [if_pos (by decide)]
      rw [hl, bnd_ss]
      rfl
    · show M_happy T _ = _
      unfold M_happy
      rw [hU, bnd_ss, if_neg gm, n_0, happyOf_t hI hM hb5 (by omega), bnd_ss, smE_congr 10 (fun e _ => by rw [if_neg (by rw [Nat.zero_testBit]; decide)])]
  · obtain ⟨U, hU, hI, -⟩ := MF h
    refine ⟨(-2, S), (-2, U), ?_, ?_, rfl, Inv_next hI⟩
    · unfold X_happy
      rw [if_pos (show X_isBidder a1 = 0 from xw_f h1 (by decide))]
    · show M_happy S _ = _
      unfold M_happy
      rw [hU, bnd_ss, if_pos (show M_isBidder a1 = 0 from mi_f h1 (by decide))]
