/-! ===== read ===== -/
theorem mval_t {V : St} {b j : Nat} (hb : b < 5) (hj : j < 10) {v : Int32} (hv : sm v 99) : M_value V (nI b) (nI j) v = some (V 58 (10 * b + j), up V 58 (10 * b + j) v) := by
  have h1 : sm (nI b) 4 := ⟨b, by omega, rfl⟩
  have h2 : sm (nI j) 9 := ⟨j, by omega, rfl⟩
  unfold M_value M_isBidder M_isEvening
  rw [if_neg (by rw [show M_in (nI b).toInt64 0 4 = 1 from mi_t h1 (by decide)]; exact n10), if_neg (by rw [show M_in (nI j).toInt64 0 9 = 1 from mi_t h2 (by decide)]; exact n10), if_neg (by rw [show M_in v.toInt64 0 99 = 1 from mi_t hv (by decide)]; exact n10), bnd_t (tel_t (j := 10 * b + j) (ten_mul b j) (by omega) (by decide))]
theorem mval_f {V : St} {b : Nat} {x v : Int32} (hb : b < 5) (h : ¬ sm x 9 ∨ ¬ sm v 99) : M_value V (nI b) x v = some (-2, V) := by
  have h1 : sm (nI b) 4 := ⟨b, by omega, rfl⟩
  unfold M_value M_isBidder M_isEvening
  rw [if_neg (by rw [show M_in (nI b).toInt64 0 4 = 1 from mi_t h1 (by decide)]; exact n10)]
  by_cases c : M_in x.toInt64 0 9 = 0
  · rw [if_pos c]
  · rw [if_neg c, if_pos]
    rcases h with h | h
    · exact absurd (mi_f h (by decide)) c
    · exact mi_f h (by decide)
theorem op_read {w : gw} {S : St} {i : Nat} (h : Inv w S i) (hi : i < 512) (a1 : Int32) (a2 : Int32) : ∃ z1 z2, X_read w S a1 a2 = some z1 ∧ M_read z1.2 a1 a2 = some z2 ∧ z1.1 = z2.1 ∧ Inv w z2.2 (i + 1) := by
  rcases sm_or a1 3 with h1 | h1
  · obtain ⟨s, hs, rfl⟩ := h1
    have hs4 : s < 4 := by omega
    obtain ⟨gx, gm⟩ := isS_t hs4
    rcases sm_or a2 4 with h2 | h2
    · have gm2 : ¬ M_isBidder a2 = 0 := by rw [show M_isBidder a2 = 1 from mi_t h2 (by decide)]; exact n10
      obtain ⟨b, hb, rfl⟩ := h2
      have hb5 : b < 5 := by omega
      rcases sh_get h hs4 with ⟨g1, g2⟩ | ⟨k, n, f, g1, g2, g3, g4, g5, g6, g7, g8, g9, g10⟩
      · refine ⟨(-10 - 1, up S 0 8 1), (-10 - 1, up (up S 0 8 1) 49 4 1), ?_, ?_, rfl, fnd_inv h⟩
        · unfold X_read X_finding
          rw [if_neg gx, if_neg (isB_t hb5), chk_t (inb_nI (by omega) (by decide)), ix_nI (by omega), g1, if_pos neg1_lt, bnd_ss]
        · show M_read (up S 0 8 1) _ _ = _
          unfold M_read M_met
          rw [if_neg gm, if_neg gm2, chk_t (inb_nI (by omega) (by decide)), ix_nI (by omega), up_ne (by decide), g2, if_neg neg1_ge, bnd_ss]
      · have k73 := g2.1
        obtain ⟨P, hP⟩ : ∃ P : Nat → Bool, P = fun j => decide (X_isValue (S (k + 1) j) = 0) := ⟨_, rfl⟩
        have hPj : ∀ j, (P j = true ↔ X_isValue (S (k + 1) j) = 0) := fun j => by rw [hP]; exact decide_eq_true_iff
        obtain ⟨M, hM⟩ : ∃ M, M = min n 10 := ⟨_, rfl⟩
        obtain ⟨m, hm⟩ : ∃ m, m = fe P M := ⟨_, rfl⟩
        have hmM : m ≤ M := by rw [hm]; exact fe_le P M
        have hno : ∀ j, j < m → sm (S (k + 1) j) 99 := fun j hj => Classical.byContradiction fun q => fe_no P M j (by omega) ((hPj j).mpr (xw_f q (by decide)))
        have hyes : m < M → ¬ sm (S (k + 1) m) 99 := fun hlt q => by
          have e := (hPj m).mp (by rw [hm]; exact fe_yes P M (by omega))
          rw [show X_isValue (S (k + 1) m) = 1 from xw_t q (by decide)] at e
          exact n10 e
        obtain ⟨q, hq, c1, c2, c3, c4, c5, c6⟩ := lp_cnt (st := fun q : Int32 × St => X_read_L49 w q.2 (nI b) k (nI M) q.1) (fun j q => q.1 = nI j ∧ (∀ r, r ≠ 0 → r ≠ 5 + b → q.2 r = S r) ∧ (∀ c, c ≠ 9 → q.2 0 c = S 0 c) ∧ q.2 0 9 = S 0 9 + nI j ∧ (∀ e, e < j → q.2 (5 + b) e = S (k + 1) e) ∧ ∀ e, j ≤ e → q.2 (5 + b) e = S (5 + b) e) m (by omega) (q0 := (0, S)) ⟨rfl, fun _ _ _ => rfl, fun _ _ => rfl, by show S 0 9 = S 0 9 + nI 0; rw [nI_0, Int32.add_zero], fun e he => absurd he (Nat.not_lt_zero e), fun _ _ => rfl⟩ (fun j q hj hq => by
          obtain ⟨a, V⟩ := q
          obtain ⟨d1, d2, d3, d4, d5, d6⟩ := hq
          have d1 : a = nI j := d1
          subst d1
          have d2 : ∀ r, r ≠ 0 → r ≠ 5 + b → V r = S r := d2
          have d4 : V 0 9 = S 0 9 + nI j := d4
          have ev : V (k + 1) = S (k + 1) := d2 (k + 1) (by omega) (by omega)
          try dsimp only
          unfold X_read_L49
          rw [if_neg (nI_ge (by omega) (by omega)), g4, chk_t (inb_nI (show j < n by omega) (by omega)), ix_nI (by omega), ev, if_neg (by rw [show X_isValue (S (k + 1) j) = 1 from xw_t (hno j hj) (by decide)]; exact n10), chk_t (inb_nI hb5 (by decide)), chk_t (inb_nI (show j < n by omega) (by omega)), ix_nI (by omega), bnd_t (rep_t (S := V) (K := 5 + b) (n := 10) (j := j) (x := nI j) (v := S (k + 1) j) rfl (by omega) (by decide) (by omega)), nI_1]
          refine ⟨_, rfl, rfl, fun r x y => ?_, fun c hc => ?_, ?_, fun e he => ?_, fun e he => ?_⟩
          · show up (up V (5 + b) j _) 0 9 _ r = S r
            rw [up_ne x, up_ne y, d2 r x y]
          · show up (up V (5 + b) j _) 0 9 _ 0 c = S 0 c
            rw [up_oth hc, up_ne (by omega)]; exact d3 c hc
          · show up (up V (5 + b) j (S (k + 1) j)) 0 9 (V 0 9 + 1) 0 9 = S 0 9 + nI (j + 1)
            rw [up_self, d4, Int32.add_assoc, nI_1]
          · show up (up V (5 + b) j _) 0 9 _ (5 + b) e = _
            rw [up_ne (by omega)]
            by_cases c : e = j
            · rw [c, up_self]
            · rw [up_oth c]; exact d5 e (by omega)
          · show up (up V (5 + b) j _) 0 9 _ (5 + b) e = _
            rw [up_ne (by omega), up_oth (by omega)]; exact d6 e (by omega)) (fun q hq => by
          obtain ⟨a, V⟩ := q
          obtain ⟨d1, d2, -⟩ := hq
          have d1 : a = nI m := d1
          subst d1
          have d2 : ∀ r, r ≠ 0 → r ≠ 5 + b → V r = S r := d2
          try dsimp only
          unfold X_read_L49
          by_cases c : m = M
          · rw [if_pos (nI_le (by omega) (by omega))]
          · rw [if_neg (nI_ge (by omega) (by omega)), g4, chk_t (inb_nI (show m < n by omega) (by omega)), ix_nI (by omega), d2 (k + 1) (by omega) (by omega), if_pos (show X_isValue (S (k + 1) m) = 0 from xw_f (hyes (by omega)) (by decide))])
        obtain ⟨a, V⟩ := q
        have c1 : a = nI m := c1
        subst c1
        have c2 : ∀ r, r ≠ 0 → r ≠ 5 + b → V r = S r := c2
        have c3 : ∀ c, c ≠ 9 → V 0 c = S 0 c := c3
        have c4 : V 0 9 = S 0 9 + nI m := c4
        have c5 : ∀ e, e < m → V (5 + b) e = S (k + 1) e := c5
        have c6 : ∀ e, m ≤ e → V (5 + b) e = S (5 + b) e := c6
        have hX : X_read w S (nI s) (nI b) = some (nI m, V) := by
          unfold X_read X_read_J98
          rw [if_neg gx, if_neg (isB_t hb5), chk_t (inb_nI (by omega) (by decide)), ix_nI (show s < 2 ^ 31 by omega), g1, if_neg (nI_pos (by omega)), chk_t (shB_t g2 g3), ix_nI (show k < 2 ^ 31 by omega), g4, mn10 g5, ← hM, hq, bnd_ss]
        have vl := fun e (he : e < 10) => Inv_vl h hb5 he
        obtain ⟨q, hq2, e1, e2, e3, e4⟩ := lp_cnt (st := fun q : Int32 × St => M_read_L34 q.2 (nI s) (nI b) q.1) (fun j q => q.1 = nI j ∧ (∀ r, r ≠ 58 → q.2 r = V r) ∧ (∀ e, e < j → q.2 58 (10 * b + e) = S (k + 1) e) ∧ ∀ p, (p < 10 * b ∨ 10 * b + j ≤ p) → q.2 58 p = S 58 p) m (by omega) (q0 := (0, V)) ⟨rfl, fun _ _ => rfl, fun e he => absurd he (Nat.not_lt_zero e), fun p _ => by show V 58 p = S 58 p; rw [c2 58 (by decide) (by omega)]⟩ (fun j q hj hq => by
          obtain ⟨a, W⟩ := q
          obtain ⟨d1, d2, d3, d4⟩ := hq
          have d1 : a = nI j := d1
          subst d1
          have d2 : ∀ r, r ≠ 58 → W r = V r := d2
          have d4 : ∀ p, (p < 10 * b ∨ 10 * b + j ≤ p) → W 58 p = S 58 p := d4
          have w51 : W 51 s = nI n := by rw [d2 51 (by decide), c2 51 (by decide) (by omega)]; exact g9
          have w52 : W 52 (60 * s + j) = S (k + 1) j := by rw [d2 52 (by decide), c2 52 (by decide) (by omega)]; exact (g10 j (by omega)).symm
          have vj := vl j (by omega)
          try dsimp only
          unfold M_read_L34
          rw [chk_t (inb_nI hs4 (by decide)), ix_nI (show s < 2 ^ 31 by omega), w51, if_neg (nI_ge (by omega) (by omega)), sixty, chk_t (inb_nI (show 60 * s + j < 240 by omega) (by decide)), ix_nI (show 60 * s + j < 2 ^ 31 by omega), w52, mval_t hb5 (by omega) (hno j hj), bnd_ss, d4 _ (by omega), vj.1, nI_1]
          try dsimp only
          rw [if_neg (nI_pos (by omega))]
          refine ⟨_, rfl, rfl, fun r x => ?_, fun e he => ?_, fun p hp => ?_⟩
          · show up W 58 _ _ r = V r
            rw [up_ne x, d2 r x]
          · show up W 58 _ _ 58 _ = _
            by_cases c : e = j
            · rw [c, up_self]
            · rw [up_oth (by omega)]; exact d3 e (by omega)
          · show up W 58 _ _ 58 p = _
            rw [up_oth (by omega)]; exact d4 p (by omega)) (fun q hq => by
          obtain ⟨a, W⟩ := q
          obtain ⟨d1, d2, -⟩ := hq
          have d1 : a = nI m := d1
          subst d1
          have d2 : ∀ r, r ≠ 58 → W r = V r := d2
          have w51 : W 51 s = nI n := by rw [d2 51 (by decide), c2 51 (by decide) (by omega)]; exact g9
          try dsimp only
          unfold M_read_L34
          rw [chk_t (inb_nI hs4 (by decide)), ix_nI (show s < 2 ^ 31 by omega), w51]
          by_cases c : n ≤ m
          · rw [if_pos (nI_le c (by omega))]
          · have w52 : W 52 (60 * s + m) = S (k + 1) m := by rw [d2 52 (by decide), c2 52 (by decide) (by omega)]; exact (g10 m (by omega)).symm
            rw [if_neg (nI_ge (by omega) (by omega)), sixty, chk_t (inb_nI (show 60 * s + m < 240 by omega) (by decide)), ix_nI (show 60 * s + m < 2 ^ 31 by omega), w52, mval_f hb5 (by
              by_cases d : m = M
              · refine Or.inl ?_
                rintro ⟨v, v1, v2⟩
                have := (nI_eq (by omega) (by omega)).mp v2
                omega
              · exact Or.inr (hyes (by omega))), bnd_ss]
            try dsimp only
            rw [if_pos (by decide)])
        obtain ⟨a, W⟩ := q
        have e1 : a = nI m := e1
        subst e1
        have e2 : ∀ r, r ≠ 58 → W r = V r := e2
        have e3 : ∀ e, e < m → W 58 (10 * b + e) = S (k + 1) e := e3
        have e4 : ∀ p, (p < 10 * b ∨ 10 * b + m ≤ p) → W 58 p = S 58 p := e4
        have hMr : M_read V (nI s) (nI b) = some (nI m, W) := by
          unfold M_read M_read_J70
          rw [if_neg gm, if_neg gm2, chk_t (inb_nI hs4 (by decide)), ix_nI (by omega), c2 50 (by decide) (by omega), g7, if_pos (nI_pos' (by omega)), hq2, bnd_ss]
        refine ⟨_, (nI m, W), hX, hMr, rfl, ?_⟩
        show Inv w W (i + 1)
        have wr : ∀ r, r ≠ 0 → r ≠ 5 + b → r ≠ 58 → W r = S r := fun r x y z => by rw [e2 r z, c2 r x y]
        have hw : ∀ r, r ≠ 0 → r ≠ 5 + b → r ≠ 58 → msk W r = msk S r := fun r x y z => by
          unfold msk
          rw [wr r x y z, wr 49 (by decide) (by omega) (by decide)]
        obtain ⟨h0, k1, k2, k3, k4, k5, k7⟩ := id h
        have w08 : msk W 0 8 = msk S 0 8 := by show W 0 8 = S 0 8; rw [e2 0 (by decide), c3 8 (by decide)]
        have w09 : msk W 0 9 = msk S 0 9 + nI m := by show W 0 9 = S 0 9 + nI m; rw [e2 0 (by decide), c4]
        have hCf : Cf (msk W) := by
          obtain ⟨q1, q2, q3, q4, q5, q6, q7, q8, q9, q10⟩ := k1
          refine ⟨?_, ?_, fun b' e hb' he => ?_, ?_, ?_, ?_, ?_, ?_, ?_, ?_⟩
          · rw [hw 2 (by decide) (by omega) (by decide), hw 56 (by decide) (by omega) (by decide)]; exact q1
          · rw [hw 3 (by decide) (by omega) (by decide), hw 57 (by decide) (by omega) (by decide)]; exact q2
          · have ho := q3 b' e hb' he
            rw [mk_row S (by omega)] at ho
            have ho : S (5 + b') e = S 58 (10 * b' + e) ∧ sm (S 58 (10 * b' + e)) 99 := ho
            rw [mk_row W (by omega)]
            show W (5 + b') e = W 58 (10 * b' + e) ∧ sm (W 58 (10 * b' + e)) 99
            by_cases cb : b' = b
            · subst cb
              rw [e2 _ (by omega)]
              by_cases ce : e < m
              · rw [c5 e ce, e3 e ce]; exact ⟨rfl, hno e ce⟩
              · rw [c6 e (by omega), e4 _ (by omega)]; exact ho
            · rw [wr _ (by omega) (by omega) (by omega), e4 _ (by omega)]; exact ho
          · intro b' p hb' hp
            rw [hw (11 + b') (by omega) (by omega) (by omega), hw 59 (by decide) (by omega) (by decide)]; exact q4 b' p hb' hp
          · intro b' hb'
            rw [hw (17 + b') (by omega) (by omega) (by omega), hw 63 (by decide) (by omega) (by decide)]; exact q5 b' hb'
          · rw [hw 22 (by decide) (by omega) (by decide), hw 60 (by decide) (by omega) (by decide)]; exact q6
          · rw [hw 23 (by decide) (by omega) (by decide), hw 61 (by decide) (by omega) (by decide)]; exact q7
          · rw [hw 24 (by decide) (by omega) (by decide), hw 62 (by decide) (by omega) (by decide)]; exact q8
          · rw [hw 24 (by decide) (by omega) (by decide), hw 62 (by decide) (by omega) (by decide)]; exact q9
          · rw [hw 24 (by decide) (by omega) (by decide), hw 62 (by decide) (by omega) (by decide)]; exact q10
        refine ⟨w48_of h0 (hw 48 (by decide) (by omega) (by decide)), hCf, Tx_of k2 (by rw [hw 25 (by decide) (by omega) (by decide)]) (by rw [hw 49 (by decide) (by omega) (by decide)]) (hw 26 (by decide) (by omega) (by decide)) (hw 54 (by decide) (by omega) (by decide)), Sg_of k3 (by rw [hw 45 (by decide) (by omega) (by decide)]) (by rw [hw 49 (by decide) (by omega) (by decide)]) (hw 46 (by decide) (by omega) (by decide)) (hw 67 (by decide) (by omega) (by decide)) (by rw [hw 45 (by decide) (by omega) (by decide)]), Sh_of k4 (hw 48 (by decide) (by omega) (by decide)) (hw 50 (by decide) (by omega) (by decide)) (hw 51 (by decide) (by omega) (by decide)) (hw 52 (by decide) (by omega) (by decide)) (fun r hr => hw r (by omega) (by omega) (by omega)), ?_, ?_⟩
        · rw [w08, hw 49 (by decide) (by omega) (by decide)]; exact k5
        · by_cases cm : m = 0
          · refine Ed_of (Ed_next k7) (by rw [w09, cm, nI_0, Int32.add_zero]) (fun r hr => ?_) (by rw [hw 49 (by decide) (by omega) (by decide)])
            by_cases c58 : r = 58
            · rw [c58]
              show W 58 = S 58
              funext p
              exact e4 p (by omega)
            · exact hw r (by omega) (by omega) c58
          · exact Ed_up (d := m) k7 hi ⟨by omega, by omega⟩ w09 (by rw [hw 27 (by decide) (by omega) (by decide)]) (by rw [hw 39 (by decide) (by omega) (by decide)]) (by rw [hw 43 (by decide) (by omega) (by decide)])
    · refine ⟨(-2, S), (-2, S), ?_, ?_, rfl, Inv_next h⟩
      · unfold X_read
        rw [if_neg gx, if_pos (show X_isBidder a2 = 0 from xw_f h2 (by decide))]
      · show M_read S _ _ = _
        unfold M_read
        rw [if_neg gm, if_pos (show M_isBidder a2 = 0 from mi_f h2 (by decide))]
  · refine ⟨(-2, S), (-2, S), ?_, ?_, rfl, Inv_next h⟩
    · unfold X_read
      rw [if_pos (show X_isSheet a1 = 0 from xw_f h1 (by decide))]
    · show M_read S _ _ = _
      unfold M_read
      rw [if_pos (show M_isSheet a1 = 0 from mi_f h1 (by decide))]
