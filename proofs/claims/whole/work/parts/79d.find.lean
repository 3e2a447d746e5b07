/-! ===== the class's outcome, the reference's finding ===== -/
theorem sm_nI {x : Int32} {hi : Nat} (h : sm x hi) (hh : hi < 2147483648) : x = nI (ix x) ∧ ix x ≤ hi := by
  obtain ⟨v, hv, rfl⟩ := h
  rw [ix_nI (by omega)]
  exact ⟨rfl, hv⟩
theorem msk_eq {S T : St} (h : ∀ r, scr r = false → r ≠ 49 → T r = S r) (h49 : ∀ j, j ≠ 7 → j ≠ 8 → j ≠ 20 → T 49 j = S 49 j) : msk T = msk S := by
  funext r
  by_cases hr : r = 49
  · subst hr
    funext j
    show cond (Nat.beq j 7 || Nat.beq j 8 || Nat.beq j 20) 0 (T 49 j) = cond (Nat.beq j 7 || Nat.beq j 8 || Nat.beq j 20) 0 (S 49 j)
    by_cases c : (Nat.beq j 7 || Nat.beq j 8 || Nat.beq j 20) = true
    · rw [c]; rfl
    · rw [h49 j (fun g => c (by rw [g]; rfl)) (fun g => c (by rw [g]; rfl)) (fun g => c (by rw [g]; rfl))]
  · cases hs : scr r with
    | true =>
      unfold msk
      rw [hs]
      rfl
    | false => rw [msk_at hs hr, msk_at hs hr, h r hs hr]
/-- what the judging rests on, of a state -/
def tX (S : St) : Nat → Nat := nR (S 54)
def pX (S : St) : Nat → Nat := nR (S 56)
def rX (S : St) : Nat → Nat := nR (S 60)
def sX (S : St) : Nat := ix (S 62 0)
def nX (S : St) : Nat := ix (S 49 6)
def NX (S : St) : Nat := nb (tX S) (nX S)
noncomputable def lX (S : St) : Nat → Nat := jl (tX S) (pX S) (rX S) (sX S) 1000 (NX S)
theorem Inv_tx {w : gw} {S : St} {i : Nat} (h : Inv w S i) : nX S ≤ 100 ∧ S 49 6 = nI (nX S) ∧ S 25 1 = nI (nX S) ∧ (∀ j, j < nX S → S 54 j = nI (tX S j) ∧ tX S j ≤ 255) ∧ (∀ j, j < nX S → S 26 j = nI (tX S j) ∧ tX S j ≤ 255) := by
  obtain ⟨n, hn, h1, h2, h3⟩ := h.2.2.1
  have h1 : S 25 1 = nI n := h1
  have h2 : S 49 6 = nI n := h2
  have h3 : ∀ j, j < n → S 26 j = S 54 j ∧ sm (S 54 j) 255 := h3
  have e : nX S = n := by unfold nX; rw [h2, ix_nI (by omega)]
  rw [e]
  refine ⟨hn, h2, h1, fun j hj => ?_, fun j hj => ?_⟩
  · exact sm_nI (h3 j hj).2 (by omega)
  · have := sm_nI (h3 j hj).2 (by omega)
    exact ⟨(h3 j hj).1.trans this.1, this.2⟩
theorem Inv_pn {w : gw} {S : St} {i : Nat} (h : Inv w S i) : PN S (pX S) (rX S) (sX S) ∧ PNX S (pX S) (rX S) (sX S) ∧ 1 ≤ sX S := by
  obtain ⟨h1, -, -, -, -, h6, -, h8, -⟩ := h.2.1
  have h1 : ∀ b, b < 5 → S 2 b = S 56 b ∧ sm (S 56 b) 999 := h1
  have h6 : ∀ e, e < 10 → S 22 e = S 60 e ∧ sm (S 60 e) 99 := h6
  obtain ⟨h8, v, v1, v2, v3⟩ := h8
  have h8 : S 24 0 = S 62 0 := h8
  have v3 : S 62 0 = nI v := v3
  have es : sX S = v := by unfold sX; rw [v3, ix_nI (by omega)]
  rw [es]
  refine ⟨⟨fun b hb => sm_nI (h1 b hb).2 (by omega), fun e he => sm_nI (h6 e he).2 (by omega), v3, v2⟩, ⟨fun b hb => ?_, fun e he => ?_, h8.trans v3, v2⟩, v1⟩
  · have := sm_nI (h1 b hb).2 (by omega)
    exact ⟨(h1 b hb).1.trans this.1, this.2⟩
  · have := sm_nI (h6 e he).2 (by omega)
    exact ⟨(h6 e he).1.trans this.1, this.2⟩
def FrX (S T : St) : Prop := (∀ r, r ≠ 25 → r ≠ 27 → r ≠ 28 → r ≠ 29 → r ≠ 30 → r ≠ 31 → r ≠ 32 → T r = S r) ∧ T 25 1 = S 25 1
theorem XJ {w : gw} {S : St} {i : Nat} (h : Inv w S i) (hi : i < 513) : ∃ T, X_judgedOutcome S = some T ∧ Inv w T i ∧ OcOK T ∧ FrX S T := by
  obtain ⟨t1, t2, t3, t4, t5⟩ := Inv_tx h
  obtain ⟨p1, p2, p3⟩ := Inv_pn h
  obtain ⟨h0, h1, h2, h3, h4, h5, ed, a1, a2, a3, ⟨e1, b1, b2, b3⟩, ⟨e2, c1, c2, c3⟩, ⟨e3, d1, d2, d3⟩⟩ := id h
  have a3 : S 0 9 = nI ed := a3
  have b2 : S 27 7 = nI e1 := b2
  unfold X_judgedOutcome
  by_cases c : e1 = ed
  · rw [b2, a3, if_pos (by rw [c])]
    exact ⟨S, rfl, h, b3 c, fun _ _ _ _ _ _ _ _ => rfl, rfl⟩
  · rw [b2, a3, if_neg (by rw [nI_eq (by omega) (by omega)]; exact c)]
    obtain ⟨T, hT, g1, g2, g3, g4⟩ := BT_parse_t (tx := tX S) t1 t3 t5
    rw [hT, bnd_ss]
    have hpT : PNX T (pX S) (rX S) (sX S) := by
      unfold PNX
      rw [g4 2 (by decide), g4 22 (by decide), g4 24 (by decide)]
      exact p2
    have hb20 := nb_le (tx := tX S) t1
    obtain ⟨U, hU, k1, k2, k3, k4, k5, k6, k7⟩ := judge_t (S := T) (tx := tX S) (ex := 1000) t1 g2 (by rw [g4 26 (by decide)]; exact t5) hpT (x1 := -1) (fun k hk => by
      rw [m_1, eqM_f (by omega)]
      exact ⟨fun g => g.elim, fun g => by omega⟩)
    rw [hU, bnd_ss]
    have r25 : U 25 = T 25 := k1 25 (by decide) (by decide) (by decide) (by decide) (by decide) (by decide)
    have hU0 : U 0 9 = nI ed := by rw [k1 0 (by decide) (by decide) (by decide) (by decide) (by decide) (by decide), g4 0 (by decide)]; exact a3
    generalize hV : up U 27 7 (U 0 9) = V
    have v : ∀ r, r ≠ 25 → r ≠ 27 → r ≠ 28 → r ≠ 29 → r ≠ 30 → r ≠ 31 → r ≠ 32 → V r = S r := by
      intro r x1 x2 x3 x4 x5 x6 x7
      rw [← hV, up_ne x2, k1 r x2 x3 x4 x5 x6 x7, g4 r x1]
    have vn : ∀ r, r ≠ 27 → V r = U r := fun r hr => by rw [← hV, up_ne hr]
    have v25 : V 25 1 = S 25 1 := by rw [vn 25 (by decide), r25, g3, t3]
    have hOc : OcOK V := by
      unfold OcOK
      rw [v 54 (by decide) (by decide) (by decide) (by decide) (by decide) (by decide) (by decide), v 56 (by decide) (by decide) (by decide) (by decide) (by decide) (by decide) (by decide), v 60 (by decide) (by decide) (by decide) (by decide) (by decide) (by decide) (by decide), v 62 (by decide) (by decide) (by decide) (by decide) (by decide) (by decide) (by decide), v 49 (by decide) (by decide) (by decide) (by decide) (by decide) (by decide) (by decide), vn 25 (by decide), r25, vn 28 (by decide), vn 29 (by decide), vn 30 (by decide), vn 31 (by decide), vn 32 (by decide)]
      refine ⟨g1, g2, k3, k4, k5, ?_, ?_⟩
      · rw [← hV, up_oth (by decide)]; exact k6
      · rw [← hV, up_oth (by decide)]; exact k7 (fun k hk => by omega)
    have hm : ∀ r, r ≠ 25 → r ≠ 27 → r ≠ 28 → r ≠ 29 → r ≠ 30 → r ≠ 31 → r ≠ 32 → msk V r = msk S r := by
      intro r x1 x2 x3 x4 x5 x6 x7
      unfold msk
      rw [v r x1 x2 x3 x4 x5 x6 x7, v 49 (by decide) (by decide) (by decide) (by decide) (by decide) (by decide) (by decide)]
    have h49 : ∀ j, msk V 49 j = msk S 49 j := fun j => by rw [hm 49 (by decide) (by decide) (by decide) (by decide) (by decide) (by decide) (by decide)]
    have hx : ∀ r, r < 25 ∨ 33 ≤ r ∨ r = 26 → msk V r = msk S r := fun r hr => hm r (by omega) (by omega) (by omega) (by omega) (by omega) (by omega) (by omega)
    refine ⟨V, rfl, ⟨w48_of h0 (hx 48 (by omega)), Cf_of h1 (fun k hk => hx k (by omega)) (fun k hk hk2 => hx k (by omega)), Tx_of h2 v25 (h49 6) (hx 26 (by omega)) (hx 54 (by omega)), Sg_of h3 (by rw [hx 45 (by omega)]) (h49 22) (hx 46 (by omega)) (hx 67 (by omega)) (by rw [hx 45 (by omega)]), Sh_of h4 (hx 48 (by omega)) (hx 50 (by omega)) (hx 51 (by omega)) (hx 52 (by omega)) (fun k hk => hx k (by omega)), ?_, ed, a1, a2, ?_, ⟨ed, Nat.le_refl _, ?_, fun _ => hOc⟩, ⟨e2, c1, ?_, fun q => ?_⟩, ⟨e3, d1, ?_, fun q => ?_⟩⟩, hOc, v, v25⟩
    · rw [hx 0 (by omega), h49 4]; exact h5
    · rw [hx 0 (by omega)]; exact a3
    · show V 27 7 = _
      rw [← hV, up_self]; exact hU0
    · rw [hx 39 (by omega)]; exact c2
    · have := c3 q
      unfold OeOK at this ⊢
      rw [hx 39 (by omega), hx 41 (by omega), hx 42 (by omega), hx 58 (by omega)]
      exact this
    · rw [hx 43 (by omega)]; exact d2
    · have := d3 q
      unfold ClOK at this ⊢
      rw [hx 44 (by omega), hx 58 (by omega), hx 60 (by omega)]
      exact this
def FrM (S T : St) : Prop := (∀ r, r ≠ 49 → r ≠ 55 → r ≠ 64 → r ≠ 65 → T r = S r) ∧ (∀ j, j ≠ 7 → j ≠ 8 → j ≠ 20 → T 49 j = S 49 j)
/-- the reference's rows, found of S -/
def MFs (S U : St) : Prop := FrM S U ∧ U 49 8 = nI (NX S) ∧ JM (tX S) (nX S) U (lX S) ∧ (∀ j, j < NX S → U 65 j = if hld (tX S) (pX S) (rX S) (sX S) 1000 j = true then 1 else 0) ∧ U 49 20 = (if fn (tX S) (pX S) (rX S) (sX S) 1000 (NX S) = 0 then mI else nI (fn (tX S) (pX S) (rX S) (sX S) 1000 (NX S) - 1))
theorem FrM_inv {w : gw} {S T : St} {i : Nat} (h : FrM S T) (hI : Inv w S i) : Inv w T i := by
  refine Inv_msk (msk_eq (fun r hr h49 => ?_) h.2) hI
  exact h.1 r h49 (fun g => by rw [g] at hr; cases hr) (fun g => by rw [g] at hr; cases hr) (fun g => by rw [g] at hr; cases hr)
theorem MR {w : gw} {S : St} {i : Nat} (h : Inv w S i) : ∃ z, M_reads S = some z ∧ z.1 = flt (tX S) (nX S) ∧ FrR S z.2 ∧ z.2 49 8 = nI (NX S) ∧ ent (tX S) (z.2 55) (NX S) := by
  obtain ⟨t1, t2, t3, t4, t5⟩ := Inv_tx h
  exact reads_t t1 t4 t2
theorem PN_of {S T : St} {pu rs : Nat → Nat} {st : Nat} (h : PN S pu rs st) (h1 : T 56 = S 56) (h2 : T 60 = S 60) (h3 : T 62 = S 62) : PN T pu rs st := by
  unfold PN
  rw [h1, h2, h3]
  exact h
theorem MF {w : gw} {S : St} {i : Nat} (h : Inv w S i) : ∃ U, M_find S = some U ∧ Inv w U i ∧ MFs S U := by
  obtain ⟨t1, t2, t3, t4, t5⟩ := Inv_tx h
  obtain ⟨p1, p2, p3⟩ := Inv_pn h
  obtain ⟨z, hz, z1, z2, z3, z4⟩ := MR h
  have hb20 := nb_le (tx := tX S) t1
  have hpz : PN z.2 (pX S) (rX S) (sX S) := PN_of p1 (z2.1 56 (by decide) (by decide)) (z2.1 60 (by decide) (by decide)) (z2.1 62 (by decide) (by decide))
  obtain ⟨U, hU, ⟨l1, l2⟩, l3, l4, l5⟩ := looks_t (tx := tX S) (pu := pX S) (rs := rX S) (st := sX S) (ex := 1000) t1 z4 hpz z3 (x1 := -1) (fun k hk => by
    rw [m_1, eqM_f (by omega)]
    exact ⟨fun g => g.elim, fun g => by omega⟩)
  have hF : FrM S U := ⟨fun r a b c d => by rw [l1 r a c d, z2.1 r a b], fun j a b c => by rw [l2 j c, z2.2 j a b]⟩
  unfold M_find
  rw [hz, bnd_ss, hU, bnd_ss]
  refine ⟨U, rfl, FrM_inv hF h, hF, by rw [l2 8 (by decide)]; exact z3, ⟨t1, by rw [l1 55 (by decide) (by decide) (by decide)]; exact z4, l3, fun e => ?_⟩, l4, l5⟩
  exact (jl_rng _ _ _ _ _ _ e).1
/-- both: the class's state T, the reference's U found of it -/
theorem XMf {w : gw} {S : St} {i : Nat} (h : Inv w S i) (hi : i < 512) : ∃ T U, X_judgedOutcome S = some T ∧ M_find T = some U ∧ Inv w T i ∧ Inv w U (i + 1) ∧ OcOK T ∧ MFs T U := by
  obtain ⟨T, h1, h2, h3, h4⟩ := XJ h (by omega)
  obtain ⟨U, g1, g2, g3⟩ := MF h2
  exact ⟨T, U, h1, g1, h2, Inv_next g2, h3, g3⟩
theorem op_fault {w : gw} {S : St} {i : Nat} (h : Inv w S i) (hi : i < 512) : ∃ z1 z2, X_fault S = some z1 ∧ M_fault z1.2 = some z2 ∧ z1.1 = z2.1 ∧ Inv w z2.2 (i + 1) := by
  obtain ⟨T, hT, hI, hO, -⟩ := XJ h (by omega)
  obtain ⟨z, hz, z1, z2, -⟩ := MR hI
  refine ⟨(T 25 2, T), (z.1, z.2), ?_, ?_, ?_, ?_⟩
  · unfold X_fault
    rw [hT, bnd_ss]
  · show M_fault T = _
    unfold M_fault
    rw [hz, bnd_ss]
  · rw [z1]; exact hO.1
  · exact Inv_next (FrM_inv ⟨fun r a b _ _ => z2.1 r a b, fun j a b _ => z2.2 j a b⟩ hI)
theorem op_judged {w : gw} {S : St} {i : Nat} (h : Inv w S i) (hi : i < 512) : ∃ z1 z2, X_judged S = some z1 ∧ M_judged z1.2 = some z2 ∧ z1.1 = z2.1 ∧ Inv w z2.2 (i + 1) := by
  obtain ⟨T, U, hT, hU, hI, hI2, hO, hM⟩ := XMf h hi
  refine ⟨(T 27 6, T), (U 49 20, U), ?_, ?_, ?_, hI2⟩
  · unfold X_judged
    rw [hT, bnd_ss]
  · show M_judged T = _
    unfold M_judged
    rw [hU, bnd_ss]
  · exact hO.2.2.2.2.2.2.trans hM.2.2.2.2.symm
