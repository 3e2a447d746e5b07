/-! ===== clubs ===== -/
theorem lp_s0 {σ : Type} {st : σ → Option (σ × Nat)} {N : Nat} {q q' : σ} (h : st q = some (q', 0)) : lp st (N + 1) q = lp st N q' := by
  have e : lp st (N + 1) q = (match st q with
    | none => none
    | some (q', 0) => lp st N q'
    | some (q', t + 1) => some (q', t + 1)) := rfl
  rw [e, h]
theorem lp_s1 {σ : Type} {st : σ → Option (σ × Nat)} {N t : Nat} {q q' : σ} (h : st q = some (q', t + 1)) : lp st (N + 1) q = some (q', t + 1) := by
  have e : lp st (N + 1) q = (match st q with
    | none => none
    | some (q', 0) => lp st N q'
    | some (q', t + 1) => some (q', t + 1)) := rfl
  rw [e, h]
/-- how many of the bits 0 to 9 -/
def pcN (x : Nat) : Nat := smE (fun e => if x.testBit e = true then 1 else 0) 10
theorem ones_dec : ∀ x : Fin 1024, x.val ≠ 0 → (nI x.val &&& (nI x.val - 1)) = nI (x.val &&& (x.val - 1)) ∧ (x.val &&& (x.val - 1)) < x.val ∧ pcN (x.val &&& (x.val - 1)) + 1 = pcN x.val := by decide +kernel
theorem ones_run : ∀ (m x c N : Nat), x ≤ m → x < 1024 → x < N → lp (σ := Int32 × Int32) (fun q => M_ones_L4 q.1 q.2) N (nI c, nI x) = some ((nI (c + pcN x), nI 0), 1) := by
  have hz : ∀ (c N : Nat), 0 < N → lp (σ := Int32 × Int32) (fun q => M_ones_L4 q.1 q.2) N (nI c, nI 0) = some ((nI (c + pcN 0), nI 0), 1) := by
    intro c N hN
    obtain ⟨M, rfl⟩ : ∃ M, N = M + 1 := ⟨N - 1, by omega⟩
    refine lp_s1 (t := 0) ?_
    try dsimp only
    unfold M_ones_L4
    rw [if_pos nI_0, show pcN 0 = 0 by decide, Nat.add_zero]
  intro m
  induction m with
  | zero =>
    intro x c N hx _ hN
    obtain rfl : x = 0 := by omega
    exact hz c N hN
  | succ m ih =>
    intro x c N hx hx2 hN
    by_cases h0 : x = 0
    · subst h0
      exact hz c N hN
    · obtain ⟨e1, e2, e3⟩ := ones_dec ⟨x, hx2⟩ h0
      have e1 : (nI x &&& (nI x - 1)) = nI (x &&& (x - 1)) := e1
      have e2 : (x &&& (x - 1)) < x := e2
      have e3 : pcN (x &&& (x - 1)) + 1 = pcN x := e3
      obtain ⟨M, rfl⟩ : ∃ M, N = M + 1 := ⟨N - 1, by omega⟩
      rw [lp_s0 (q' := (nI (c + 1), nI (x &&& (x - 1)))) (by
        try dsimp only
        unfold M_ones_L4
        rw [if_neg (nI_ne0 (by omega) (by omega)), e1, nI_1]), ih (x &&& (x - 1)) (c + 1) M (by omega) (by omega) (by omega)]
      rw [show c + 1 + pcN (x &&& (x - 1)) = c + pcN x by omega]
theorem ones_t {x : Nat} (hx : x < 1024) : M_ones (nI x) = some (nI (pcN x)) := by
  unfold M_ones
  have := ones_run x x 0 FZ (Nat.le_refl _) hx (by rw [FZ_eq]; omega)
  rw [show ((0 : Int32), nI x) = (nI 0, nI x) from rfl, this, bnd_ss, Nat.zero_add]
  rfl
def VX (T : St) (va : Nat → Nat → Nat) : Prop := ∀ b e, b < 5 → e < 10 → T (5 + b) e = nI (va b e) ∧ va b e ≤ 99
def VM (T : St) (va : Nat → Nat → Nat) : Prop := ∀ b e, b < 5 → e < 10 → T 58 (10 * b + e) = nI (va b e) ∧ va b e ≤ 99
def RX (T : St) (rs : Nat → Nat) : Prop := ∀ e, e < 10 → T 22 e = nI (rs e) ∧ rs e ≤ 99
def RM (T : St) (rs : Nat → Nat) : Prop := ∀ e, e < 10 → T 60 e = nI (rs e) ∧ rs e ≤ 99
theorem Inv_vv {w : gw} {S : St} {i : Nat} (h : Inv w S i) : VX S (vR (S 58)) ∧ VM S (vR (S 58)) ∧ RX S (rX S) ∧ RM S (rX S) := by
  obtain ⟨p1, p2, -⟩ := Inv_pn h
  exact ⟨fun b e hb he => ⟨(Inv_vl h hb he).2.2, (Inv_vl h hb he).2.1⟩, fun b e hb he => ⟨(Inv_vl h hb he).1, (Inv_vl h hb he).2.1⟩, p2.2.1, p1.2.1⟩
theorem shr_t {B e : Nat} (hB : B < 2147483648) (he : e < 31) : (nI B >>> (nI e &&& 31)) &&& 1 = nI (if B.testBit e = true then 1 else 0) := shr_nI hB he
theorem gvE_le {va : Nat → Nat → Nat} {x e n : Nat} (h : ∀ b, b < n → va b e ≤ 99) : mxE (fun b => if x.testBit b = true then va b e else 0) n 0 ≤ 99 := by
  refine mxE_le (by omega) n (fun b hb => ?_)
  try dsimp only
  split
  · exact h b hb
  · omega
theorem gv_t {T : St} {va : Nat → Nat → Nat} {x e : Nat} (hV : VX T va) (hx : x < 32) (he : e < 10) : CL_greatestValue T (nI x) (nI e) = some (nI (gvE va x e)) := by
  unfold CL_greatestValue
  have hl : lp (σ := Int32 × Int32) (fun q => CL_greatestValue_L5 T (nI x) (nI e) q.1 q.2) FZ (0, 0) = some ((nI (gvE va x e), nI 5), 1) := by
    refine lp_1 (fun j => (nI (mxE (fun b => if x.testBit b = true then va b e else 0) j 0), nI j)) 5 rfl ?_ ?_ (by decide)
    · intro j hj
      try dsimp only
      obtain ⟨v1, v2⟩ := hV j e hj he
      have hg := gvE_le (va := va) (x := x) (e := e) (n := j) (fun b hb => (hV b e (by omega) he).2)
      unfold CL_greatestValue_L5
      rw [if_neg (by rw [n_5]; try simp (disch := omega) only [↓m_1, n_0, n_1, n_2, n_3, n_4, n_5, n_6, n_7, n_8, n_9, n_10, n_16, n_20, n_24, n_31, n_32, n_48, n_52, n_57, n_59, n_60, n_64, n_100, n_1024, nI_add, pk_mul, pk_sub, leI_t, leI_f, ltI_t, ltI_f, eqI_t, eqI_f, geM_t, eqM_f, eqM_g, ltM_f, ltM_t, leM_f, inb_nI, ix_nI, chk_tt, bnd_ss, up_ne, up_self, up_oth, if_true, if_false, reduceCtorEq, Nat.succ_ne_zero]; exact fun g => g), shr_t (by omega) (by omega), nI_1]
      show _ = some ((nI (max (mxE (fun b => if x.testBit b = true then va b e else 0) j 0) (if x.testBit j = true then va j e else 0)), nI (j + 1)), 0)
      by_cases c : x.testBit j = true
      · rw [if_pos c, if_pos (show nI 1 = 1 from rfl), chk_t (inb_nI hj (by decide)), chk_t (inb_nI he (by decide)), ix_nI (by omega), ix_nI (by omega), v1, mx_nI (by omega) (by omega), if_pos c]
      · rw [if_neg c, if_neg (show ¬ nI 0 = 1 by decide), if_neg c, Nat.max_eq_left (Nat.zero_le _)]
    · try dsimp only
      unfold CL_greatestValue_L5
      rw [if_pos (by decide)]
      rfl
  rw [hl, bnd_ss]
  rfl
theorem mx0_sub {a b : Nat} (ha : a ≤ 99) (hb : b ≤ 99) : mx 0 (nI a - nI b) = nI (a - b) := by
  by_cases c : b ≤ a
  · rw [pk_sub c, n_0, mx_nI (by omega) (by omega), Nat.max_eq_right (Nat.zero_le _)]
  · have h := pk_sneg (a := a) (b := b) (by omega) (by omega)
    unfold mx
    rw [if_neg, show a - b = 0 by omega]
    · rfl
    · intro g
      rw [Int32.lt_iff_toInt_lt] at g h
      omega
theorem clubSum_t {T : St} {va : Nat → Nat → Nat} {rs : Nat → Nat} {x : Nat} (hV : VX T va) (hR : RX T rs) (hx : x < 32) : lp (σ := Int32 × Int32) (fun q => CL_valueAll_L13 T (nI x) q.1 q.2) FZ (0, 0) = some ((nI (cw va rs x), nI 10), 1) := by
  refine lp_1 (fun j => (nI (smE (fun e => gvE va x e - rs e) j), nI j)) 10 rfl ?_ ?_ (by decide)
  · intro j hj
    try dsimp only
    obtain ⟨r1, r2⟩ := hR j hj
    have hg : gvE va x j ≤ 99 := gvE_le (fun b hb => (hV b j (by omega) hj).2)
    unfold CL_valueAll_L13
    rw [if_neg (by rw [n_10]; try simp (disch := omega) only [↓m_1, n_0, n_1, n_2, n_3, n_4, n_5, n_6, n_7, n_8, n_9, n_10, n_16, n_20, n_24, n_31, n_32, n_48, n_52, n_57, n_59, n_60, n_64, n_100, n_1024, nI_add, pk_mul, pk_sub, leI_t, leI_f, ltI_t, ltI_f, eqI_t, eqI_f, geM_t, eqM_f, eqM_g, ltM_f, ltM_t, leM_f, inb_nI, ix_nI, chk_tt, bnd_ss, up_ne, up_self, up_oth, if_true, if_false, reduceCtorEq, Nat.succ_ne_zero]; exact fun g => g), gv_t hV hx hj, bnd_ss, chk_t (inb_nI hj (by decide)), ix_nI (by omega), r1, mx0_sub hg r2, nI_add, nI_1]
    rfl
  · try dsimp only
    unfold CL_valueAll_L13
    rw [if_pos (by decide)]
    rfl
theorem valueAll_t {S : St} {va : Nat → Nat → Nat} {rs : Nat → Nat} (hV : VX S va) (hR : RX S rs) : ∃ T, CL_valueAll S = some T ∧ (∀ r, r ≠ 44 → T r = S r) ∧ ∀ x, x < 32 → T 44 x = nI (cw va rs x) := by
  obtain ⟨q, hq, h1, h2, h3⟩ := lp_cnt (st := fun q : Int32 × St => CL_valueAll_L2 q.2 q.1) (fun j q => q.1 = nI j ∧ (∀ r, r ≠ 44 → q.2 r = S r) ∧ ∀ x, x < j → q.2 44 x = nI (cw va rs x)) 32 (by decide) (q0 := (0, S)) ⟨rfl, fun _ _ => rfl, fun x hx => absurd hx (Nat.not_lt_zero x)⟩ (fun j q hj h => by
    obtain ⟨a, T⟩ := q
    obtain ⟨h1, h2, h3⟩ := h
    have h1 : a = nI j := h1
    subst h1
    have h2 : ∀ r, r ≠ 44 → T r = S r := h2
    have h3 : ∀ x, x < j → T 44 x = nI (cw va rs x) := h3
    have hV' : VX T va := fun b e hb he => by rw [h2 (5 + b) (by omega)]; exact hV b e hb he
    have hR' : RX T rs := fun e he => by rw [h2 22 (by omega)]; exact hR e he
    refine ⟨(nI (j + 1), up T 44 j (nI (cw va rs j))), ?_, rfl, fun r hr => ?_, fun x hx => ?_⟩
    · try dsimp only
      unfold CL_valueAll_L2 CL_valueAll_J48
      rw [if_neg (by rw [n_31]; try simp (disch := omega) only [↓m_1, n_0, n_1, n_2, n_3, n_4, n_5, n_6, n_7, n_8, n_9, n_10, n_16, n_20, n_24, n_31, n_32, n_48, n_52, n_57, n_59, n_60, n_64, n_100, n_1024, nI_add, pk_mul, pk_sub, leI_t, leI_f, ltI_t, ltI_f, eqI_t, eqI_f, geM_t, eqM_f, eqM_g, ltM_f, ltM_t, leM_f, inb_nI, ix_nI, chk_tt, bnd_ss, up_ne, up_self, up_oth, if_true, if_false, reduceCtorEq, Nat.succ_ne_zero]; exact fun g => g), clubSum_t hV' hR' hj, bnd_ss, chk_t (inb_nI hj (by decide)), ix_nI (by omega), nI_1]
    · show up T 44 j _ r = S r
      rw [up_ne hr, h2 r hr]
    · show up T 44 j _ 44 x = _
      by_cases hxj : x = j
      · rw [hxj, up_self]
      · rw [up_oth hxj, h3 x (by omega)]) (fun q h => by
    obtain ⟨a, T⟩ := q
    obtain ⟨h1, h2, h3⟩ := h
    have h1 : a = nI 32 := h1
    subst h1
    try dsimp only
    unfold CL_valueAll_L2
    rw [if_pos (by decide)])
  unfold CL_valueAll
  rw [hq, bnd_ss]
  exact ⟨q.2, rfl, h2, h3⟩
theorem XC {w : gw} {S : St} {i : Nat} (h : Inv w S i) (hi : i < 513) : ∃ T, X_valuedClubs S = some T ∧ Inv w T i ∧ ClOK T ∧ (∀ r, r ≠ 43 → r ≠ 44 → T r = S r) := by
  obtain ⟨v1, v2, v3, v4⟩ := Inv_vv h
  obtain ⟨h0, h1, h2, h3, h4, h5, ed, a1, a2, a3, ⟨e1, b1, b2, b3⟩, ⟨e2, c1, c2, c3⟩, ⟨e3, d1, d2, d3⟩⟩ := id h
  have a3 : S 0 9 = nI ed := a3
  have d2 : S 43 1 = nI e3 := d2
  unfold X_valuedClubs
  by_cases c : e3 = ed
  · rw [d2, a3, if_pos (by rw [c])]
    exact ⟨S, rfl, h, d3 c, fun _ _ _ => rfl⟩
  · rw [d2, a3, if_neg (by rw [nI_eq (by omega) (by omega)]; exact c)]
    obtain ⟨T, hT, g1, g2⟩ := valueAll_t v1 v3
    rw [hT, bnd_ss]
    have hT0 : T 0 9 = nI ed := by rw [g1 0 (by decide)]; exact a3
    generalize hV : up T 43 1 (T 0 9) = V
    have v : ∀ r, r ≠ 43 → r ≠ 44 → V r = S r := by
      intro r x1 x2
      rw [← hV, up_ne x1, g1 r x2]
    have hCl : ClOK V := by
      unfold ClOK
      rw [v 58 (by decide) (by decide), v 60 (by decide) (by decide)]
      intro x hx
      rw [← hV, up_ne (by decide)]
      exact g2 x hx
    have hm : ∀ r, r ≠ 43 → r ≠ 44 → msk V r = msk S r := by
      intro r x1 x2
      unfold msk
      rw [v r x1 x2, v 49 (by decide) (by decide)]
    refine ⟨V, rfl, ⟨w48_of h0 (hm 48 (by omega) (by omega)), Cf_of h1 (fun k hk => hm k (by omega) (by omega)) (fun k hk hk2 => hm k (by omega) (by omega)), Tx_of h2 (by rw [hm 25 (by omega) (by omega)]) (by rw [hm 49 (by omega) (by omega)]) (hm 26 (by omega) (by omega)) (hm 54 (by omega) (by omega)), Sg_of h3 (by rw [hm 45 (by omega) (by omega)]) (by rw [hm 49 (by omega) (by omega)]) (hm 46 (by omega) (by omega)) (hm 67 (by omega) (by omega)) (by rw [hm 45 (by omega) (by omega)]), Sh_of h4 (hm 48 (by omega) (by omega)) (hm 50 (by omega) (by omega)) (hm 51 (by omega) (by omega)) (hm 52 (by omega) (by omega)) (fun k hk => hm k (by omega) (by omega)), ?_, ed, a1, a2, ?_, ⟨e1, b1, ?_, fun q => ?_⟩, ⟨e2, c1, ?_, fun q => ?_⟩, ⟨ed, Nat.le_refl _, ?_, fun _ => hCl⟩⟩, hCl, v⟩
    · rw [hm 0 (by omega) (by omega), hm 49 (by omega) (by omega)]; exact h5
    · rw [hm 0 (by omega) (by omega)]; exact a3
    · rw [hm 27 (by omega) (by omega)]; exact b2
    · have := b3 q
      unfold OcOK at this ⊢
      rw [hm 25 (by omega) (by omega), hm 27 (by omega) (by omega), hm 28 (by omega) (by omega), hm 29 (by omega) (by omega), hm 30 (by omega) (by omega), hm 31 (by omega) (by omega), hm 32 (by omega) (by omega), hm 54 (by omega) (by omega), hm 56 (by omega) (by omega), hm 60 (by omega) (by omega), hm 62 (by omega) (by omega), hm 49 (by omega) (by omega)]
      exact this
    · rw [hm 39 (by omega) (by omega)]; exact c2
    · have := c3 q
      unfold OeOK at this ⊢
      rw [hm 39 (by omega) (by omega), hm 41 (by omega) (by omega), hm 42 (by omega) (by omega), hm 58 (by omega) (by omega)]
      exact this
    · show V 43 1 = _
      rw [← hV, up_self]; exact hT0
theorem clubIn_t {T : St} {va : Nat → Nat → Nat} {rs : Nat → Nat} {x e : Nat} (x2 : Int32) (hV : VM T va) (hR : RM T rs) (hx : x < 32) (he : e < 10) : lp (σ := Int32 × Int32) (fun q => M_clubOf_L16 T (nI x) x2 (nI e) q.1 q.2) FZ (0, 0) = some ((nI (gvE va x e - rs e), nI 5), 1) := by
  obtain ⟨r1, r2⟩ := hR e he
  refine lp_1 (fun j => (nI (mxE (fun b => if x.testBit b = true then va b e else 0) j 0 - rs e), nI j)) 5 ?_ ?_ ?_ (by decide)
  · show (0, 0) = (nI (0 - rs e), nI 0)
    rw [Nat.zero_sub]
    rfl
  · intro j hj
    try dsimp only
    obtain ⟨v1, v2⟩ := hV j e hj he
    have hg := gvE_le (va := va) (x := x) (e := e) (n := j) (fun b hb => (hV b e (by omega) he).2)
    unfold M_clubOf_L16 M_clubOf_J54
    rw [if_neg (by rw [n_5]; try simp (disch := omega) only [↓m_1, n_0, n_1, n_2, n_3, n_4, n_5, n_6, n_7, n_8, n_9, n_10, n_16, n_20, n_24, n_31, n_32, n_48, n_52, n_57, n_59, n_60, n_64, n_100, n_1024, nI_add, pk_mul, pk_sub, leI_t, leI_f, ltI_t, ltI_f, eqI_t, eqI_f, geM_t, eqM_f, eqM_g, ltM_f, ltM_t, leM_f, inb_nI, ix_nI, chk_tt, bnd_ss, up_ne, up_self, up_oth, if_true, if_false, reduceCtorEq, Nat.succ_ne_zero]; exact fun g => g), isIn_t (by omega) (by omega), ten_mul, chk_t (inb_nI (show 10 * j + e < 50 by omega) (by decide)), chk_t (inb_nI he (by decide)), ix_nI (by omega), ix_nI (by omega), v1, r1, nI_1]
    show _ = some ((nI (max (mxE (fun b => if x.testBit b = true then va b e else 0) j 0) (if x.testBit j = true then va j e else 0) - rs e), nI (j + 1)), 0)
    generalize mxE (fun b => if x.testBit b = true then va b e else 0) j 0 = m at hg ⊢
    by_cases c : x.testBit j = true
    · rw [if_pos c, if_neg (show ¬ nI 1 = 0 by decide), if_pos c]
      by_cases d : rs e ≤ va j e
      · rw [pk_sub d]
        by_cases f : va j e - rs e ≤ m - rs e
        · rw [if_pos ((nI_leI (by omega) (by omega)).mpr f)]
          have : max m (va j e) - rs e = m - rs e := by rw [Nat.max_def]; split <;> omega
          rw [this]
        · rw [if_neg (fun g => f ((nI_leI (by omega) (by omega)).mp g))]
          have : max m (va j e) - rs e = va j e - rs e := by rw [Nat.max_def]; split <;> omega
          rw [this]
      · have h := pk_sneg (a := va j e) (b := rs e) (by omega) (by omega)
        rw [if_pos]
        · have : max m (va j e) - rs e = m - rs e := by rw [Nat.max_def]; split <;> omega
          rw [this]
        · rw [Int32.le_iff_toInt_le, nI_toInt (by omega)]
          rw [Int32.lt_iff_toInt_lt] at h
          have e0 : (0 : Int32).toInt = 0 := rfl
          omega
    · rw [if_neg c, if_pos (show nI 0 = 0 from rfl), if_neg c, Nat.max_eq_left (Nat.zero_le _), if_pos (nI_pos' (by omega))]
  · try dsimp only
    unfold M_clubOf_L16
    rw [if_pos (by decide)]
    rfl
theorem clubOf_t {T : St} {va : Nat → Nat → Nat} {rs : Nat → Nat} {x : Nat} (hV : VM T va) (hR : RM T rs) (hx : x < 32) : M_clubOf T (nI x) = some (nI (cw va rs x)) := by
  unfold M_clubOf
  have hl : lp (σ := Int32 × Int32) (fun q => M_clubOf_L4 T (nI x) q.1 q.2) FZ (0, 0) = some ((nI (cw va rs x), nI 10), 1) := by
    refine lp_1 (fun j => (nI (smE (fun e => gvE va x e - rs e) j), nI j)) 10 rfl ?_ ?_ (by decide)
    · intro j hj
      try dsimp only
      unfold M_clubOf_L4 M_clubOf_J78
      rw [if_neg (by rw [n_10]; try simp (disch := omega) only [↓m_1, n_0, n_1, n_2, n_3, n_4, n_5, n_6, n_7, n_8, n_9, n_10, n_16, n_20, n_24, n_31, n_32, n_48, n_52, n_57, n_59, n_60, n_64, n_100, n_1024, nI_add, pk_mul, pk_sub, leI_t, leI_f, ltI_t, ltI_f, eqI_t, eqI_f, geM_t, eqM_f, eqM_g, ltM_f, ltM_t, leM_f, inb_nI, ix_nI, chk_tt, bnd_ss, up_ne, up_self, up_oth, if_true, if_false, reduceCtorEq, Nat.succ_ne_zero]; exact fun g => g), clubIn_t _ hV hR hx hj, bnd_ss, nI_add, nI_1]
      rfl
    · try dsimp only
      unfold M_clubOf_L4
      rw [if_pos (by decide)]
      rfl
  rw [hl, bnd_ss]
  rfl
theorem xClub {w : gw} {S T : St} {i x : Nat} (hT : X_valuedClubs S = some T) (hI : Inv w T i) (hC : ClOK T) (hx : x < 32) : X_club S (nI x) = some (nI (cw (vR (T 58)) (rX T) x), T) := by
  unfold X_club
  rw [if_neg (by rw [show X_within (nI x) 0 31 = 1 from xw_t (show sm (nI x) 31 from ⟨x, by omega, rfl⟩) (by decide)]; exact n10), hT, bnd_ss, chk_t (inb_nI hx (by decide)), ix_nI (by omega), hC x hx]
  rfl
theorem op_club {w : gw} {S : St} {i : Nat} (h : Inv w S i) (hi : i < 512) (a1 : Int32) : ∃ z1 z2, X_club S a1 = some z1 ∧ M_club z1.2 a1 = some z2 ∧ z1.1 = z2 ∧ Inv w z1.2 (i + 1) := by
  rcases sm_or a1 31 with h1 | h1
  · have g1 : ¬ M_in a1.toInt64 0 31 = 0 := by rw [show M_in a1.toInt64 0 31 = 1 from mi_t h1 (by decide)]; exact n10
    obtain ⟨x, hx, rfl⟩ := h1
    obtain ⟨T, hT, hI, hC, hF⟩ := XC h (by omega)
    obtain ⟨v1, v2, v3, v4⟩ := Inv_vv hI
    refine ⟨_, _, xClub hT hI hC (by omega), ?_, rfl, Inv_next hI⟩
    show M_club T _ = _
    unfold M_club
    rw [if_neg g1, clubOf_t v2 v4 (by omega), bnd_ss]
  · refine ⟨(-2, S), -2, ?_, ?_, rfl, Inv_next h⟩
    · unfold X_club
      rw [if_pos (show X_within a1 0 31 = 0 from xw_f h1 (by decide))]
    · show M_club S _ = _
      unfold M_club
      rw [if_pos (show M_in a1.toInt64 0 31 = 0 from mi_f h1 (by decide))]
/-! ===== share ===== -/
theorem mxE_mono {f g : Nat → Nat} {a : Nat} : ∀ n, (∀ e, e < n → f e ≤ g e) → mxE f n a ≤ mxE g n a := by
  intro n
  induction n with
  | zero => intro _; exact Nat.le_refl _
  | succ n ih =>
    intro h
    have h1 := ih (fun e he => h e (by omega))
    have h2 := h n (by omega)
    show max (mxE f n a) (f n) ≤ max (mxE g n a) (g n)
    omega
theorem smE_mono {f g : Nat → Nat} : ∀ n, (∀ e, e < n → f e ≤ g e) → smE f n ≤ smE g n := by
  intro n
  induction n with
  | zero => intro _; exact Nat.le_refl _
  | succ n ih =>
    intro h
    have h1 := ih (fun e he => h e (by omega))
    have h2 := h n (by omega)
    show smE f n + f n ≤ smE g n + g n
    omega
theorem smE_bd {f : Nat → Nat} {m : Nat} : ∀ n, (∀ e, e < n → f e ≤ m) → smE f n ≤ m * n := by
  intro n
  induction n with
  | zero => intro _; exact Nat.le_refl _
  | succ n ih =>
    intro h
    have h1 := ih (fun e he => h e (by omega))
    have h2 := h n (by omega)
    show smE f n + f n ≤ m * (n + 1)
    rw [Nat.mul_succ]
    omega
theorem cw_mono {va : Nat → Nat → Nat} {rs : Nat → Nat} {x y : Nat} : cw va rs x ≤ cw va rs (x ||| y) := by
  refine smE_mono 10 (fun e _ => ?_)
  have : gvE va x e ≤ gvE va (x ||| y) e := by
    refine mxE_mono 5 (fun b _ => ?_)
    try dsimp only
    by_cases c : x.testBit b = true
    · rw [if_pos c, if_pos (by rw [Nat.testBit_or, c]; rfl)]
      exact Nat.le_refl _
    · rw [if_neg c]
      exact Nat.zero_le _
  try dsimp only
  omega
theorem cw_le {va : Nat → Nat → Nat} {rs : Nat → Nat} {x : Nat} (h : ∀ b e, b < 5 → e < 10 → va b e ≤ 99) : cw va rs x ≤ 990 := by
  have := smE_bd (f := fun e => gvE va x e - rs e) (m := 99) 10 (fun e he => by
    have : gvE va x e ≤ 99 := gvE_le (fun b hb => h b e hb he)
    try dsimp only
    omega)
  exact this
def ordN (x : Nat) : Nat := [24, 6, 4, 6, 24].getD (pcN x) 0
def shT (va : Nat → Nat → Nat) (rs : Nat → Nat) (b x : Nat) : Nat := if x.testBit b = true then 0 else ordN x * (cw va rs (x ||| 2 ^ b) - cw va rs x)
def shS (va : Nat → Nat → Nat) (rs : Nat → Nat) (b : Nat) : Nat → Nat := smE (shT va rs b)
theorem sh_dec : ∀ (x : Fin 32) (b : Fin 5), ((nI x.val &&& nI (2 ^ b.val) = 0) ↔ x.val.testBit b.val = false) ∧ JI_bitCount (nI x.val) = nI (pcN x.val) ∧ (x.val ||| 2 ^ b.val) < 32 ∧ (x.val.testBit b.val = false → pcN x.val < 5) ∧ tb3 (pcN x.val) = nI (ordN x.val) ∧ ordN x.val ≤ 24 ∧ (x.val.testBit b.val = false → (pcN x.val = 0 ∧ ordN x.val = 24) ∨ (pcN x.val = 4 ∧ ordN x.val = 24) ∨ (pcN x.val = 2 ∧ ordN x.val = 4) ∨ ((pcN x.val = 1 ∨ pcN x.val = 3) ∧ ordN x.val = 6)) := by decide +kernel
theorem shS_le {va : Nat → Nat → Nat} {rs : Nat → Nat} {b n : Nat} (hb : b < 5) (hn : n ≤ 32) (h : ∀ b e, b < 5 → e < 10 → va b e ≤ 99) : shS va rs b n ≤ 24 * 990 * n := by
  refine smE_bd n (fun x hx => ?_)
  unfold shT
  split
  · omega
  · have h1 := (sh_dec ⟨x, by omega⟩ ⟨b, hb⟩).2.2.2.2.2.1
    have h1 : ordN x ≤ 24 := h1
    have h2 := cw_le (rs := rs) (x := x ||| 2 ^ b) h
    exact Nat.mul_le_mul h1 (by omega)
theorem brought_t {T : St} {va : Nat → Nat → Nat} {rs : Nat → Nat} {b : Nat} (hb : b < 5) (hC : ∀ x, x < 32 → T 44 x = nI (cw va rs x)) : CL_broughtInAllOrders T (nI b) = some (nI (shS va rs b 32)) := by
  unfold CL_broughtInAllOrders
  have e1 : (1 : Int32) <<< (nI b &&& 31) = nI (2 ^ b) := shl_nI (by omega)
  rw [e1]
  have hl : lp (σ := Int32 × Int32) (fun q => CL_broughtInAllOrders_L9 T (nI (2 ^ b)) q.1 q.2) FZ (0, 0) = some ((nI (shS va rs b 32), nI 32), 1) := by
    refine lp_1 (fun j => (nI (shS va rs b j), nI j)) 32 rfl ?_ ?_ (by decide)
    · intro j hj
      try dsimp only
      obtain ⟨d1, d2, d3, d4, d5, d6, d7⟩ := sh_dec ⟨j, hj⟩ ⟨b, hb⟩
      have d1 : (nI j &&& nI (2 ^ b) = 0) ↔ j.testBit b = false := d1
      have d2 : JI_bitCount (nI j) = nI (pcN j) := d2
      have d3 : (j ||| 2 ^ b) < 32 := d3
      have d4 : j.testBit b = false → pcN j < 5 := d4
      have d5 : tb3 (pcN j) = nI (ordN j) := d5
      unfold CL_broughtInAllOrders_L9
      rw [if_neg (by rw [n_31]; try simp (disch := omega) only [↓m_1, n_0, n_1, n_2, n_3, n_4, n_5, n_6, n_7, n_8, n_9, n_10, n_16, n_20, n_24, n_31, n_32, n_48, n_52, n_57, n_59, n_60, n_64, n_100, n_1024, nI_add, pk_mul, pk_sub, leI_t, leI_f, ltI_t, ltI_f, eqI_t, eqI_f, geM_t, eqM_f, eqM_g, ltM_f, ltM_t, leM_f, inb_nI, ix_nI, chk_tt, bnd_ss, up_ne, up_self, up_oth, if_true, if_false, reduceCtorEq, Nat.succ_ne_zero]; exact fun g => g), nI_1]
      show _ = some ((nI (shS va rs b j + shT va rs b j), nI (j + 1)), 0)
      unfold shT
      by_cases c : j.testBit b = true
      · rw [if_neg (fun g => by rw [d1, c] at g; cases g), if_pos c]
        try rfl
      · have c2 : j.testBit b = false := by
          cases hc : j.testBit b with
          | true => exact absurd hc c
          | false => rfl
        have d4 := d4 c2
        rw [if_pos (d1.mpr c2), if_neg c, d2, or_nI, chk_t (inb_nI d4 (by decide)), chk_t (inb_nI d3 (by decide)), chk_t (inb_nI hj (by decide)), ix_nI (show pcN j < 2 ^ 31 by omega), ix_nI (show j ||| 2 ^ b < 2 ^ 31 by omega), ix_nI (show j < 2 ^ 31 by omega), d5, hC _ d3, hC _ hj, pk_sub cw_mono, pk_mul, nI_add]
    · try dsimp only
      unfold CL_broughtInAllOrders_L9
      rw [if_pos (by decide)]
  rw [hl, bnd_ss]
  rfl
theorem shareOf_t {T : St} {va : Nat → Nat → Nat} {rs : Nat → Nat} {b : Nat} (hV : VM T va) (hR : RM T rs) (hb : b < 5) (x2 : Int32) : M_shareOf T (nI b) x2 = some (frV (shS va rs b 32) 120 x2) := by
  unfold M_shareOf
  have hva : ∀ b e, b < 5 → e < 10 → va b e ≤ 99 := fun b e hb he => (hV b e hb he).2
  have hl : lp (σ := Int64 × Int32) (fun q => M_shareOf_L5 T (nI b) x2 q.1 q.2) FZ (0, 0) = some ((lN (shS va rs b 32), nI 32), 1) := by
    refine lp_1 (fun j => (lN (shS va rs b j), nI j)) 32 rfl ?_ ?_ (by decide)
    · intro j hj
      try dsimp only
      obtain ⟨d1, d2, d3, d4, d5, d6, d7⟩ := sh_dec ⟨j, hj⟩ ⟨b, hb⟩
      have d3 : (j ||| 2 ^ b) < 32 := d3
      have d6 : ordN j ≤ 24 := d6
      have d7 : j.testBit b = false → (pcN j = 0 ∧ ordN j = 24) ∨ (pcN j = 4 ∧ ordN j = 24) ∨ (pcN j = 2 ∧ ordN j = 4) ∨ ((pcN j = 1 ∨ pcN j = 3) ∧ ordN j = 6) := d7
      have hj56 : ∀ o, o ≤ 24 → M_shareOf_J56 T (nI b) x2 (lN (shS va rs b j)) (nI j) (nI o) = some ((lN (shS va rs b j + o * (cw va rs (j ||| 2 ^ b) - cw va rs j)), nI (j + 1)), 0) := by
        intro o ho
        have hc := cw_le (rs := rs) (x := j ||| 2 ^ b) hva
        unfold M_shareOf_J56
        rw [show (1 : Int32) <<< (nI b &&& 31) = nI (2 ^ b) from shl_nI (by omega), or_nI, clubOf_t hV hR d3, bnd_ss, clubOf_t hV hR hj, bnd_ss, pk_sub cw_mono, nI_l (by omega), nI_l (by omega), lN_mul, lN_add, nI_1]
      unfold M_shareOf_L5 M_shareOf_J39
      rw [if_neg (by rw [n_32]; try simp (disch := omega) only [↓m_1, n_0, n_1, n_2, n_3, n_4, n_5, n_6, n_7, n_8, n_9, n_10, n_16, n_20, n_24, n_31, n_32, n_48, n_52, n_57, n_59, n_60, n_64, n_100, n_1024, nI_add, pk_mul, pk_sub, leI_t, leI_f, ltI_t, ltI_f, eqI_t, eqI_f, geM_t, eqM_f, eqM_g, ltM_f, ltM_t, leM_f, inb_nI, ix_nI, chk_tt, bnd_ss, up_ne, up_self, up_oth, if_true, if_false, reduceCtorEq, Nat.succ_ne_zero]; exact fun g => g), isIn_t (by omega) (by omega), ones_t (by omega), bnd_ss]
      show _ = some ((lN (shS va rs b j + shT va rs b j), nI (j + 1)), 0)
      unfold shT
      by_cases c : j.testBit b = true
      · rw [if_pos c, if_neg (show ¬ nI 1 = 0 by decide), if_pos c, Nat.add_zero, nI_1]
      · have c2 : j.testBit b = false := by
          cases hc : j.testBit b with
          | true => exact absurd hc c
          | false => rfl
        rw [if_neg c, if_pos (show nI 0 = 0 from rfl), if_neg c]
        rcases d7 c2 with ⟨p, o⟩ | ⟨p, o⟩ | ⟨p, o⟩ | ⟨p | p, o⟩
        · rw [p, o, if_pos (show nI 0 = 0 from rfl)]
          exact hj56 24 (by omega)
        · rw [p, o, if_neg (show ¬ nI 4 = 0 by decide), if_pos (show nI 4 = 4 from rfl)]
          exact hj56 24 (by omega)
        · rw [p, o, if_neg (show ¬ nI 2 = 0 by decide), if_neg (show ¬ nI 2 = 4 by decide), if_pos (show nI 2 = 2 from rfl)]
          exact hj56 4 (by omega)
        · rw [p, o, if_neg (show ¬ nI 1 = 0 by decide), if_neg (show ¬ nI 1 = 4 by decide), if_neg (show ¬ nI 1 = 2 by decide)]
          exact hj56 6 (by omega)
        · rw [p, o, if_neg (show ¬ nI 3 = 0 by decide), if_neg (show ¬ nI 3 = 4 by decide), if_neg (show ¬ nI 3 = 2 by decide)]
          exact hj56 6 (by omega)
    · try dsimp only
      unfold M_shareOf_L5
      rw [if_pos (by decide)]
  have hle := shS_le (rs := rs) hb (Nat.le_refl 32) hva
  rw [hl, bnd_ss]
  try dsimp only
  unfold M_shareOf_J89
  rw [show (120 : Int64) = lN 120 from rfl, part_fr (by omega) (Or.inr rfl), bnd_ss]
def srX (S : St) (b : Nat) (x : Int32) : Int64 := frV (shS (vR (S 58)) (rX S) b 32) 120 x
theorem xShare {w : gw} {S T : St} {i b : Nat} (hT : X_valuedClubs S = some T) (hI : Inv w T i) (hC : ClOK T) (hb : b < 5) {x : Int32} (hx : sm x 1) : X_share S (nI b) x = some (srX T b x, T) := by
  have hle := shS_le (va := vR (T 58)) (rs := rX T) hb (Nat.le_refl 32) (fun b e hb he => (Inv_vl hI hb he).2.1)
  unfold X_share srX
  rw [if_neg (isB_t hb), if_neg (by rw [show X_within x 0 1 = 1 from xw_t hx (by decide)]; exact n10), hT, bnd_ss, brought_t (va := vR (T 58)) (rs := rX T) hb hC, bnd_ss, show (120 : Int32) = nI 120 from rfl, frac_t (by omega) (Or.inr rfl), bnd_ss]
theorem op_share {w : gw} {S : St} {i : Nat} (h : Inv w S i) (hi : i < 512) (a1 : Int32) (a2 : Int32) : ∃ z1 z2, X_share S a1 a2 = some z1 ∧ M_share z1.2 a1 a2 = some z2 ∧ z1.1 = z2 ∧ Inv w z1.2 (i + 1) := by
  have hbad : (¬ sm a1 4 ∨ ¬ sm a2 1) → ∃ z1 z2, X_share S a1 a2 = some z1 ∧ M_share z1.2 a1 a2 = some z2 ∧ z1.1 = z2 ∧ Inv w z1.2 (i + 1) := by
    intro hb
    refine ⟨(-9223372036854775806, S), -9223372036854775806, ?_, ?_, rfl, Inv_next h⟩
    · unfold X_share X_isBidder
      by_cases g1 : X_within a1 0 4 = 0
      · rw [if_pos g1]
      · rw [if_neg g1, if_pos]
        rcases hb with hb | hb
        · exact absurd (xw_f hb (by decide)) g1
        · exact xw_f hb (by decide)
    · have e : M_share_J23 S = some (-9223372036854775806) := by
        unfold M_share_J23 M_no
        exact congrArg some (by decide)
      show M_share S _ _ = _
      unfold M_share M_isBidder M_isTwo
      rw [e]
      by_cases g1 : M_in a1.toInt64 0 4 = 0
      · rw [if_pos g1]
      · rw [if_neg g1, if_pos]
        rcases hb with hb | hb
        · exact absurd (mi_f hb (by decide)) g1
        · exact mi_f hb (by decide)
  rcases sm_or a1 4 with h1 | h1
  · rcases sm_or a2 1 with h2 | h2
    · have g1 : ¬ M_isBidder a1 = 0 := by rw [show M_isBidder a1 = 1 from mi_t h1 (by decide)]; exact n10
      have g2 : ¬ M_isTwo a2 = 0 := by rw [show M_isTwo a2 = 1 from mi_t h2 (by decide)]; exact n10
      obtain ⟨b, hb, rfl⟩ := h1
      obtain ⟨T, hT, hI, hC, hF⟩ := XC h (by omega)
      obtain ⟨v1, v2, v3, v4⟩ := Inv_vv hI
      refine ⟨_, _, xShare hT hI hC (by omega) h2, ?_, rfl, Inv_next hI⟩
      show M_share T _ _ = _
      unfold M_share
      rw [if_neg g1, if_neg g2, shareOf_t v2 v4 (by omega), bnd_ss]
      rfl
    · exact hbad (Or.inr h2)
  · exact hbad (Or.inl h1)
