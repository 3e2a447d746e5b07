/-! ===== each, pays ===== -/
def VB (va : Nat → Nat → Nat) : Prop := ∀ b e, b < 5 → e < 10 → va b e ≤ 99
theorem VX_b {T : St} {va : Nat → Nat → Nat} (h : VX T va) : VB va := fun b e hb he => (h b e hb he).2
theorem VM_b {T : St} {va : Nat → Nat → Nat} (h : VM T va) : VB va := fun b e hb he => (h b e hb he).2
/-- bidder b's evening e would give all that is left -/
def chP (va : Nat → Nat → Nat) (b t e : Nat) : Bool := !t.testBit e && decide (va b e + mo va 5 (4 - b) (t ||| 2 ^ e) = mo va 5 (5 - b) t)
theorem chc_eq {va : Nat → Nat → Nat} {b t : Nat} : chc va b t = if mo va 5 (4 - b) t = mo va 5 (5 - b) t then 0 else fe (chP va b t) 10 + 1 := rfl
theorem chP_iff {va : Nat → Nat → Nat} {b t e : Nat} : chP va b t e = true ↔ ¬ t.testBit e = true ∧ va b e + mo va 5 (4 - b) (t ||| 2 ^ e) = mo va 5 (5 - b) t := by
  unfold chP
  rw [Bool.and_eq_true, decide_eq_true_eq, Bool.not_eq_true', Bool.not_eq_true]
theorem mo_sb {va : Nat → Nat → Nat} {b t : Nat} (hb : b < 5) : mo va 5 (5 - b) t = mxE (fun e => if t.testBit e = true then 0 else va b e + mo va 5 (4 - b) (t ||| 2 ^ e)) 10 (mo va 5 (4 - b) t) := by
  rw [show 5 - b = (4 - b) + 1 by omega, mo_s, if_neg (by omega), show 4 - (4 - b) = b by omega]
theorem chc_lt {va : Nat → Nat → Nat} {b t : Nat} (hb : b < 5) (h : ¬ mo va 5 (4 - b) t = mo va 5 (5 - b) t) : fe (chP va b t) 10 < 10 := by
  have e := mo_sb (va := va) (t := t) hb
  rcases mxE_at (f := fun e => if t.testBit e = true then 0 else va b e + mo va 5 (4 - b) (t ||| 2 ^ e)) (a := mo va 5 (4 - b) t) 10 with g | ⟨j, hj, g⟩
  · exact absurd (g.symm.trans e.symm) h
  · by_cases c : t.testBit j = true
    · rw [if_pos c] at g
      have h1 := (mxE_s (f := fun e => if t.testBit e = true then 0 else va b e + mo va 5 (4 - b) (t ||| 2 ^ e)) (a := mo va 5 (4 - b) t) (s := 0) (z := 0) 10).mp (by rw [g]; exact Nat.le_refl 0)
      exact absurd (show mo va 5 (4 - b) t = mo va 5 (5 - b) t by rw [e, g]; omega) h
    · rw [if_neg c] at g
      exact fe_lt hj (chP_iff.mpr ⟨c, g.symm.trans e.symm⟩)
theorem or_lt {t e : Nat} (ht : t < 1024) (he : e < 10) : (t ||| 2 ^ e) < 1024 := Nat.or_lt_two_pow (n := 10) ht (Nat.pow_lt_pow_right (by omega) (by omega))
theorem chc_rng {va : Nat → Nat → Nat} {b t : Nat} (hb : b < 5) (h : chc va b t ≠ 0) : chc va b t - 1 < 10 ∧ chP va b t (chc va b t - 1) = true := by
  rw [chc_eq] at h ⊢
  by_cases c : mo va 5 (4 - b) t = mo va 5 (5 - b) t
  · rw [if_pos c] at h; exact absurd rfl h
  · rw [if_neg c, Nat.add_sub_cancel]
    exact ⟨chc_lt hb c, fe_yes _ 10 (chc_lt hb c)⟩
theorem cT_s {va : Nat → Nat → Nat} {b : Nat} : cT va (b + 1) = if cc va b = 0 then cT va b else cT va b ||| 2 ^ (cc va b - 1) := rfl
theorem cT_lt {va : Nat → Nat → Nat} : ∀ b, b ≤ 5 → cT va b < 1024 := by
  intro b
  induction b with
  | zero => intro _; show 0 < 1024; omega
  | succ b ih =>
    intro hb
    rw [cT_s]
    by_cases c : cc va b = 0
    · rw [if_pos c]; exact ih (by omega)
    · rw [if_neg c]
      exact or_lt (ih (by omega)) (chc_rng (by omega) c).1
/-- what is left for those behind b -/
theorem left_s {va : Nat → Nat → Nat} {b : Nat} (hb : b < 5) : mo va 5 (5 - b) (cT va b) = (if cc va b = 0 then 0 else va b (cc va b - 1)) + mo va 5 (4 - b) (cT va (b + 1)) := by
  rw [cT_s]
  by_cases c : cc va b = 0
  · rw [if_pos c, if_pos c]
    have c2 : chc va b (cT va b) = 0 := c
    rw [chc_eq] at c2
    by_cases d : mo va 5 (4 - b) (cT va b) = mo va 5 (5 - b) (cT va b)
    · omega
    · rw [if_neg d] at c2; omega
  · rw [if_neg c, if_neg c]
    exact (chP_iff.mp (chc_rng (t := cT va b) hb c).2).2.symm
def eaX (va : Nat → Nat → Nat) (b : Nat) : Int32 := if cc va b = 0 then mI else nI (cc va b - 1)
theorem leastChoice_t {S : St} {va : Nat → Nat → Nat} {b t : Nat} (hV : VX S va) (hb : b < 5) (ht : t < 1024) : ∃ T, OE_leastChoice S (nI b) (nI t) (nI (mo va 5 (5 - b) t)) = some (if chc va b t = 0 then mI else nI (chc va b t - 1), T) ∧ ∀ r, r ≠ 40 → T r = S r := by
  have hva : VB va := VX_b hV
  have l1 := mo_le (va := va) (ex := 5) (d := 5 - b) (t := t) (by omega) (by omega) hva
  have l2 := mo_le (va := va) (ex := 5) (d := 4 - b) (t := t) (by omega) (by omega) hva
  unfold OE_leastChoice
  rw [nI_1]
  obtain ⟨T1, hT1, f1, -⟩ := mostFrom_t (f := b + 1) (t := t) hV (by omega) ht
  rw [hT1, bnd_ss, show 5 - (b + 1) = 4 - b by omega, chc_eq]
  try dsimp only
  by_cases c : mo va 5 (4 - b) t = mo va 5 (5 - b) t
  · rw [if_pos (by rw [c]), if_pos c, if_pos rfl]
    exact ⟨T1, rfl, f1⟩
  · rw [if_neg (by rw [nI_eq (by omega) (by omega)]; exact c), if_neg c, if_neg (Nat.succ_ne_zero _), Nat.add_sub_cancel]
    have hlt := chc_lt hb c
    obtain ⟨r, hr, p1, p2, p3⟩ := lp_inv (st := fun q : Int32 × St => OE_leastChoice_L19 q.2 (nI b) (nI t) (nI (mo va 5 (5 - b) t)) q.1) (fun j q => j ≤ fe (chP va b t) 10 ∧ q.1 = nI j ∧ ∀ r, r ≠ 40 → q.2 r = S r) 10 (fun r => r.2 = 1 ∧ r.1.1 = nI (fe (chP va b t) 10) ∧ ∀ k, k ≠ 40 → r.1.2 k = S k) (by decide) (fun j q h => by
      obtain ⟨a, V⟩ := q
      obtain ⟨hj, h1, h2⟩ := h
      have h1 : a = nI j := h1
      subst h1
      have h2 : ∀ r, r ≠ 40 → V r = S r := h2
      have hVV : VX V va := fun b e hb he => by rw [h2 (5 + b) (by omega)]; exact hV b e hb he
      try dsimp only
      unfold OE_leastChoice_L19
      rw [if_neg (by rw [n_10]; try simp (disch := omega) only [↓m_1, n_0, n_1, n_2, n_3, n_4, n_5, n_6, n_7, n_8, n_9, n_10, n_16, n_20, n_24, n_31, n_32, n_48, n_52, n_57, n_59, n_60, n_64, n_100, n_1024, nI_add, pk_mul, pk_sub, leI_t, leI_f, ltI_t, ltI_f, eqI_t, eqI_f, geM_t, eqM_f, eqM_g, ltM_f, ltM_t, leM_f, inb_nI, ix_nI, chk_tt, bnd_ss, up_ne, up_self, up_oth, if_true, if_false, reduceCtorEq, Nat.succ_ne_zero]; exact fun g => g), shr_t (by omega) (by omega), nI_1, nI_1]
      have hadv : ¬ chP va b t j = true → j + 1 ≤ fe (chP va b t) 10 := fun g => by
        rcases Nat.lt_or_ge j (fe (chP va b t) 10) with k | k
        · omega
        · have : j = fe (chP va b t) 10 := by omega
          exact absurd (by rw [this]; exact fe_yes _ 10 hlt) g
      by_cases tj : t.testBit j = true
      · rw [if_pos tj, if_neg (show ¬ nI 1 = 0 by decide)]
        exact ⟨_, rfl, Or.inl ⟨rfl, by omega, hadv (fun g => (chP_iff.mp g).1 tj), rfl, h2⟩⟩
      · rw [if_neg tj, if_pos (show nI 0 = 0 from rfl), show (1 : Int32) <<< (nI j &&& 31) = nI (2 ^ j) from shl_nI (by omega), or_nI]
        obtain ⟨U, hU, u1, -⟩ := mostFrom_t (f := b + 1) (t := t ||| 2 ^ j) hVV (by omega) (or_lt ht (by omega))
        have l3 := mo_le (va := va) (ex := 5) (d := 4 - b) (t := t ||| 2 ^ j) (by omega) (by omega) hva
        obtain ⟨v1, v2⟩ := hV b j hb (by omega)
        have uv : U (5 + b) j = nI (va b j) := by rw [u1 _ (by omega), h2 _ (by omega), v1]
        rw [hU, bnd_ss, show 5 - (b + 1) = 4 - b by omega]
        try dsimp only
        rw [chk_t (inb_nI hb (by decide)), chk_t (inb_nI (show j < 10 by omega) (by decide)), ix_nI (by omega), ix_nI (by omega)]
        have hfr : ∀ r, r ≠ 40 → U r = S r := fun r hr => by rw [u1 r hr, h2 r hr]
        by_cases d : va b j + mo va 5 (4 - b) (t ||| 2 ^ j) = mo va 5 (5 - b) t
        · rw [if_pos (show U (5 + b) j + nI (mo va 5 (4 - b) (t ||| 2 ^ j)) = nI (mo va 5 (5 - b) t) by rw [uv, nI_add, d])]
          have hP : chP va b t j = true := chP_iff.mpr ⟨tj, d⟩
          have : j = fe (chP va b t) 10 := by
            rcases Nat.lt_or_ge j (fe (chP va b t) 10) with k | k
            · exact absurd hP (fe_no _ 10 j k)
            · omega
          exact ⟨_, rfl, Or.inr ⟨Nat.succ_ne_zero 0, rfl, by rw [← this], hfr⟩⟩
        · rw [if_neg (show ¬ U (5 + b) j + nI (mo va 5 (4 - b) (t ||| 2 ^ j)) = nI (mo va 5 (5 - b) t) by rw [uv, nI_add, nI_eq (by omega) (by omega)]; exact d)]
          exact ⟨_, rfl, Or.inl ⟨rfl, by omega, hadv (fun g => d (chP_iff.mp g).2), rfl, hfr⟩⟩) (q0 := (0, T1)) ⟨Nat.zero_le _, rfl, f1⟩
    rw [hr, bnd_ss, p1, if_pos rfl, p2]
    exact ⟨r.1.2, rfl, p3⟩
theorem valueTo_t {T : St} {va : Nat → Nat → Nat} {b : Nat} (hV : VX T va) (hb : b < 5) : TW_valueTo T (nI b) (eaX va b) = some (nI (if cc va b = 0 then 0 else va b (cc va b - 1))) := by
  unfold TW_valueTo eaX
  by_cases c : cc va b = 0
  · rw [if_pos c, if_pos c, if_pos (by decide)]
    rfl
  · have h1 := (chc_rng (t := cT va b) hb c).1
    have h1 : cc va b - 1 < 10 := h1
    rw [if_neg c, if_neg c, if_neg (nI_pos (by omega)), if_neg (by rw [n_10]; try simp (disch := omega) only [↓m_1, n_0, n_1, n_2, n_3, n_4, n_5, n_6, n_7, n_8, n_9, n_10, n_16, n_20, n_24, n_31, n_32, n_48, n_52, n_57, n_59, n_60, n_64, n_100, n_1024, nI_add, pk_mul, pk_sub, leI_t, leI_f, ltI_t, ltI_f, eqI_t, eqI_f, geM_t, eqM_f, eqM_g, ltM_f, ltM_t, leM_f, inb_nI, ix_nI, chk_tt, bnd_ss, up_ne, up_self, up_oth, if_true, if_false, reduceCtorEq, Nat.succ_ne_zero]; exact fun g => g), chk_t (inb_nI hb (by decide)), chk_t (inb_nI h1 (by decide)), ix_nI (by omega), ix_nI (by omega), (hV b _ hb h1).1]
theorem solve_t {S : St} {va : Nat → Nat → Nat} (hV : VX S va) : ∃ T, OE_solve S = some T ∧ (∀ r, r ≠ 39 → r ≠ 40 → r ≠ 41 → r ≠ 42 → T r = S r) ∧ (∀ j, j ≠ 3 → T 39 j = S 39 j) ∧ T 39 3 = nI (mo va 5 5 0) ∧ ∀ b, b < 5 → T 41 b = eaX va b ∧ T 42 b = nI (mo va b 5 0) := by
  have hva : VB va := VX_b hV
  unfold OE_solve
  obtain ⟨T1, hT1, f1, f2⟩ := mostFrom_t (f := 0) (t := 0) hV (by omega) (by omega)
  rw [show OE_mostFrom S 0 0 = OE_mostFrom S (nI 0) (nI 0) from rfl, hT1, bnd_ss]
  try dsimp only
  obtain ⟨T2, hT2⟩ : ∃ T2, T2 = up T1 39 3 (nI (mo va 5 (5 - 0) 0)) := ⟨_, rfl⟩
  rw [← hT2]
  have g1 : ∀ r, r ≠ 39 → r ≠ 40 → T2 r = S r := fun r a b => by rw [hT2, up_ne a, f1 r b]
  have g2 : ∀ j, j ≠ 3 → T2 39 j = S 39 j := fun j hj => by rw [hT2, up_oth hj, f1 39 (by decide)]
  have g3 : T2 39 3 = nI (mo va 5 5 0) := by rw [hT2, up_self]
  have g4 : ∀ x, x < 32 → T2 40 x = nI (Fm va 0 10 x) := fun x hx => by rw [hT2, up_ne (by decide)]; exact f2 x hx
  obtain ⟨q, hq, h1, h2, h3⟩ := lp_cnt (st := fun q : Int32 × St => OE_solve_L13 q.2 q.1) (fun j q => q.1 = nI j ∧ (∀ r, r ≠ 42 → q.2 r = T2 r) ∧ ∀ b, b < j → q.2 42 b = nI (mo va b 5 0)) 5 (by decide) (q0 := (0, T2)) ⟨rfl, fun _ _ => rfl, fun b hb => absurd hb (Nat.not_lt_zero b)⟩ (fun j q hj h => by
    obtain ⟨a, V⟩ := q
    obtain ⟨h1, h2, h3⟩ := h
    have h1 : a = nI j := h1
    subst h1
    have h2 : ∀ r, r ≠ 42 → V r = T2 r := h2
    obtain ⟨k1, k2, k3⟩ := mk5b ⟨j, hj⟩
    have k1 : mkx 5 j = 31 - 2 ^ (4 - j) := k1
    have k2 : 31 - 2 ^ (4 - j) < 32 := k2
    have k3 : ((32 - 1 : Int32) - ((1 : Int32) <<< ((4 - nI j) &&& 31))) = nI (31 - 2 ^ (4 - j)) := k3
    try dsimp only
    unfold OE_solve_L13
    rw [if_neg (by rw [n_5]; try simp (disch := omega) only [↓m_1, n_0, n_1, n_2, n_3, n_4, n_5, n_6, n_7, n_8, n_9, n_10, n_16, n_20, n_24, n_31, n_32, n_48, n_52, n_57, n_59, n_60, n_64, n_100, n_1024, nI_add, pk_mul, pk_sub, leI_t, leI_f, ltI_t, ltI_f, eqI_t, eqI_f, geM_t, eqM_f, eqM_g, ltM_f, ltM_t, leM_f, inb_nI, ix_nI, chk_tt, bnd_ss, up_ne, up_self, up_oth, if_true, if_false, reduceCtorEq, Nat.succ_ne_zero]; exact fun g => g), k3, chk_t (inb_nI k2 (by decide)), chk_t (inb_nI hj (by decide)), ix_nI (by omega), ix_nI (by omega), h2 40 (by decide), g4 _ k2, ← k1, ← mo_Fm (by omega) 5 0 (Nat.le_refl _), nI_1]
    refine ⟨_, rfl, rfl, fun r hr => ?_, fun b hb => ?_⟩
    · show up V 42 j _ r = T2 r
      rw [up_ne hr, h2 r hr]
    · show up V 42 j _ 42 b = _
      by_cases c : b = j
      · rw [c, up_self]
      · rw [up_oth c]; exact h3 b (by omega)) (fun q h => by
    obtain ⟨a, V⟩ := q
    obtain ⟨h1, -⟩ := h
    have h1 : a = nI 5 := h1
    subst h1
    try dsimp only
    unfold OE_solve_L13
    rw [if_pos (by decide)])
  rw [hq, bnd_ss]
  obtain ⟨a, T3⟩ := q
  have h2 : ∀ r, r ≠ 42 → T3 r = T2 r := h2
  have h3 : ∀ b, b < 5 → T3 42 b = nI (mo va b 5 0) := h3
  try dsimp only
  unfold OE_solve_J50 OE_solve_J120
  have e39 : T3 39 3 = nI (mo va 5 5 0) := by rw [h2 39 (by decide)]; exact g3
  rw [e39]
  obtain ⟨q, hq, k1, k2, k3, k4, k5⟩ := lp_cnt (st := fun q : Int32 × Int32 × Int32 × St => OE_solve_L60 q.2.2.2 q.1 q.2.1 q.2.2.1) (fun j q => q.1 = nI (mo va 5 (5 - j) (cT va j)) ∧ q.2.1 = nI (cT va j) ∧ q.2.2.1 = nI j ∧ (∀ r, r ≠ 40 → r ≠ 41 → q.2.2.2 r = T3 r) ∧ ∀ b, b < j → q.2.2.2 41 b = eaX va b) 5 (by decide) (q0 := (nI (mo va 5 5 0), 0, 0, T3)) ⟨rfl, rfl, rfl, fun _ _ _ => rfl, fun b hb => absurd hb (Nat.not_lt_zero b)⟩ (fun j q hj h => by
    obtain ⟨x2, x3, x4, V⟩ := q
    obtain ⟨h1, h2', h3', h4, h5⟩ := h
    have h1 : x2 = nI (mo va 5 (5 - j) (cT va j)) := h1
    have h2' : x3 = nI (cT va j) := h2'
    have h3' : x4 = nI j := h3'
    subst h1
    subst h2'
    subst h3'
    have h4 : ∀ r, r ≠ 40 → r ≠ 41 → V r = T3 r := h4
    have hVV : VX V va := fun b e hb he => by rw [h4 (5 + b) (by omega) (by omega), h2 (5 + b) (by omega), g1 (5 + b) (by omega) (by omega)]; exact hV b e hb he
    have hct := cT_lt (va := va) j (by omega)
    obtain ⟨U, hU, u1⟩ := leastChoice_t (t := cT va j) hVV hj hct
    have hU : OE_leastChoice V (nI j) (nI (cT va j)) (nI (mo va 5 (5 - j) (cT va j))) = some (eaX va j, U) := hU
    try dsimp only
    unfold OE_solve_L60
    rw [if_neg (by rw [n_5]; try simp (disch := omega) only [↓m_1, n_0, n_1, n_2, n_3, n_4, n_5, n_6, n_7, n_8, n_9, n_10, n_16, n_20, n_24, n_31, n_32, n_48, n_52, n_57, n_59, n_60, n_64, n_100, n_1024, nI_add, pk_mul, pk_sub, leI_t, leI_f, ltI_t, ltI_f, eqI_t, eqI_f, geM_t, eqM_f, eqM_g, ltM_f, ltM_t, leM_f, inb_nI, ix_nI, chk_tt, bnd_ss, up_ne, up_self, up_oth, if_true, if_false, reduceCtorEq, Nat.succ_ne_zero]; exact fun g => g), hU, bnd_ss]
    try dsimp only
    rw [chk_t (inb_nI hj (by decide)), ix_nI (by omega)]
    obtain ⟨W, hW⟩ : ∃ W, W = up U 41 j (eaX va j) := ⟨_, rfl⟩
    rw [← hW]
    have hWV : VX W va := fun b e hb he => by rw [hW, up_ne (by omega), u1 (5 + b) (by omega)]; exact hVV b e hb he
    have hls := left_s (va := va) hj
    rw [valueTo_t hWV hj, bnd_ss, nI_1, pk_sub (by rw [hls]; exact Nat.le_add_right _ _)]
    have e1 : mo va 5 (5 - j) (cT va j) - (if cc va j = 0 then 0 else va j (cc va j - 1)) = mo va 5 (5 - (j + 1)) (cT va (j + 1)) := by
      rw [hls, Nat.add_sub_cancel_left, show 5 - (j + 1) = 4 - j by omega]
    rw [e1]
    have hfr : ∀ r, r ≠ 40 → r ≠ 41 → W r = T3 r := fun r a b => by rw [hW, up_ne b, u1 r a, h4 r a b]
    have hrow : ∀ b, b < j + 1 → W 41 b = eaX va b := fun b hb => by
      rw [hW]
      by_cases c : b = j
      · rw [c, up_self]
      · rw [up_oth c, u1 41 (by decide)]; exact h5 b (by omega)
    by_cases c : cc va j = 0
    · have e2 : eaX va j = mI := if_pos c
      rw [e2, if_pos (show mI = -1 from rfl)]
      refine ⟨_, rfl, rfl, ?_, rfl, hfr, hrow⟩
      show nI (cT va j) ||| 0 = _
      rw [n_0, or_nI, Nat.or_zero, cT_s, if_pos c]
    · have e2 : eaX va j = nI (cc va j - 1) := if_neg c
      have h10 := (chc_rng (t := cT va j) hj c).1
      have h10 : cc va j - 1 < 10 := h10
      rw [e2, if_neg (by rw [m_1]; try simp (disch := omega) only [↓m_1, n_0, n_1, n_2, n_3, n_4, n_5, n_6, n_7, n_8, n_9, n_10, n_16, n_20, n_24, n_31, n_32, n_48, n_52, n_57, n_59, n_60, n_64, n_100, n_1024, nI_add, pk_mul, pk_sub, leI_t, leI_f, ltI_t, ltI_f, eqI_t, eqI_f, geM_t, eqM_f, eqM_g, ltM_f, ltM_t, leM_f, inb_nI, ix_nI, chk_tt, bnd_ss, up_ne, up_self, up_oth, if_true, if_false, reduceCtorEq, Nat.succ_ne_zero]; exact fun g => g)]
      refine ⟨_, rfl, rfl, ?_, rfl, hfr, hrow⟩
      show nI (cT va j) ||| ((1 : Int32) <<< (nI (cc va j - 1) &&& 31)) = _
      rw [show (1 : Int32) <<< (nI (cc va j - 1) &&& 31) = nI (2 ^ (cc va j - 1)) from shl_nI (by omega), or_nI, cT_s, if_neg c]) (fun q h => by
    obtain ⟨x2, x3, x4, V⟩ := q
    obtain ⟨h1, h2', h3', -⟩ := h
    have h3' : x4 = nI 5 := h3'
    subst h3'
    try dsimp only
    unfold OE_solve_L60
    rw [if_pos (by decide)])
  rw [hq, bnd_ss]
  obtain ⟨x2, x3, x4, T⟩ := q
  have k4 : ∀ r, r ≠ 40 → r ≠ 41 → T r = T3 r := k4
  have k5 : ∀ b, b < 5 → T 41 b = eaX va b := k5
  refine ⟨T, rfl, fun r a b c d => by rw [k4 r b c, h2 r d, g1 r a b], fun j hj => ?_, ?_, fun b hb => ⟨k5 b hb, ?_⟩⟩
  · rw [k4 39 (by decide) (by decide), h2 39 (by decide)]; exact g2 j hj
  · rw [k4 39 (by decide) (by decide)]; exact e39
  · rw [k4 42 (by decide) (by decide)]; exact h3 b hb
theorem XE {w : gw} {S : St} {i : Nat} (h : Inv w S i) (hi : i < 513) : ∃ T, X_solvedOneEach S = some T ∧ Inv w T i ∧ OeOK T ∧ (∀ r, r ≠ 39 → r ≠ 40 → r ≠ 41 → r ≠ 42 → T r = S r) := by
  obtain ⟨v1, v2, v3, v4⟩ := Inv_vv h
  obtain ⟨h0, h1, h2, h3, h4, h5, ed, a1, a2, a3, ⟨e1, b1, b2, b3⟩, ⟨e2, c1, c2, c3⟩, ⟨e3, d1, d2, d3⟩⟩ := id h
  have a3 : S 0 9 = nI ed := a3
  have c2 : S 39 4 = nI e2 := c2
  unfold X_solvedOneEach
  by_cases c : e2 = ed
  · rw [c2, a3, if_pos (by rw [c])]
    exact ⟨S, rfl, h, c3 c, fun _ _ _ _ _ => rfl⟩
  · rw [c2, a3, if_neg (by rw [nI_eq (by omega) (by omega)]; exact c)]
    obtain ⟨T, hT, g1, g2, g3, g4⟩ := solve_t v1
    rw [hT, bnd_ss]
    have hT0 : T 0 9 = nI ed := by rw [g1 0 (by decide) (by decide) (by decide) (by decide)]; exact a3
    generalize hV : up T 39 4 (T 0 9) = V
    have v : ∀ r, r ≠ 39 → r ≠ 40 → r ≠ 41 → r ≠ 42 → V r = S r := by
      intro r x1 x2 x3 x4
      rw [← hV, up_ne x1, g1 r x1 x2 x3 x4]
    have hOe : OeOK V := by
      unfold OeOK
      rw [v 58 (by decide) (by decide) (by decide) (by decide)]
      refine ⟨?_, fun b hb => ⟨?_, ?_⟩⟩
      · rw [← hV, up_oth (by decide)]; exact g3
      · rw [← hV, up_ne (by decide)]; exact (g4 b hb).1
      · rw [← hV, up_ne (by decide)]; exact (g4 b hb).2
    have hm : ∀ r, r ≠ 39 → r ≠ 40 → r ≠ 41 → r ≠ 42 → msk V r = msk S r := by
      intro r x1 x2 x3 x4
      unfold msk
      rw [v r x1 x2 x3 x4, v 49 (by decide) (by decide) (by decide) (by decide)]
    have hx : ∀ r, r < 39 ∨ 43 ≤ r → msk V r = msk S r := fun r hr => hm r (by omega) (by omega) (by omega) (by omega)
    refine ⟨V, rfl, ⟨w48_of h0 (hx 48 (by omega)), Cf_of h1 (fun k hk => hx k (by omega)) (fun k hk hk2 => hx k (by omega)), Tx_of h2 (by rw [hx 25 (by omega)]) (by rw [hx 49 (by omega)]) (hx 26 (by omega)) (hx 54 (by omega)), Sg_of h3 (by rw [hx 45 (by omega)]) (by rw [hx 49 (by omega)]) (hx 46 (by omega)) (hx 67 (by omega)) (by rw [hx 45 (by omega)]), Sh_of h4 (hx 48 (by omega)) (hx 50 (by omega)) (hx 51 (by omega)) (hx 52 (by omega)) (fun k hk => hx k (by omega)), ?_, ed, a1, a2, ?_, ⟨e1, b1, ?_, fun q => ?_⟩, ⟨ed, Nat.le_refl _, ?_, fun _ => hOe⟩, ⟨e3, d1, ?_, fun q => ?_⟩⟩, hOe, v⟩
    · rw [hx 0 (by omega), hx 49 (by omega)]; exact h5
    · rw [hx 0 (by omega)]; exact a3
    · rw [hx 27 (by omega)]; exact b2
    · have := b3 q
      unfold OcOK at this ⊢
      rw [hx 25 (by omega), hx 27 (by omega), hx 28 (by omega), hx 29 (by omega), hx 30 (by omega), hx 31 (by omega), hx 32 (by omega), hx 54 (by omega), hx 56 (by omega), hx 60 (by omega), hx 62 (by omega), hx 49 (by omega)]
      exact this
    · show V 39 4 = _
      rw [← hV, up_self]; exact hT0
    · rw [hx 43 (by omega)]; exact d2
    · have := d3 q
      unfold ClOK at this ⊢
      rw [hx 44 (by omega), hx 58 (by omega), hx 60 (by omega)]
      exact this
/-! the reference's table -/
theorem ix66 {b t : Nat} : (1024 : Int32) * nI b + nI t = nI (1024 * b + t) := by rw [n_1024, pk_mul, nI_add]
theorem fmIn_t {T : St} {va : Nat → Nat → Nat} {ex d t : Nat} {x1 : Int32} (hV : VM T va) (hex : ex < 6) (hd : d < 5) (ht : t < 1024) (hx1 : ∀ b, b < 5 → (nI b = x1 ↔ b = ex)) (hT : ∀ u, u < 1024 → T 66 (1024 * (4 - d + 1) + u) = nI (mo va ex d u)) : ∃ a, lp (σ := Int32 × Int32) (fun q => M_findMost_L43 T x1 (nI (4 - d)) (nI t) q.1 q.2) FZ (nI (mo va ex d t), 0) = some ((nI (mo va ex (d + 1) t), a), 1) := by
  have hva : VB va := VM_b hV
  have l1 := mo_le (va := va) (ex := ex) (d := d) (t := t) hex (by omega) hva
  rw [mo_s]
  by_cases c : 4 - d = ex
  · rw [if_pos c]
    refine ⟨0, lp_1 (fun _ => (nI (mo va ex d t), 0)) 0 rfl (fun i hi => absurd hi (Nat.not_lt_zero i)) ?_ (by decide)⟩
    try dsimp only
    unfold M_findMost_L43
    rw [if_neg (by decide), if_neg (by rw [n_5]; try simp (disch := omega) only [↓m_1, n_0, n_1, n_2, n_3, n_4, n_5, n_6, n_7, n_8, n_9, n_10, n_16, n_20, n_24, n_31, n_32, n_48, n_52, n_57, n_59, n_60, n_64, n_100, n_1024, nI_add, pk_mul, pk_sub, leI_t, leI_f, ltI_t, ltI_f, eqI_t, eqI_f, geM_t, eqM_f, eqM_g, ltM_f, ltM_t, leM_f, inb_nI, ix_nI, chk_tt, bnd_ss, up_ne, up_self, up_oth, if_true, if_false, reduceCtorEq, Nat.succ_ne_zero]; exact fun g => g), if_pos ((hx1 _ (by omega)).mpr c)]
  · rw [if_neg c]
    refine ⟨nI 10, lp_1 (fun j => (nI (mxE (fun e => if t.testBit e = true then 0 else va (4 - d) e + mo va ex d (t ||| 2 ^ e)) j (mo va ex d t)), nI j)) 10 rfl ?_ ?_ (by decide)⟩
    · intro j hj
      try dsimp only
      have l2 := mo_le (va := va) (ex := ex) (d := d) (t := t ||| 2 ^ j) hex (by omega) hva
      have l3 := hva (4 - d) j (by omega) hj
      have hM : mxE (fun e => if t.testBit e = true then 0 else va (4 - d) e + mo va ex d (t ||| 2 ^ e)) j (mo va ex d t) ≤ 2000 := by
        refine mxE_le (by omega) j (fun e he => ?_)
        try dsimp only
        split
        · omega
        · have g1 := mo_le (va := va) (ex := ex) (d := d) (t := t ||| 2 ^ e) hex (by omega) hva
          have g2 := hva (4 - d) e (by omega) (by omega)
          omega
      have hms : mxE (fun e => if t.testBit e = true then 0 else va (4 - d) e + mo va ex d (t ||| 2 ^ e)) (j + 1) (mo va ex d t) = max (mxE (fun e => if t.testBit e = true then 0 else va (4 - d) e + mo va ex d (t ||| 2 ^ e)) j (mo va ex d t)) (if t.testBit j = true then 0 else va (4 - d) j + mo va ex d (t ||| 2 ^ j)) := rfl
      rw [hms]
      generalize mxE (fun e => if t.testBit e = true then 0 else va (4 - d) e + mo va ex d (t ||| 2 ^ e)) j (mo va ex d t) = M at hM ⊢
      have ho := or_lt ht hj
      unfold M_findMost_L43 M_findMost_J105
      rw [if_neg (by rw [n_10]; try simp (disch := omega) only [↓m_1, n_0, n_1, n_2, n_3, n_4, n_5, n_6, n_7, n_8, n_9, n_10, n_16, n_20, n_24, n_31, n_32, n_48, n_52, n_57, n_59, n_60, n_64, n_100, n_1024, nI_add, pk_mul, pk_sub, leI_t, leI_f, ltI_t, ltI_f, eqI_t, eqI_f, geM_t, eqM_f, eqM_g, ltM_f, ltM_t, leM_f, inb_nI, ix_nI, chk_tt, bnd_ss, up_ne, up_self, up_oth, if_true, if_false, reduceCtorEq, Nat.succ_ne_zero]; exact fun g => g), if_neg (by rw [n_5]; try simp (disch := omega) only [↓m_1, n_0, n_1, n_2, n_3, n_4, n_5, n_6, n_7, n_8, n_9, n_10, n_16, n_20, n_24, n_31, n_32, n_48, n_52, n_57, n_59, n_60, n_64, n_100, n_1024, nI_add, pk_mul, pk_sub, leI_t, leI_f, ltI_t, ltI_f, eqI_t, eqI_f, geM_t, eqM_f, eqM_g, ltM_f, ltM_t, leM_f, inb_nI, ix_nI, chk_tt, bnd_ss, up_ne, up_self, up_oth, if_true, if_false, reduceCtorEq, Nat.succ_ne_zero]; exact fun g => g), if_neg (fun g => c ((hx1 _ (by omega)).mp g)), isIn_t (by omega) (by omega), show (1 : Int32) <<< (nI j &&& 31) = nI (2 ^ j) from shl_nI (by omega), or_nI, ten_mul, nI_1, ix66, nI_1, chk_t (inb_nI (show 10 * (4 - d) + j < 50 by omega) (by decide)), chk_t (inb_nI (show 1024 * (4 - d + 1) + (t ||| 2 ^ j) < 6144 by omega) (by decide)), ix_nI (by omega), ix_nI (by omega), (hV (4 - d) j (by omega) hj).1, hT _ ho, nI_add]
      by_cases tj : t.testBit j = true
      · rw [if_pos tj, if_neg (show ¬ nI 1 = 0 by decide), if_pos (nI_pos' (by omega)), if_pos tj, Nat.max_eq_left (Nat.zero_le _)]
      · rw [if_neg tj, if_pos (show nI 0 = 0 from rfl), if_neg tj]
        by_cases e : va (4 - d) j + mo va ex d (t ||| 2 ^ j) ≤ M
        · rw [if_pos ((nI_leI (by omega) (by omega)).mpr e), Nat.max_eq_left e]
        · rw [if_neg (fun g => e ((nI_leI (by omega) (by omega)).mp g)), Nat.max_eq_right (by omega)]
    · try dsimp only
      unfold M_findMost_L43
      rw [if_pos (by decide)]
/-- one row of the table -/
theorem fmRow_t {S : St} {va : Nat → Nat → Nat} {ex b : Nat} {x1 : Int32} (hV : VM S va) (hex : ex < 6) (hb : b ≤ 5) (hx1 : ∀ b, b < 5 → (nI b = x1 ↔ b = ex)) (hS : ∀ c u, b < c → c ≤ 5 → u < 1024 → S 66 (1024 * c + u) = nI (mo va ex (5 - c) u)) : ∃ T a, lp (σ := Int32 × St) (fun q => M_findMost_L8 q.2 x1 (nI b) q.1) FZ (0, S) = some ((a, T), 1) ∧ (∀ r, r ≠ 66 → T r = S r) ∧ ∀ c u, b ≤ c → c ≤ 5 → u < 1024 → T 66 (1024 * c + u) = nI (mo va ex (5 - c) u) := by
  obtain ⟨q, hq, h1, h2, h3, h4⟩ := lp_cnt (st := fun q : Int32 × St => M_findMost_L8 q.2 x1 (nI b) q.1) (fun j q => q.1 = nI j ∧ (∀ r, r ≠ 66 → q.2 r = S r) ∧ (∀ c u, b < c → c ≤ 5 → u < 1024 → q.2 66 (1024 * c + u) = nI (mo va ex (5 - c) u)) ∧ ∀ u, u < j → q.2 66 (1024 * b + u) = nI (mo va ex (5 - b) u)) 1024 (by decide) (q0 := (0, S)) ⟨rfl, fun _ _ => rfl, hS, fun u hu => absurd hu (Nat.not_lt_zero u)⟩ (fun j q hj h => by
    obtain ⟨a, V⟩ := q
    obtain ⟨h1, h2, h3, h4⟩ := h
    have h1 : a = nI j := h1
    subst h1
    have h2 : ∀ r, r ≠ 66 → V r = S r := h2
    have h3 : ∀ c u, b < c → c ≤ 5 → u < 1024 → V 66 (1024 * c + u) = nI (mo va ex (5 - c) u) := h3
    have h4 : ∀ u, u < j → V 66 (1024 * b + u) = nI (mo va ex (5 - b) u) := h4
    have hVV : VM V va := fun b e hb he => by rw [h2 58 (by decide)]; exact hV b e hb he
    have fin : ∃ r, some ((nI (j + 1), up V 66 (1024 * b + j) (nI (mo va ex (5 - b) j))), 0) = some (r, 0) ∧ r.1 = nI (j + 1) ∧ (∀ k, k ≠ 66 → r.2 k = S k) ∧ (∀ c u, b < c → c ≤ 5 → u < 1024 → r.2 66 (1024 * c + u) = nI (mo va ex (5 - c) u)) ∧ ∀ u, u < j + 1 → r.2 66 (1024 * b + u) = nI (mo va ex (5 - b) u) := by
      refine ⟨_, rfl, rfl, fun k hk => ?_, fun c u hc hc5 hu => ?_, fun u hu => ?_⟩
      · show up V 66 _ _ k = S k
        rw [up_ne hk, h2 k hk]
      · show up V 66 _ _ 66 _ = _
        rw [up_oth (by omega)]; exact h3 c u hc hc5 hu
      · show up V 66 _ _ 66 _ = _
        by_cases c : u = j
        · rw [c, up_self]
        · rw [up_oth (by omega)]; exact h4 u (by omega)
    try dsimp only
    unfold M_findMost_L8 M_findMost_J38 M_findMost_J129
    rw [if_neg (by rw [n_1024]; try simp (disch := omega) only [↓m_1, n_0, n_1, n_2, n_3, n_4, n_5, n_6, n_7, n_8, n_9, n_10, n_16, n_20, n_24, n_31, n_32, n_48, n_52, n_57, n_59, n_60, n_64, n_100, n_1024, nI_add, pk_mul, pk_sub, leI_t, leI_f, ltI_t, ltI_f, eqI_t, eqI_f, geM_t, eqM_f, eqM_g, ltM_f, ltM_t, leM_f, inb_nI, ix_nI, chk_tt, bnd_ss, up_ne, up_self, up_oth, if_true, if_false, reduceCtorEq, Nat.succ_ne_zero]; exact fun g => g), nI_1, nI_1, ix66, ix66]
    by_cases c5 : b = 5
    · rw [if_pos (by rw [c5]; rfl)]
      have hl : lp (σ := Int32 × Int32) (fun q => M_findMost_L43 V x1 (nI b) (nI j) q.1 q.2) FZ (0, 0) = some ((0, 0), 1) := by
        refine lp_1 (fun _ => (0, 0)) 0 rfl (fun i hi => absurd hi (Nat.not_lt_zero i)) ?_ (by decide)
        try dsimp only
        unfold M_findMost_L43
        rw [if_neg (by decide), if_pos (by rw [c5]; decide)]
      rw [hl, bnd_ss, chk_t (inb_nI (show 1024 * b + j < 6144 by omega) (by decide)), ix_nI (by omega)]
      have e0 : mo va ex (5 - b) j = 0 := by rw [show 5 - b = 0 by omega]; rfl
      rw [e0] at fin
      exact fin
    · obtain ⟨d, hd⟩ : ∃ d, b = 4 - d ∧ d < 5 := ⟨4 - b, by omega, by omega⟩
      have hb4 := hd.1
      have e5 : 5 - b = d + 1 := by omega
      have hrow : ∀ u, u < 1024 → V 66 (1024 * (b + 1) + u) = nI (mo va ex d u) := fun u hu => by
        rw [h3 (b + 1) u (by omega) (by omega) hu, show 5 - (b + 1) = d by omega]
      obtain ⟨a, ha⟩ := fmIn_t (T := V) (ex := ex) (d := d) (t := j) (x1 := x1) hVV hex hd.2 hj hx1 (by rw [← hb4]; exact hrow)
      rw [← hb4] at ha
      rw [if_neg (by rw [n_5, nI_eq (by omega) (by omega)]; exact c5), chk_t (inb_nI (show 1024 * (b + 1) + j < 6144 by omega) (by decide)), ix_nI (by omega), hrow j hj, ha, bnd_ss, chk_t (inb_nI (show 1024 * b + j < 6144 by omega) (by decide)), ix_nI (by omega)]
      try dsimp only
      rw [← e5]
      exact fin) (fun q h => by
    obtain ⟨a, V⟩ := q
    obtain ⟨h1, -⟩ := h
    have h1 : a = nI 1024 := h1
    subst h1
    try dsimp only
    unfold M_findMost_L8
    rw [if_pos (by decide)])
  obtain ⟨a, T⟩ := q
  refine ⟨T, a, hq, h2, fun c u hc hc5 hu => ?_⟩
  by_cases e : c = b
  · rw [e]; exact h4 u hu
  · exact h3 c u (by omega) hc5 hu
theorem findMost_t {S : St} {va : Nat → Nat → Nat} {ex : Nat} {x1 : Int32} (hV : VM S va) (hex : ex < 6) (hx1 : ∀ b, b < 5 → (nI b = x1 ↔ b = ex)) : ∃ T, M_findMost S x1 = some T ∧ (∀ r, r ≠ 66 → T r = S r) ∧ ∀ b t, b ≤ 5 → t < 1024 → T 66 (1024 * b + t) = nI (mo va ex (5 - b) t) := by
  unfold M_findMost M_findMost_J155
  obtain ⟨q, hq, h1, h2, h3⟩ := lp_cnt (st := fun q : Int32 × St => M_findMost_L2 q.2 x1 q.1) (fun j q => q.1 = (if j = 6 then mI else nI (5 - j)) ∧ (∀ r, r ≠ 66 → q.2 r = S r) ∧ ∀ c u, 6 ≤ c + j → c ≤ 5 → u < 1024 → q.2 66 (1024 * c + u) = nI (mo va ex (5 - c) u)) 6 (by decide) (q0 := (5, S)) ⟨rfl, fun _ _ => rfl, fun c u hc hc5 => by omega⟩ (fun j q hj h => by
    obtain ⟨a, V⟩ := q
    obtain ⟨h1, h2, h3⟩ := h
    have h1 : a = (if j = 6 then mI else nI (5 - j)) := h1
    rw [if_neg (by omega)] at h1
    subst h1
    have h2 : ∀ r, r ≠ 66 → V r = S r := h2
    have hVV : VM V va := fun b e hb he => by rw [h2 58 (by decide)]; exact hV b e hb he
    obtain ⟨T, a, hT, t1, t2⟩ := fmRow_t (S := V) (ex := ex) (b := 5 - j) (x1 := x1) hVV hex (by omega) hx1 (fun c u hc hc5 hu => h3 c u (by omega) hc5 hu)
    try dsimp only
    unfold M_findMost_L2 M_findMost_J149
    rw [if_neg (nI_pos (by omega)), hT, bnd_ss]
    refine ⟨_, rfl, ?_, fun r hr => by show T r = S r; rw [t1 r hr, h2 r hr], fun c u hc hc5 hu => t2 c u (by omega) hc5 hu⟩
    show nI (5 - j) + -1 = _
    by_cases c : j = 5
    · rw [c]; rfl
    · rw [if_neg (by omega), show 5 - j = (5 - (j + 1)) + 1 by omega, pk_m1]) (fun q h => by
    obtain ⟨a, V⟩ := q
    obtain ⟨h1, -⟩ := h
    have h1 : a = (if 6 = 6 then mI else nI (5 - 6)) := h1
    rw [if_pos rfl] at h1
    subst h1
    try dsimp only
    unfold M_findMost_L2
    rw [if_pos (by decide)])
  rw [hq, bnd_ss]
  exact ⟨q.2, rfl, h2, fun b t hb ht => h3 b t (by omega) hb ht⟩
theorem x1_none : ∀ b, b < 5 → (nI b = (-1 : Int32) ↔ b = 5) := fun b hb => by
  rw [m_1, eqM_f (by omega)]
  exact ⟨fun g => g.elim, fun g => by omega⟩
theorem x1_bid {c : Nat} (hc : c < 5) : ∀ b, b < 5 → (nI b = nI c ↔ b = c) := fun b hb => nI_eq (by omega) (by omega)
/-- the reference's way through the table -/
theorem eachLp_t {T : St} {va : Nat → Nat → Nat} {n : Nat} {x1 : Int32} (hV : VM T va) (hT : ∀ b t, b ≤ 5 → t < 1024 → T 66 (1024 * b + t) = nI (mo va 5 (5 - b) t)) (hn : n ≤ 5) (hx : ∀ j, j ≤ n → (x1 < nI j ↔ j = n)) : ∃ a, lp (σ := Int32 × Int32 × Int32) (fun q => M_eachOf_L12 T x1 q.1 q.2.1 q.2.2) FZ (0, (-1), 0) = some ((a, if n = 0 then mI else eaX va (n - 1), nI n), 1) := by
  have hva : VB va := VM_b hV
  refine ⟨nI (cT va n), lp_1 (fun j => (nI (cT va j), if j = 0 then mI else eaX va (j - 1), nI j)) n rfl ?_ ?_ (by omega)⟩
  · intro j hj
    try dsimp only
    have hct := cT_lt (va := va) j (by omega)
    have hj5 : j < 5 := by omega
    have l1 := mo_le (va := va) (ex := 5) (d := 5 - j) (t := cT va j) (by omega) (by omega) hva
    have l2 := mo_le (va := va) (ex := 5) (d := 4 - j) (t := cT va j) (by omega) (by omega) hva
    unfold M_eachOf_L12
    rw [if_neg (fun g => by have := (hx j (by omega)).mp g; omega), nI_1, ix66, ix66, chk_t (inb_nI (show 1024 * j + cT va j < 6144 by omega) (by decide)), chk_t (inb_nI (show 1024 * (j + 1) + cT va j < 6144 by omega) (by decide)), ix_nI (by omega), ix_nI (by omega), hT (j + 1) _ (by omega) hct, hT j _ (by omega) hct, show 5 - (j + 1) = 4 - j by omega, if_neg (Nat.succ_ne_zero j), Nat.add_sub_cancel, cT_s]
    unfold eaX
    have hcc : cc va j = chc va j (cT va j) := rfl
    rw [hcc, chc_eq]
    by_cases c : mo va 5 (4 - j) (cT va j) = mo va 5 (5 - j) (cT va j)
    · rw [if_pos (by rw [c]), if_pos c, if_pos rfl, if_pos rfl]
      rfl
    · have hlt := chc_lt hj5 c
      rw [if_neg (by rw [nI_eq (by omega) (by omega)]; exact c), if_neg c, if_neg (Nat.succ_ne_zero _), if_neg (Nat.succ_ne_zero _), Nat.add_sub_cancel]
      have hl : lp (σ := Int32) (fun q => M_eachOf_L57 T x1 (nI (cT va j)) q (nI j) (nI (mo va 5 (5 - j) (cT va j)))) FZ 0 = some (nI (fe (chP va j (cT va j)) 10), 1) := by
        have hst : ∀ e, e < 10 → M_eachOf_L57 T x1 (nI (cT va j)) (nI e) (nI j) (nI (mo va 5 (5 - j) (cT va j))) = if chP va j (cT va j) e = true then some (nI e, 1) else some (nI (e + 1), 0) := by
          intro e he
          have ho := or_lt hct he
          have l3 := mo_le (va := va) (ex := 5) (d := 4 - j) (t := cT va j ||| 2 ^ e) (by omega) (by omega) hva
          have l4 := hva j e hj5 he
          unfold M_eachOf_L57
          rw [isIn_t (by omega) (by omega), show (1 : Int32) <<< (nI e &&& 31) = nI (2 ^ e) from shl_nI (by omega), or_nI, ten_mul, nI_1, ix66, nI_1, chk_t (inb_nI (show 10 * j + e < 50 by omega) (by decide)), chk_t (inb_nI (show 1024 * (j + 1) + (cT va j ||| 2 ^ e) < 6144 by omega) (by decide)), ix_nI (by omega), ix_nI (by omega), (hV j e hj5 he).1, hT (j + 1) _ (by omega) ho, show 5 - (j + 1) = 4 - j by omega, nI_add]
          by_cases te : (cT va j).testBit e = true
          · rw [if_pos te, if_neg (show ¬ nI 1 = 0 by decide), if_neg (fun g => (chP_iff.mp g).1 te)]
          · rw [if_neg te, if_pos (show nI 0 = 0 from rfl)]
            by_cases d : va j e + mo va 5 (4 - j) (cT va j ||| 2 ^ e) = mo va 5 (5 - j) (cT va j)
            · rw [if_pos (by rw [d]), if_pos (chP_iff.mpr ⟨te, d⟩)]
            · rw [if_neg (by rw [nI_eq (by omega) (by omega)]; exact d), if_neg (fun g => d (chP_iff.mp g).2)]
        refine lp_1 (fun e => nI e) (fe (chP va j (cT va j)) 10) rfl (fun e he => ?_) ?_ (by omega)
        · try dsimp only
          rw [hst e (by omega), if_neg (fe_no _ 10 e he)]
        · try dsimp only
          rw [hst _ hlt, if_pos (fe_yes _ 10 hlt)]
      rw [hl, bnd_ss]
      try dsimp only
      unfold M_eachOf_J108
      rw [show (1 : Int32) <<< (nI (fe (chP va j (cT va j)) 10) &&& 31) = nI (2 ^ (fe (chP va j (cT va j)) 10)) from shl_nI (by omega), or_nI, nI_1]
  · try dsimp only
    unfold M_eachOf_L12
    rw [if_pos ((hx n (Nat.le_refl _)).mpr rfl)]
theorem eachOf_b {S : St} {va : Nat → Nat → Nat} {b : Nat} (hV : VM S va) (hb : b < 5) : ∃ T, M_eachOf S (nI b) = some (eaX va b, T) ∧ (∀ r, r ≠ 66 → T r = S r) ∧ T 66 0 = nI (mo va 5 5 0) := by
  obtain ⟨T, hT, t1, t2⟩ := findMost_t hV (by omega) x1_none
  obtain ⟨a, ha⟩ := eachLp_t (T := T) (va := va) (n := b + 1) (x1 := nI b) (fun b e hb he => by rw [t1 58 (by decide)]; exact hV b e hb he) t2 (by omega) (fun j hj => by rw [nI_ltI (by omega) (by omega)]; omega)
  unfold M_eachOf M_eachOf_J120
  rw [hT, bnd_ss, ha, bnd_ss, if_neg (by rw [m_1]; try simp (disch := omega) only [↓m_1, n_0, n_1, n_2, n_3, n_4, n_5, n_6, n_7, n_8, n_9, n_10, n_16, n_20, n_24, n_31, n_32, n_48, n_52, n_57, n_59, n_60, n_64, n_100, n_1024, nI_add, pk_mul, pk_sub, leI_t, leI_f, ltI_t, ltI_f, eqI_t, eqI_f, geM_t, eqM_f, eqM_g, ltM_f, ltM_t, leM_f, inb_nI, ix_nI, chk_tt, bnd_ss, up_ne, up_self, up_oth, if_true, if_false, reduceCtorEq, Nat.succ_ne_zero]; exact fun g => g), if_neg (Nat.succ_ne_zero b), Nat.add_sub_cancel]
  exact ⟨T, rfl, t1, t2 0 0 (by omega) (by omega)⟩
theorem eachOf_n {S : St} {va : Nat → Nat → Nat} (hV : VM S va) : ∃ T, M_eachOf S (-1) = some (nI (mo va 5 5 0), T) ∧ (∀ r, r ≠ 66 → T r = S r) := by
  obtain ⟨T, hT, t1, t2⟩ := findMost_t hV (by omega) x1_none
  obtain ⟨a, ha⟩ := eachLp_t (T := T) (va := va) (n := 0) (x1 := -1) (fun b e hb he => by rw [t1 58 (by decide)]; exact hV b e hb he) t2 (by omega) (fun j hj => by
    have : j = 0 := by omega
    subst this
    exact ⟨fun _ => rfl, fun _ => by decide⟩)
  unfold M_eachOf M_eachOf_J120
  rw [hT, bnd_ss, ha, bnd_ss, if_pos rfl]
  have e : T 66 0 = nI (mo va 5 5 0) := t2 0 0 (by omega) (by omega)
  rw [e]
  exact ⟨T, rfl, t1⟩
def paX (va : Nat → Nat → Nat) (b : Nat) : Int32 := nI (mo va b 5 0) - (nI (mo va 5 5 0) - nI (if cc va b = 0 then 0 else va b (cc va b - 1)))
theorem paysOf_t {S : St} {va : Nat → Nat → Nat} {b : Nat} (hV : VM S va) (hb : b < 5) : ∃ T, M_paysOf S (nI b) = some (paX va b, T) ∧ (∀ r, r ≠ 66 → T r = S r) := by
  obtain ⟨T, hT, t1, t2⟩ := eachOf_b hV hb
  have hVT : VM T va := fun b e hb he => by rw [t1 58 (by decide)]; exact hV b e hb he
  obtain ⟨U, hU, u1, u2⟩ := findMost_t hVT (show b < 6 by omega) (x1_bid hb)
  have e : U 66 0 = nI (mo va b 5 0) := u2 0 0 (by omega) (by omega)
  have fin : ∀ k, M_paysOf_J32 T (nI b) (nI (mo va 5 5 0)) k = some (nI (mo va b 5 0) - (nI (mo va 5 5 0) - k), U) := fun k => by
    unfold M_paysOf_J32
    rw [hU, bnd_ss, e]
  refine ⟨U, ?_, fun r hr => by rw [u1 r hr, t1 r hr]⟩
  unfold M_paysOf
  rw [hT, bnd_ss]
  try dsimp only
  rw [t2]
  unfold paX eaX
  by_cases c : cc va b = 0
  · rw [if_pos c, if_pos c, if_pos (show mI = -1 from rfl), fin]
    rfl
  · have h1 := (chc_rng (t := cT va b) hb c).1
    have h1 : cc va b - 1 < 10 := h1
    rw [if_neg c, if_neg c, if_neg (by rw [m_1]; try simp (disch := omega) only [↓m_1, n_0, n_1, n_2, n_3, n_4, n_5, n_6, n_7, n_8, n_9, n_10, n_16, n_20, n_24, n_31, n_32, n_48, n_52, n_57, n_59, n_60, n_64, n_100, n_1024, nI_add, pk_mul, pk_sub, leI_t, leI_f, ltI_t, ltI_f, eqI_t, eqI_f, geM_t, eqM_f, eqM_g, ltM_f, ltM_t, leM_f, inb_nI, ix_nI, chk_tt, bnd_ss, up_ne, up_self, up_oth, if_true, if_false, reduceCtorEq, Nat.succ_ne_zero]; exact fun g => g), ten_mul, chk_t (inb_nI (show 10 * b + (cc va b - 1) < 50 by omega) (by decide)), ix_nI (by omega), (hVT b _ hb h1).1, fin]
theorem Fr66_inv {w : gw} {S T : St} {i : Nat} (h : ∀ r, r ≠ 66 → T r = S r) (hI : Inv w S i) : Inv w T i := by
  refine Inv_msk (msk_eq (fun r hr _ => h r (fun g => by rw [g] at hr; cases hr)) (fun j _ _ _ => ?_)) hI
  rw [h 49 (by decide)]
theorem xEach {w : gw} {S T : St} {b : Nat} (hT : X_solvedOneEach S = some T) (hO : OeOK T) (hb : b < 5) : X_each S (nI b) = some (eaX (vR (T 58)) b, T) := by
  unfold X_each
  rw [if_neg (by rw [m_1]; try simp (disch := omega) only [↓m_1, n_0, n_1, n_2, n_3, n_4, n_5, n_6, n_7, n_8, n_9, n_10, n_16, n_20, n_24, n_31, n_32, n_48, n_52, n_57, n_59, n_60, n_64, n_100, n_1024, nI_add, pk_mul, pk_sub, leI_t, leI_f, ltI_t, ltI_f, eqI_t, eqI_f, geM_t, eqM_f, eqM_g, ltM_f, ltM_t, leM_f, inb_nI, ix_nI, chk_tt, bnd_ss, up_ne, up_self, up_oth, if_true, if_false, reduceCtorEq, Nat.succ_ne_zero]; exact fun g => g), if_neg (isB_t hb), hT, bnd_ss, chk_t (inb_nI hb (by decide)), ix_nI (by omega), (hO.2 b hb).1]
  rfl
theorem xEachN {S T : St} (hT : X_solvedOneEach S = some T) (hO : OeOK T) : X_each S (-1) = some (nI (mo (vR (T 58)) 5 5 0), T) := by
  unfold X_each
  rw [if_pos rfl, hT, bnd_ss, hO.1]
theorem xPays {w : gw} {S T : St} {i b : Nat} (hT : X_solvedOneEach S = some T) (hI : Inv w T i) (hO : OeOK T) (hb : b < 5) : X_pays S (nI b) = some (paX (vR (T 58)) b, T) := by
  obtain ⟨v1, v2, v3, v4⟩ := Inv_vv hI
  have e41 : T 41 b = eaX (vR (T 58)) b := (hO.2 b hb).1
  unfold X_pays paX
  rw [if_neg (isB_t hb), hT, bnd_ss, chk_t (inb_nI hb (by decide)), ix_nI (by omega), e41, valueTo_t v1 hb, bnd_ss, chk_t (inb_nI hb (by decide)), (hO.2 b hb).2, hO.1]
theorem m14 {x : Int32} : ((x = -1 ∨ sm x 4) → M_in x.toInt64 (-1) 4 = 1) ∧ (¬ (x = -1 ∨ sm x 4) → M_in x.toInt64 (-1) 4 = 0) := by
  rw [mi_iff]
  have e1 : (-1 : Int64).toInt = -1 := by decide
  have e4 : (4 : Int64).toInt = 4 := by decide
  have em : (-1 : Int32).toInt = -1 := by decide
  have key : (-1 ≤ x.toInt64 ∧ x.toInt64 ≤ 4) ↔ (x = -1 ∨ sm x 4) := by
    rw [Int64.le_iff_toInt_le, Int64.le_iff_toInt_le, wide_toInt, e1, e4, sm_iff (by decide)]
    constructor
    · rintro ⟨h1, h2⟩
      by_cases c : x.toInt = -1
      · exact Or.inl (Int32.toInt_inj.mp (by rw [c, em]))
      · exact Or.inr ⟨by omega, by omega⟩
    · rintro (h | ⟨h1, h2⟩)
      · rw [h, em]; omega
      · omega
  exact ⟨fun c => if_pos (key.mpr c), fun c => if_neg (fun g => c (key.mp g))⟩
theorem op_each {w : gw} {S : St} {i : Nat} (h : Inv w S i) (hi : i < 512) (a1 : Int32) : ∃ z1 z2, X_each S a1 = some z1 ∧ M_each z1.2 a1 = some z2 ∧ z1.1 = z2.1 ∧ Inv w z2.2 (i + 1) := by
  by_cases c : a1 = -1
  · subst c
    obtain ⟨T, hT, hI, hO, hF⟩ := XE h (by omega)
    obtain ⟨v1, v2, v3, v4⟩ := Inv_vv hI
    obtain ⟨U, hU, u1⟩ := eachOf_n v2
    refine ⟨_, (_, U), xEachN hT hO, ?_, rfl, Inv_next (Fr66_inv u1 hI)⟩
    show M_each T _ = _
    unfold M_each
    rw [if_neg (by rw [m14.1 (Or.inl rfl)]; exact n10), hU, bnd_ss]
  · rcases sm_or a1 4 with h1 | h1
    · have g1 : ¬ M_in a1.toInt64 (-1) 4 = 0 := by rw [m14.1 (Or.inr h1)]; exact n10
      obtain ⟨b, hb, rfl⟩ := h1
      obtain ⟨T, hT, hI, hO, hF⟩ := XE h (by omega)
      obtain ⟨v1, v2, v3, v4⟩ := Inv_vv hI
      obtain ⟨U, hU, u1, -⟩ := eachOf_b (b := b) v2 (by omega)
      refine ⟨_, (_, U), xEach (w := w) hT hO (by omega), ?_, rfl, Inv_next (Fr66_inv u1 hI)⟩
      show M_each T _ = _
      unfold M_each
      rw [if_neg g1, hU, bnd_ss]
    · refine ⟨(-2, S), (-2, S), ?_, ?_, rfl, Inv_next h⟩
      · unfold X_each
        rw [if_neg c, if_pos (show X_isBidder a1 = 0 from xw_f h1 (by decide))]
      · show M_each S _ = _
        unfold M_each
        rw [if_pos (m14.2 (fun g => g.elim c h1))]
theorem op_pays {w : gw} {S : St} {i : Nat} (h : Inv w S i) (hi : i < 512) (a1 : Int32) : ∃ z1 z2, X_pays S a1 = some z1 ∧ M_pays z1.2 a1 = some z2 ∧ z1.1 = z2.1 ∧ Inv w z2.2 (i + 1) := by
  rcases sm_or a1 4 with h1 | h1
  · have gm : ¬ M_isBidder a1 = 0 := by rw [show M_isBidder a1 = 1 from mi_t h1 (by decide)]; exact n10
    obtain ⟨b, hb, rfl⟩ := h1
    obtain ⟨T, hT, hI, hO, hF⟩ := XE h (by omega)
    obtain ⟨v1, v2, v3, v4⟩ := Inv_vv hI
    obtain ⟨U, hU, u1⟩ := paysOf_t (b := b) v2 (by omega)
    refine ⟨_, (_, U), xPays hT hI hO (by omega), ?_, rfl, Inv_next (Fr66_inv u1 hI)⟩
    show M_pays T _ = _
    unfold M_pays
    rw [if_neg gm, hU, bnd_ss]
  · refine ⟨(-2, S), (-2, S), ?_, ?_, rfl, Inv_next h⟩
    · unfold X_pays
      rw [if_pos (show X_isBidder a1 = 0 from xw_f h1 (by decide))]
    · show M_pays S _ = _
      unfold M_pays
      rw [if_pos (show M_isBidder a1 = 0 from mi_f h1 (by decide))]
