/-! ===== owners ===== -/
noncomputable def mostX (S : St) : Nat := ix (S 62 2)
noncomputable def wyX (S : St) : Nat := if sgW (S 67) (ix (S 49 22)) = true then prd (wyF (nR (S 57)) (snX S) (mostX S)) else 0
noncomputable def whX (S : St) (e : Nat) : Nat := if wyX S = 0 then 0 else if snX S e = -1 then 0 else bwN (nR (S 57)) (ix (snX S e)) 5
theorem Inv_mo {w : gw} {S : St} {i : Nat} (h : Inv w S i) : S 62 2 = nI (mostX S) ∧ S 24 2 = nI (mostX S) ∧ 1 ≤ mostX S ∧ mostX S ≤ 10 := by
  obtain ⟨-, -, -, -, -, -, -, -, -, h1, v, v1, v2, v3⟩ := h.2.1
  have h1 : S 24 2 = S 62 2 := h1
  have v3 : S 62 2 = nI v := v3
  have e : mostX S = v := by unfold mostX; rw [v3, ix_nI (by omega)]
  rw [e]
  exact ⟨v3, h1.trans v3, v1, v2⟩
theorem sn_rng {w : gw} {S : St} {i : Nat} (h : Inv w S i) (e : Nat) : snX S e = -1 ∨ (snX S e = nI (ix (snX S e)) ∧ ix (snX S e) ≤ 4) := by
  obtain ⟨s1, s2, s3, s4, s5⟩ := Inv_sg h
  rcases sgP_rng (r := S 67) (ix (S 49 22)) (fun j hj => (s3 j hj).2) e with g | g
  · exact Or.inl g
  · exact Or.inr (sm_nI g (by omega))
theorem sn_8 {w : gw} {S : St} {i : Nat} (h : Inv w S i) : cS (qs (snX S)) 10 ≤ 8 := by
  obtain ⟨s1, -⟩ := Inv_sg h
  exact Nat.le_trans (cS_8 (r := S 67) (ix (S 49 22))) s1
noncomputable def akX (S : St) : Nat → Nat := ak (qs (snX S)) 10
noncomputable def aX (S : St) (j : Nat) : Nat := ix (snX S (akX S j))
noncomputable def nsX (S : St) : Nat := cS (qs (snX S)) 10
theorem ak_X {w : gw} {S : St} {i j : Nat} (h : Inv w S i) (hj : j < nsX S) : akX S j < 10 ∧ snX S (akX S j) = nI (aX S j) ∧ aX S j ≤ 4 := by
  obtain ⟨h1, h2⟩ := ak_in (Q := qs (snX S)) 10 j hj
  refine ⟨h1, ?_⟩
  rcases sn_rng h (akX S j) with g | g
  · exact absurd g (qs_t.mp h2)
  · exact g
theorem wy_cn {w : gw} {S : St} {i : Nat} (h : Inv w S i) (f : Nat → Nat) : prd (wyF (nR (S 57)) (snX S) (mostX S)) = cn (nR (S 57)) (aX S) (mostX S) (nsX S) 0 (hc f 0) := by
  rw [cn_prd (nsX S) 0 (hc f 0) (fun j _ hj => by have := (ak_X h (j := j) (by omega)).2.2; omega)]
  refine prd_congr (fun p hp => ?_)
  have e1 : Dp (fun b => decide (nR (S 57) b = p)) (fun b => mostX S - hc f 0 b) 5 (rem (aX S) p (nsX S) 0) = Dp (fun b => decide (nR (S 57) b = p)) (fun _ => mostX S) 5 (rem (aX S) p (nsX S) 0) := Dp_congr 5 _ (fun b _ _ => rfl)
  rw [e1, Dp_wd]
  unfold wyF
  have e2 : rem (aX S) p (nsX S) 0 = evN (snX S) p 10 := by
    unfold rem
    rw [smE_congr (g := fun j => if (fun x => ix (snX S x)) (ak (qs (snX S)) 10 j) = p then 1 else 0) (nsX S) (fun j _ => by rw [Nat.zero_add]; rfl)]
    unfold nsX
    rw [ak_cnt (Q := qs (snX S)) (v := fun x => ix (snX S x)) (p := p) 10]
    refine smE_congr 10 (fun e _ => ?_)
    (try dsimp only)
    by_cases c : snX S e = nI p
    · rw [if_pos c, if_pos]
      refine ⟨qs_t.mpr (fun g => ?_), by rw [c, ix_nI (by omega)]⟩
      rw [c, m_1, eqM_f (by omega)] at g
      exact g
    · rw [if_neg c, if_neg]
      rintro ⟨g1, g2⟩
      rcases sn_rng h e with k | k
      · exact (qs_t.mp g1) k
      · exact c (by rw [k.1, g2])
  rw [e2]
theorem wyX_le {w : gw} {S : St} {i : Nat} (h : Inv w S i) : wyX S ≤ 390625 := by
  unfold wyX
  split
  · rw [wy_cn h (fun _ => 0)]
    refine Nat.le_trans (cn_le _ _ _) ?_
    have : nsX S ≤ 8 := sn_8 h
    exact Nat.le_trans (Nat.pow_le_pow_right (by decide) this) (by decide : 5 ^ 8 ≤ 390625)
  · omega
/-! the reference -/
theorem findSeen_t {w : gw} {S : St} {i : Nat} (h : Inv w S i) : ∃ T, M_findSeen S = some (if sgW (S 67) (ix (S 49 22)) = true then 1 else 0, T) ∧ (∀ r, r ≠ 68 → r ≠ 69 → T r = S r) ∧ ∀ e, e < 10 → T 68 e = snX S e ∧ T 69 e = 0 := by
  obtain ⟨s1, s2, s3, s4, s5⟩ := Inv_sg h
  unfold M_findSeen
  obtain ⟨q, hq, h1, h2, h3⟩ := lp_cnt (st := fun q : Int32 × St => M_findSeen_L4 q.2 1 q.1) (fun j q => q.1 = nI j ∧ (∀ r, r ≠ 68 → r ≠ 69 → q.2 r = S r) ∧ ∀ e, e < j → q.2 68 e = -1 ∧ q.2 69 e = 0) 10 (by decide) (q0 := (0, S)) ⟨rfl, fun _ _ _ => rfl, fun e he => absurd he (Nat.not_lt_zero e)⟩ (fun j q hj hq => by
    obtain ⟨z, V⟩ := q
    obtain ⟨h1, h2, h3⟩ := hq
    have h1 : z = nI j := h1
    subst h1
    try dsimp only
    unfold M_findSeen_L4
    rw [if_neg (by rw [n_10]; try simp (disch := omega) only [↓m_1, n_0, n_1, n_2, n_3, n_4, n_5, n_6, n_7, n_8, n_9, n_10, n_16, n_20, n_24, n_31, n_32, n_48, n_52, n_57, n_59, n_60, n_64, n_100, n_1024, nI_add, pk_mul, pk_sub, leI_t, leI_f, ltI_t, ltI_f, eqI_t, eqI_f, geM_t, eqM_f, eqM_g, ltM_f, ltM_t, leM_f, inb_nI, ix_nI, chk_tt, bnd_ss, up_ne, up_self, up_oth, if_true, if_false, reduceCtorEq, Nat.succ_ne_zero]; exact fun g => g), chk_t (inb_nI hj (by decide)), chk_t (inb_nI hj (by decide)), ix_nI (by omega), nI_1]
    refine ⟨_, rfl, rfl, fun r x y => ?_, fun e he => ?_⟩
    · show up (up V 68 j _) 69 j _ r = S r
      rw [up_ne y, up_ne x]; exact h2 r x y
    · show up (up V 68 j (-1)) 69 j 0 68 e = _ ∧ up (up V 68 j (-1)) 69 j 0 69 e = _
      by_cases g : e = j
      · rw [g, up_ne (by decide), up_self, up_self]; exact ⟨rfl, rfl⟩
      · rw [up_ne (by decide), up_oth g, up_oth g, up_ne (by decide)]; exact h3 e (by omega)) (fun q hq => by
    obtain ⟨z, V⟩ := q
    obtain ⟨h1, -⟩ := hq
    have h1 : z = nI 10 := h1
    subst h1
    try dsimp only
    unfold M_findSeen_L4
    rw [if_pos (by decide)])
  rw [hq, bnd_ss]
  obtain ⟨z, V⟩ := q
  have h2 : ∀ r, r ≠ 68 → r ≠ 69 → V r = S r := h2
  have h3 : ∀ e, e < 10 → V 68 e = -1 ∧ V 69 e = 0 := h3
  try dsimp only
  unfold M_findSeen_J30 M_findSeen_J110
  obtain ⟨q, hq, k1, k2, k3, k4⟩ := lp_cnt (st := fun q : Int32 × Int32 × St => M_findSeen_L32 q.2.2 q.1 q.2.1) (fun j q => q.1 = (if sgW (S 67) j = true then 1 else 0) ∧ q.2.1 = nI j ∧ (∀ r, r ≠ 68 → q.2.2 r = V r) ∧ ∀ e, e < 10 → q.2.2 68 e = sgP (S 67) j e) (ix (S 49 22)) (by omega) (q0 := (1, 0, V)) ⟨rfl, rfl, fun _ _ => rfl, fun e he => (h3 e he).1⟩ (fun j q hj hq => by
    obtain ⟨x1, x2, Z⟩ := q
    obtain ⟨g1, g2, g3, g4⟩ := hq
    have g2 : x2 = nI j := g2
    subst g2
    have g1 : x1 = (if sgW (S 67) j = true then 1 else 0) := g1
    have g3 : ∀ r, r ≠ 68 → Z r = V r := g3
    have g4 : ∀ e, e < 10 → Z 68 e = sgP (S 67) j e := g4
    have e67 : Z 67 = S 67 := by rw [g3 67 (by decide), h2 67 (by decide) (by decide)]
    have e49 : Z 49 22 = nI (ix (S 49 22)) := by rw [g3 49 (by decide), h2 49 (by decide) (by decide)]; exact s2
    obtain ⟨⟨e0, he0, r1⟩, hr2⟩ := s3 j hj
    have hdb : (2 : Int32) * nI j = nI (2 * j) := by rw [n_2, pk_mul]
    have fin : ∀ t0, ∃ r, M_findSeen_J87 Z (nI j) (nI e0) t0 = some (r, 0) ∧ r.1 = t0 ∧ r.2.1 = nI (j + 1) ∧ (∀ r', r' ≠ 68 → r.2.2 r' = V r') ∧ ∀ e, e < 10 → r.2.2 68 e = sgP (S 67) (j + 1) e := by
      intro t0
      unfold M_findSeen_J87
      rw [hdb, nI_1, chk_t (inb_nI (show 2 * j + 1 < 16 by omega) (by decide)), chk_t (inb_nI (show e0 < 10 by omega) (by decide)), ix_nI (by omega), ix_nI (by omega), e67, nI_1]
      refine ⟨_, rfl, rfl, rfl, fun r hr => ?_, fun e he => ?_⟩
      · show up Z 68 _ _ r = V r
        rw [up_ne hr, g3 r hr]
      · show up Z 68 _ _ 68 e = if S 67 (2 * j) = nI e then S 67 (2 * j + 1) else sgP (S 67) j e
        rw [r1]
        by_cases g : e = e0
        · rw [g, up_self, if_pos rfl]
        · rw [up_oth g, if_neg (by rw [nI_eq (by omega) (by omega)]; omega), g4 e he]
    have hsw : sgW (S 67) (j + 1) = (sgW (S 67) j && (decide (sgP (S 67) j e0 = -1) || decide (sgP (S 67) j e0 = S 67 (2 * j + 1)))) := by
      show (sgW (S 67) j && (decide (sgP (S 67) j (ix (S 67 (2 * j))) = -1) || decide (sgP (S 67) j (ix (S 67 (2 * j))) = S 67 (2 * j + 1)))) = _
      rw [r1, ix_nI (by omega)]
    try dsimp only
    unfold M_findSeen_L32 M_findSeen_J86 M_findSeen_J82
    rw [e49, if_neg (nI_ge hj (by omega)), hdb, chk_t (inb_nI (show 2 * j < 16 by omega) (by decide)), ix_nI (show 2 * j < 2 ^ 31 by omega), e67, r1, chk_t (inb_nI (show e0 < 10 by omega) (by decide)), chk_t (inb_nI (show e0 < 10 by omega) (by decide)), nI_1, chk_t (inb_nI (show 2 * j + 1 < 16 by omega) (by decide)), ix_nI (show e0 < 2 ^ 31 by omega), ix_nI (show 2 * j + 1 < 2 ^ 31 by omega), g4 e0 (by omega), g1, hsw]
    by_cases c : sgW (S 67) j = true
    · rw [if_pos c, if_neg n10, c, Bool.true_and]
      by_cases c1 : sgP (S 67) j e0 = -1
      · rw [if_pos c1, if_pos (by rw [decide_eq_true c1]; rfl)]
        exact fin 1
      · rw [if_neg c1]
        by_cases c2 : sgP (S 67) j e0 = S 67 (2 * j + 1)
        · rw [if_pos c2, if_pos (by rw [decide_eq_true c2, Bool.or_true])]
          exact fin 1
        · rw [if_neg c2, if_neg (by rw [decide_eq_false c1, decide_eq_false c2]; decide)]
          exact fin 0
    · rw [if_neg c, if_pos rfl, if_neg (fun g => c ((Bool.and_eq_true _ _).mp g).1)]
      exact fin 0) (fun q hq => by
    obtain ⟨x1, x2, Z⟩ := q
    obtain ⟨g1, g2, g3, -⟩ := hq
    have g2 : x2 = nI (ix (S 49 22)) := g2
    subst g2
    have g3 : ∀ r, r ≠ 68 → Z r = V r := g3
    have e49 : Z 49 22 = nI (ix (S 49 22)) := by rw [g3 49 (by decide), h2 49 (by decide) (by decide)]; exact s2
    try dsimp only
    unfold M_findSeen_L32
    rw [e49, if_pos (nI_le (Nat.le_refl _) (by omega))])
  rw [hq, bnd_ss]
  obtain ⟨x1, x2, T⟩ := q
  have k1 : x1 = (if sgW (S 67) (ix (S 49 22)) = true then 1 else 0) := k1
  subst k1
  have k3 : ∀ r, r ≠ 68 → T r = V r := k3
  try dsimp only
  rw [chk_t (by split <;> rfl)]
  exact ⟨T, rfl, fun r x y => by rw [k3 r x, h2 r x y], fun e he => ⟨k4 e he, by rw [k3 69 (by decide)]; exact (h3 e he).2⟩⟩
def FrW (S T : St) : Prop := ∀ r, r ≠ 68 → r ≠ 69 → r ≠ 70 → r ≠ 71 → r ≠ 72 → T r = S r
theorem findWays_t {w : gw} {S : St} {i : Nat} (h : Inv w S i) : ∃ T, M_findWays S = some (nI (wyX S), T) ∧ FrW S T ∧ ∀ e, e < 10 → T 69 e = nI (whX S e) := by
  obtain ⟨T0, hT0, t1, t2⟩ := findSeen_t h
  unfold M_findWays
  rw [hT0, bnd_ss]
  try dsimp only
  by_cases c : sgW (S 67) (ix (S 49 22)) = true
  · rw [if_pos c, if_neg n10]
    obtain ⟨q, hq, h1, h2, h3⟩ := lp_cnt (st := fun q : Int32 × St => M_findWays_L11 q.2 q.1) (fun j q => q.1 = nI j ∧ (∀ r, r ≠ 70 → q.2 r = T0 r) ∧ ∀ b, b < j → q.2 70 b = 0) 5 (by decide) (q0 := (0, T0)) ⟨rfl, fun _ _ => rfl, fun e he => absurd he (Nat.not_lt_zero e)⟩ (fun j q hj hq => by
      obtain ⟨z, V⟩ := q
      obtain ⟨h1, h2, h3⟩ := hq
      have h1 : z = nI j := h1
      subst h1
      try dsimp only
      unfold M_findWays_L11
      rw [if_neg (by rw [n_5]; try simp (disch := omega) only [↓m_1, n_0, n_1, n_2, n_3, n_4, n_5, n_6, n_7, n_8, n_9, n_10, n_16, n_20, n_24, n_31, n_32, n_48, n_52, n_57, n_59, n_60, n_64, n_100, n_1024, nI_add, pk_mul, pk_sub, leI_t, leI_f, ltI_t, ltI_f, eqI_t, eqI_f, geM_t, eqM_f, eqM_g, ltM_f, ltM_t, leM_f, inb_nI, ix_nI, chk_tt, bnd_ss, up_ne, up_self, up_oth, if_true, if_false, reduceCtorEq, Nat.succ_ne_zero]; exact fun g => g), chk_t (inb_nI hj (by decide)), ix_nI (by omega), nI_1]
      refine ⟨_, rfl, rfl, fun r x => ?_, fun b hb => ?_⟩
      · show up V 70 j _ r = T0 r
        rw [up_ne x]; exact h2 r x
      · show up V 70 j _ 70 b = 0
        by_cases g : b = j
        · rw [g, up_self]
        · rw [up_oth g]; exact h3 b (by omega)) (fun q hq => by
      obtain ⟨z, V⟩ := q
      obtain ⟨h1, -⟩ := hq
      have h1 : z = nI 5 := h1
      subst h1
      try dsimp only
      unfold M_findWays_L11
      rw [if_pos (by decide)])
    rw [hq, bnd_ss]
    obtain ⟨z, T1⟩ := q
    have h2 : ∀ r, r ≠ 70 → T1 r = T0 r := h2
    have h3 : ∀ b, b < 5 → T1 70 b = 0 := h3
    try dsimp only
    unfold M_findWays_J29
    obtain ⟨q, hq, k1, k2, k3, k4⟩ := lp_cnt (st := fun q : Int32 × Int32 × St => M_findWays_L33 q.2.2 q.1 q.2.1) (fun e q => q.1 = nI (cS (qs (snX S)) e) ∧ q.2.1 = nI e ∧ (∀ r, r ≠ 71 → q.2.2 r = T1 r) ∧ ∀ j, j < cS (qs (snX S)) e → q.2.2 71 j = nI (ak (qs (snX S)) e j)) 10 (by decide) (q0 := (0, 0, T1)) ⟨rfl, rfl, fun _ _ => rfl, fun j hj => absurd hj (Nat.not_lt_zero j)⟩ (fun e q he hq => by
      obtain ⟨x1, x2, V⟩ := q
      obtain ⟨g1, g2, g3, g4⟩ := hq
      have g1 : x1 = nI (cS (qs (snX S)) e) := g1
      have g2 : x2 = nI e := g2
      subst g1
      subst g2
      have g3 : ∀ r, r ≠ 71 → V r = T1 r := g3
      have g4 : ∀ j, j < cS (qs (snX S)) e → V 71 j = nI (ak (qs (snX S)) e j) := g4
      have e68 : V 68 e = snX S e := by rw [g3 68 (by decide), h2 68 (by decide)]; exact (t2 e he).1
      have hle : cS (qs (snX S)) e ≤ e := by
        have := smE_bd (f := fun e => if qs (snX S) e = true then 1 else 0) (m := 1) e (fun e _ => by (try dsimp only); split <;> omega)
        unfold cS
        omega
      have hs : cS (qs (snX S)) (e + 1) = cS (qs (snX S)) e + (if qs (snX S) e = true then 1 else 0) := rfl
      have ha : ak (qs (snX S)) (e + 1) = if qs (snX S) e = true then updN (ak (qs (snX S)) e) (cS (qs (snX S)) e) e else ak (qs (snX S)) e := rfl
      try dsimp only
      unfold M_findWays_L33
      rw [if_neg (by rw [n_10]; try simp (disch := omega) only [↓m_1, n_0, n_1, n_2, n_3, n_4, n_5, n_6, n_7, n_8, n_9, n_10, n_16, n_20, n_24, n_31, n_32, n_48, n_52, n_57, n_59, n_60, n_64, n_100, n_1024, nI_add, pk_mul, pk_sub, leI_t, leI_f, ltI_t, ltI_f, eqI_t, eqI_f, geM_t, eqM_f, eqM_g, ltM_f, ltM_t, leM_f, inb_nI, ix_nI, chk_tt, bnd_ss, up_ne, up_self, up_oth, if_true, if_false, reduceCtorEq, Nat.succ_ne_zero]; exact fun g => g), chk_t (inb_nI he (by decide)), ix_nI (show e < 2 ^ 31 by omega), e68, hs, ha]
      by_cases d : snX S e = -1
      · have dq : ¬ qs (snX S) e = true := fun g => (qs_t.mp g) d
        rw [if_pos d, if_neg dq, if_neg dq, Nat.add_zero, nI_1]
        exact ⟨_, rfl, rfl, rfl, g3, g4⟩
      · have dq : qs (snX S) e = true := qs_t.mpr d
        rw [if_neg d, if_pos dq, if_pos dq, chk_t (inb_nI (show cS (qs (snX S)) e < 10 by omega) (by decide)), ix_nI (by omega), nI_1, nI_1]
        refine ⟨_, rfl, rfl, rfl, fun r x => ?_, fun j hj => ?_⟩
        · show up V 71 _ _ r = T1 r
          rw [up_ne x, g3 r x]
        · show up V 71 _ _ 71 j = _
          by_cases g : j = cS (qs (snX S)) e
          · rw [g, up_self, updN_s]
          · rw [up_oth g, updN_n g]; exact g4 j (by omega)) (fun q hq => by
      obtain ⟨x1, x2, V⟩ := q
      obtain ⟨g1, g2, -⟩ := hq
      have g2 : x2 = nI 10 := g2
      subst g2
      try dsimp only
      unfold M_findWays_L33
      rw [if_pos (by decide)])
    rw [hq, bnd_ss]
    obtain ⟨x1, x2, T2⟩ := q
    have k1 : x1 = nI (nsX S) := k1
    subst k1
    have k3 : ∀ r, r ≠ 71 → T2 r = T1 r := k3
    have k4 : ∀ j, j < nsX S → T2 71 j = nI (akX S j) := k4
    have r2 : ∀ r, r ≠ 68 → r ≠ 69 → r ≠ 70 → r ≠ 71 → T2 r = S r := fun r x y z u => by rw [k3 r u, h2 r z, t1 r x y]
    have hn8 : nsX S ≤ 8 := sn_8 h
    try dsimp only
    unfold M_findWays_J65 M_findWays_J280
    have hpr := fun b (hb : b < 5) => Inv_pg h hb
    obtain ⟨m1, m2, m3, m4⟩ := Inv_mo h
    have hD : DC T2 (nsX S) (mostX S) (nR (S 57)) (aX S) (akX S) := by
      refine ⟨hn8, fun b hb => ?_, ⟨?_, m4⟩, fun j hj => ?_⟩
      · rw [r2 57 (by decide) (by decide) (by decide) (by decide)]; exact ⟨(hpr b hb).1, (hpr b hb).2.1⟩
      · rw [r2 62 (by decide) (by decide) (by decide) (by decide)]; exact m1
      · obtain ⟨a1, a2, a3⟩ := ak_X h hj
        refine ⟨k4 j hj, a1, ?_, a3⟩
        rw [k3 68 (by decide), h2 68 (by decide), (t2 _ a1).1]; exact a2
    have hDS : DS T2 (fun _ => 0) 0 (fun _ => 0) (up T2 72 0 (-1)) := by
      refine ⟨fun r x y z => up_ne z, fun b hb => ?_, fun j hj => absurd hj (Nat.not_lt_zero j), fun e he => ?_⟩
      · rw [up_ne (by decide), k3 70 (by decide)]; exact h3 b hb
      · rw [up_ne (by decide), k3 69 (by decide), h2 69 (by decide)]; exact ⟨(t2 e he).2, show (0 : Nat) < 32 by omega⟩
    obtain ⟨N, T3, W, n1, n2, n3, n4⟩ := tree_t hD (nsX S) 0 (fun _ => 0) (fun _ => 0) (up T2 72 0 (-1)) 0 (by omega) (fun j hj => absurd hj (Nat.not_lt_zero j)) hDS up_self
    have hN := sd_mono (nsX S) hn8
    obtain ⟨M, hM⟩ : ∃ M, FZ = N + (M + 1) := ⟨FZ - N - 1, by rw [FZ_eq]; omega⟩
    have hlp : lp (σ := Int32 × Int32 × St) (fun q => M_findWays_L76 q.2.2 (nI (nsX S)) q.1 q.2.1) FZ (0, 0, up T2 72 0 (-1)) = some ((nI (0 + cn (nR (S 57)) (aX S) (mostX S) (nsX S) 0 (hc (fun _ => 0) 0)), nI 0 + (-1), T3), 1) := by
      rw [hM]
      refine (n2 (M + 1)).trans (lp_s1 (t := 0) ?_)
      try dsimp only
      unfold M_findWays_L76
      rw [if_pos (by decide)]
    rw [hlp, bnd_ss, Nat.zero_add, ← wy_cn h]
    have hwy : wyX S = prd (wyF (nR (S 57)) (snX S) (mostX S)) := if_pos c
    refine ⟨T3, by rw [hwy], fun r x y z u v => by rw [n3.1 r y z v, r2 r x y z u], fun e he => ?_⟩
    rw [(n3.2.2.2 e he).1]
    have hcp := cn_pos (pr := nR (S 57)) (a := aX S) (c := mostX S) (n := nsX S) (nsX S) 0 (fun _ => 0) (by omega) (fun j hj => absurd hj (Nat.not_lt_zero j))
    rw [← wy_cn h, ← hwy] at hcp
    refine congrArg nI (Nat.eq_of_testBit_eq (fun b => ?_))
    rw [Bool.eq_iff_iff, n4 e he b, Nat.zero_testBit]
    unfold whX
    by_cases w0 : wyX S = 0
    · rw [if_pos w0, Nat.zero_testBit]
      constructor
      · rintro (g | ⟨g, g1, g2, -⟩)
        · exact g
        · exact absurd w0 (hcp.mpr ⟨g, g1, g2⟩)
      · exact fun g => Or.inl g
    · rw [if_neg w0]
      by_cases s0 : snX S e = -1
      · rw [if_pos s0, Nat.zero_testBit]
        constructor
        · rintro (g | ⟨g, g1, g2, j, g3, g4, g5⟩)
          · exact g
          · have := (ak_X h g3)
            rw [g4, s0, m_1] at this
            have x := this.2.1
            rw [eqM_g (by omega)] at x
            exact x.elim
        · exact fun g => Or.inl g
      · rw [if_neg s0, bwN_bit]
        constructor
        · rintro (g | ⟨g, g1, g2, j, g3, g4, g5⟩)
          · exact absurd g (by decide)
          · obtain ⟨v1, v2, -⟩ := g2 j g3
            rw [g5] at v1 v2
            refine ⟨v1, v2.trans ?_⟩
            unfold aX
            rw [g4]
        · rintro ⟨g1, g2⟩
          obtain ⟨j, hj, hje⟩ := ak_on (Q := qs (snX S)) 10 e he (qs_t.mpr s0)
          obtain ⟨g, -, hg⟩ := hcp.mp w0
          have hje : akX S j = e := hje
          obtain ⟨g', hg1, hg2⟩ := Vd_swap hg (j := j) (b := b) hj g1 (by rw [g2]; unfold aX; rw [hje])
          exact Or.inr ⟨g', fun i hi => absurd hi (Nat.not_lt_zero i), hg1, j, hj, hje, hg2⟩
  · have hwy : wyX S = 0 := if_neg c
    rw [if_neg c, if_pos rfl, hwy]
    refine ⟨T0, rfl, fun r x y _ _ _ => t1 r x y, fun e he => ?_⟩
    rw [(t2 e he).2]
    unfold whX
    rw [if_pos hwy]
    rfl
theorem FrW_inv {w : gw} {S T : St} {i : Nat} (h : FrW S T) (hI : Inv w S i) : Inv w T i := by
  refine Inv_msk (msk_eq (fun r hr _ => h r (fun g => by rw [g] at hr; cases hr) (fun g => by rw [g] at hr; cases hr) (fun g => by rw [g] at hr; cases hr) (fun g => by rw [g] at hr; cases hr) (fun g => by rw [g] at hr; cases hr)) (fun j _ _ _ => ?_)) hI
  rw [h 49 (by decide) (by decide) (by decide) (by decide) (by decide)]
theorem Fr47_inv {w : gw} {S T : St} {i : Nat} (h : ∀ r, r ≠ 47 → T r = S r) (hI : Inv w S i) : Inv w T i := by
  refine Inv_msk (msk_eq (fun r hr _ => h r (fun g => by rw [g] at hr; cases hr)) (fun j _ _ _ => ?_)) hI
  rw [h 49 (by decide)]
/-! the class -/
theorem xWays {w : gw} {S : St} {i : Nat} (h : Inv w S i) : ∃ T, SI_ways S = some (nI (wyX S), T) ∧ ∀ r, r ≠ 47 → T r = S r := by
  obtain ⟨s1, s2, s3, s4, s5⟩ := Inv_sg h
  obtain ⟨m1, m2, m3, m4⟩ := Inv_mo h
  unfold wyX
  by_cases c : sgW (S 67) (ix (S 49 22)) = true
  · rw [if_pos c] at s5 ⊢
    exact ways_t (fun b hb => ⟨(Inv_pg h hb).2.2, (Inv_pg h hb).2.1⟩) s4 (sn_8 h) m2 m4 s5
  · rw [if_neg c] at s5 ⊢
    refine ⟨S, ?_, fun _ _ => rfl⟩
    unfold SI_ways
    rw [s5, if_neg n10]
    rfl
theorem xOwnersN {w : gw} {S : St} {i : Nat} (h : Inv w S i) : ∃ T, X_owners S (-1) = some (nI (wyX S), T) ∧ ∀ r, r ≠ 47 → T r = S r := by
  obtain ⟨T, hT, t1⟩ := xWays h
  unfold X_owners
  rw [if_pos rfl, hT, bnd_ss]
  exact ⟨T, rfl, t1⟩
theorem isEv_t {e : Nat} (h : e < 10) : ¬ X_isEvening (nI e) = 0 ∧ ¬ M_isEvening (nI e) = 0 := by
  have h1 : sm (nI e) 9 := ⟨e, by omega, rfl⟩
  exact ⟨by rw [show X_isEvening (nI e) = 1 from xw_t h1 (by decide)]; exact n10, by rw [show M_isEvening (nI e) = 1 from mi_t h1 (by decide)]; exact n10⟩
theorem xOwners {w : gw} {S : St} {i e : Nat} (h : Inv w S i) (he : e < 10) : ∃ T, X_owners S (nI e) = some (nI (whX S e), T) ∧ ∀ r, r ≠ 47 → T r = S r := by
  obtain ⟨s1, s2, s3, s4, s5⟩ := Inv_sg h
  unfold X_owners whX
  rw [if_neg (by rw [m_1]; try simp (disch := omega) only [↓m_1, n_0, n_1, n_2, n_3, n_4, n_5, n_6, n_7, n_8, n_9, n_10, n_16, n_20, n_24, n_31, n_32, n_48, n_52, n_57, n_59, n_60, n_64, n_100, n_1024, nI_add, pk_mul, pk_sub, leI_t, leI_f, ltI_t, ltI_f, eqI_t, eqI_f, geM_t, eqM_f, eqM_g, ltM_f, ltM_t, leM_f, inb_nI, ix_nI, chk_tt, bnd_ss, up_ne, up_self, up_oth, if_true, if_false, reduceCtorEq, Nat.succ_ne_zero]; exact fun g => g), if_neg (isEv_t he).1, chk_t (inb_nI he (by decide)), ix_nI (by omega), s4 e he]
  by_cases c : snX S e = -1
  · rw [if_pos c, if_pos c]
    refine ⟨S, ?_, fun _ _ => rfl⟩
    split <;> rfl
  · obtain ⟨T, hT, t1⟩ := xWays h
    rw [if_neg c, if_neg c, hT, bnd_ss]
    try dsimp only
    have hb := wyX_le h
    by_cases d : wyX S = 0
    · rw [if_pos d, if_pos (by rw [d]; rfl)]
      exact ⟨T, rfl, t1⟩
    · rcases sn_rng h e with g | ⟨g1, g2⟩
      · exact absurd g c
      · rw [if_neg d, if_neg (nI_ne0 (by omega) (by omega)), g1, bw_t (pr := nR (S 57)) (fun b hb => by rw [t1 3 (by decide)]; exact ⟨(Inv_pg h hb).2.2, (Inv_pg h hb).2.1⟩) (by omega), bnd_ss, ix_nI (by omega)]
        exact ⟨T, rfl, t1⟩
theorem wX_of {S T : St} (h67 : T 67 = S 67) (h49 : T 49 22 = S 49 22) (h57 : T 57 = S 57) (h62 : T 62 = S 62) : wyX T = wyX S ∧ ∀ e, whX T e = whX S e := by
  have e1 : snX T = snX S := by
    funext e
    unfold snX
    rw [h67, h49]
  have e2 : wyX T = wyX S := by
    unfold wyX mostX
    rw [e1, h67, h49, h57, h62]
  refine ⟨e2, fun e => ?_⟩
  unfold whX
  rw [e2, e1, h57]
theorem op_owners {w : gw} {S : St} {i : Nat} (h : Inv w S i) (hi : i < 512) (a1 : Int32) : ∃ z1 z2, X_owners S a1 = some z1 ∧ M_owners z1.2 a1 = some z2 ∧ z1.1 = z2.1 ∧ Inv w z2.2 (i + 1) := by
  by_cases c : a1 = -1
  · subst c
    obtain ⟨T, hT, t1⟩ := xOwnersN h
    have hI := Fr47_inv t1 h
    obtain ⟨U, hU, u1, u2⟩ := findWays_t hI
    have hw := (wX_of (S := S) (T := T) (t1 67 (by decide)) (by rw [t1 49 (by decide)]) (t1 57 (by decide)) (t1 62 (by decide))).1
    refine ⟨_, (nI (wyX S), U), hT, ?_, rfl, Inv_next (FrW_inv u1 hI)⟩
    show M_owners T _ = _
    unfold M_owners M_owners_J12 M_ownersOf
    rw [if_pos rfl, hU, bnd_ss, if_pos rfl, bnd_ss, hw]
  · rcases sm_or a1 9 with h1 | h1
    · obtain ⟨e, he, rfl⟩ := h1
      have he : e < 10 := by omega
      obtain ⟨T, hT, t1⟩ := xOwners h he
      have hI := Fr47_inv t1 h
      obtain ⟨U, hU, u1, u2⟩ := findWays_t hI
      have hw := (wX_of (S := S) (T := T) (t1 67 (by decide)) (by rw [t1 49 (by decide)]) (t1 57 (by decide)) (t1 62 (by decide))).2 e
      refine ⟨_, (nI (whX S e), U), hT, ?_, rfl, Inv_next (FrW_inv u1 hI)⟩
      show M_owners T _ = _
      unfold M_owners M_owners_J12 M_ownersOf
      rw [if_neg c, if_neg (isEv_t he).2, hU, bnd_ss, if_neg c, chk_t (inb_nI he (by decide)), ix_nI (by omega), bnd_ss]
      try dsimp only
      rw [u2 e he, hw]
    · refine ⟨(-2, S), (-2, S), ?_, ?_, rfl, Inv_next h⟩
      · unfold X_owners
        rw [if_neg c, if_pos (show X_isEvening a1 = 0 from xw_f h1 (by decide))]
      · show M_owners S _ = _
        unfold M_owners
        rw [if_neg c, if_pos (show M_isEvening a1 = 0 from mi_f h1 (by decide))]
