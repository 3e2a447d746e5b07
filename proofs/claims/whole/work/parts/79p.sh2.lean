/-! ===== sheet, copy, write ===== -/
theorem wext_N {w : gw} {q1 q2 n : Nat} : gN (wext w q1 q2 n) = gN w + 2 := rfl
theorem wext_lo {w : gw} {q1 q2 n k : Nat} (h : k ≠ gN w + 1) : gln (wext w q1 q2 n) k = gln w k := if_neg h
theorem wext_li {w : gw} {q1 q2 n : Nat} : gln (wext w q1 q2 n) (gN w + 1) = n := if_pos rfl
theorem sext_ne {w : gw} {S : St} {x1 x2 : Int32} {r : Nat} (h48 : r ≠ 48) (h : r < gN w) : sext w S x1 x2 r = S r := by
  unfold sext
  rw [up_ne h48, if_neg (by omega), if_neg (by omega)]
theorem mSheet_t {U : St} {s n : Nat} (hs : s < 4) (hn : n ≤ 60) (x2 : Int32) (h2 : sm x2 2) : ∃ T, M_sheet U (nI s) x2 (nI n) = some (nI n, T) ∧ (∀ r, r ≠ 50 → r ≠ 51 → r ≠ 52 → T r = U r) ∧ T 50 = upd (U 50) s x2 ∧ T 51 = upd (U 51) s (nI n) ∧ (∀ j, j < n → T 52 (60 * s + j) = 0) ∧ ∀ t j, t < 4 → t ≠ s → j < 60 → T 52 (60 * t + j) = U 52 (60 * t + j) := by
  unfold M_sheet M_sheet_J80
  rw [if_neg (isS_t hs).2, if_neg (by rw [show M_in x2.toInt64 0 2 = 1 from mi_t h2 (by decide)]; exact n10), if_pos (by rw [n_60]; exact nI_le hn (by omega)), if_pos (nI_pos' (by omega)), chk_t (inb_nI hs (by decide)), chk_t (inb_nI hs (by decide)), ix_nI (by omega)]
  obtain ⟨V, hV⟩ : ∃ V, V = up (up U 50 s x2) 51 s (nI n) := ⟨_, rfl⟩
  rw [← hV]
  obtain ⟨q, hq, h1, h2, h3, h4⟩ := lp_cnt (st := fun q : Int32 × St => M_sheet_L55 q.2 (nI s) (nI n) q.1) (fun j q => q.1 = nI j ∧ (∀ r, r ≠ 52 → q.2 r = V r) ∧ (∀ j', j' < j → q.2 52 (60 * s + j') = 0) ∧ ∀ t j', t < 4 → t ≠ s → j' < 60 → q.2 52 (60 * t + j') = V 52 (60 * t + j')) n (by omega) (q0 := (0, V)) ⟨rfl, fun _ _ => rfl, fun j hj => absurd hj (Nat.not_lt_zero j), fun _ _ _ _ _ => rfl⟩ (fun j q hj h => by
    obtain ⟨a, T⟩ := q
    obtain ⟨h1, h2, h3, h4⟩ := h
    have h1 : a = nI j := h1
    subst h1
    try dsimp only
    unfold M_sheet_L55
    rw [if_neg (nI_ge hj (by omega)), sixty, chk_t (inb_nI (show 60 * s + j < 240 by omega) (by decide)), ix_nI (by omega), nI_1]
    refine ⟨_, rfl, rfl, fun r hr => ?_, fun j' hj' => ?_, fun t j' ht e hj' => ?_⟩
    · show up T 52 _ _ r = V r
      rw [up_ne hr]; exact h2 r hr
    · show up T 52 _ _ 52 _ = 0
      by_cases e : j' = j
      · rw [e, up_self]
      · rw [up_oth (by omega)]; exact h3 j' (by omega)
    · show up T 52 _ _ 52 _ = _
      rw [up_oth (by omega)]; exact h4 t j' ht e hj') (fun q h => by
    obtain ⟨a, T⟩ := q
    obtain ⟨h1, -⟩ := h
    have h1 : a = nI n := h1
    subst h1
    try dsimp only
    unfold M_sheet_L55
    rw [if_pos (nI_le (Nat.le_refl _) (by omega))])
  rw [hq, bnd_ss]
  refine ⟨q.2, rfl, fun r a b c => by rw [h2 r c, hV, up_ne b, up_ne a], ?_, ?_, h3, fun t j ht e hj => ?_⟩
  · rw [h2 50 (by decide), hV, up_ne (by decide), up_eq]
  · rw [h2 51 (by decide), hV, up_eq, up_ne (by decide)]
  · rw [h4 t j ht e hj, hV, up_ne (by decide), up_ne (by decide)]
theorem op_sheet {w : gw} {S : St} {i : Nat} (h : Inv w S i) (hB : gN w ≤ 73 + 2 * i) (hi : i < 512) (a1 a2 a3 r : Int32) (u : gw × St) (hu : shR w S a1 a2 a3 r u) : ∃ z2, M_sheet u.2 a1 a2 a3 = some z2 ∧ r = z2.1 ∧ Inv u.1 z2.2 (i + 1) := by
  rcases hu with ⟨hb, rfl, rfl⟩ | ⟨hb, h3, rfl, rfl⟩ | ⟨hb, h3, rfl, q1, q2, rfl⟩
  · refine ⟨(-2, S), ?_, rfl, Inv_next h⟩
    show M_sheet S a1 a2 a3 = _
    unfold M_sheet
    by_cases g1 : M_isSheet a1 = 0
    · rw [if_pos g1]
    · rw [if_neg g1]
      by_cases g2 : M_in a2.toInt64 0 2 = 0
      · rw [if_pos g2]
      · rw [if_neg g2, if_neg]
        have k1 : sm a1 3 := Classical.byContradiction fun q => g1 (mi_f q (by decide))
        have k2 : sm a2 2 := Classical.byContradiction fun q => g2 (mi_f q (by decide))
        rcases hb with hb | hb | hb
        · rw [show X_isSheet a1 = 1 from xw_t k1 (by decide)] at hb; exact absurd hb n10
        · rw [show X_isForm a2 = 1 from xw_t k2 (by decide)] at hb; exact absurd hb n10
        · exact hb
  · have k1 : sm a1 3 := Classical.byContradiction fun q => hb (Or.inl (xw_f q (by decide)))
    have k2 : sm a2 2 := Classical.byContradiction fun q => hb (Or.inr (Or.inl (xw_f q (by decide))))
    have k3 : a3 ≤ 60 := Classical.byContradiction fun q => hb (Or.inr (Or.inr q))
    refine ⟨(-10 - 5, up (up S 0 8 5) 49 4 5), ?_, rfl, fnd_inv h⟩
    show M_sheet (up S 0 8 5) a1 a2 a3 = _
    unfold M_sheet M_met
    rw [if_neg (by rw [show M_isSheet a1 = 1 from mi_t k1 (by decide)]; exact n10), if_neg (by rw [show M_in a2.toInt64 0 2 = 1 from mi_t k2 (by decide)]; exact n10), if_pos k3, if_neg (fun g => by
      rw [Int32.le_iff_toInt_le] at g
      rw [Int32.lt_iff_toInt_lt] at h3
      omega), bnd_ss]
  · have k1 : sm a1 3 := Classical.byContradiction fun q => hb (Or.inl (xw_f q (by decide)))
    have k2 : sm a2 2 := Classical.byContradiction fun q => hb (Or.inr (Or.inl (xw_f q (by decide))))
    have k3 : r ≤ 60 := Classical.byContradiction fun q => hb (Or.inr (Or.inr q))
    obtain ⟨s, hs, rfl⟩ := k1
    obtain ⟨n, hn, rfl⟩ := nI_of h3
    have hn60 : n ≤ 60 := by rw [n_60, nI_leI (by omega) (by omega)] at k3; exact k3
    have hs4 : s < 4 := by omega
    have hS := Sh_un h.2.2.2.2.1
    obtain ⟨w1, w2, w3, w4⟩ := hS.1
    try dsimp only
    obtain ⟨V, hV⟩ : ∃ V, V = sext w S (nI s) a2 := ⟨_, rfl⟩
    rw [← hV, ix_nI (by omega)]
    have v48 : V 48 = upd (S 48) s (nI (gN w)) := by
      rw [hV]
      unfold sext
      rw [up_eq, if_neg (by omega), if_neg (by omega), ix_nI (by omega)]
      rfl
    have vlo : ∀ r, r ≠ 48 → r < gN w → V r = S r := fun r a b => by rw [hV]; exact sext_ne a b
    have vo : V (gN w) = (fun i => if i = 0 then a2 else 0) := by
      rw [hV]
      unfold sext
      rw [up_ne (by omega), if_pos rfl]
    have va : V (gN w + 1) = (fun _ => 0) := by
      rw [hV]
      unfold sext
      rw [up_ne (by omega), if_neg (by omega), if_pos rfl]
    obtain ⟨T, hT, t1, t2, t3, t4, t5⟩ := mSheet_t (U := V) hs4 hn60 a2 k2
    refine ⟨_, hT, rfl, ?_⟩
    have t48 : T 48 = upd (S 48) s (nI (gN w)) := by rw [t1 48 (by decide) (by decide) (by decide)]; exact v48
    have t48s : T 48 s = nI (gN w) := by rw [t48, pk_us]
    have hix : ix (nI (gN w)) = gN w := ix_nI (by omega)
    show Inv (wext w q1 q2 n) T (i + 1)
    refine sh_inv h (fun r r73 a b c d _ _ => by rw [t1 r b c d, vlo r a (by omega)]) (fun j _ _ _ => by rw [t1 49 (by decide) (by decide) (by decide), vlo 49 (by decide) (by omega)]) (Sh_slot (s := s) hS ⟨?_, ?_, ?_, fun j => ?_⟩ (fun k hk => ⟨⟨hk.1, hk.2.1, ?_⟩, wext_lo (by have := hk.2.2; omega)⟩) (fun t ht e => ⟨?_, ?_, ?_, fun j hj => ?_⟩) (fun t ht e hng => ?_) (Or.inr ⟨?_, ?_, ?_, ?_, ?_, ?_, fun j hj => ?_⟩) (fun t ht e hng => ?_))
    · rw [wext_N]; omega
    · rw [wext_N]; omega
    · rw [wext_N]; omega
    · rw [t48]
      by_cases c : j = s
      · rw [c, pk_us, hix, wext_N]; exact Or.inr (by omega)
      · rw [pk_un c, wext_N]
        rcases w4 j with g | g
        · exact Or.inl g
        · exact Or.inr (by omega)
    · rw [wext_N]; have := hk.2.2; omega
    · rw [t48, pk_un e]
    · rw [t2, pk_un e, vlo 50 (by decide) (by omega)]
    · rw [t3, pk_un e, vlo 51 (by decide) (by omega)]
    · rw [t5 t j ht e hj, vlo 52 (by decide) (by omega)]
    · rcases hS.2.1 t ht with g | ⟨-, g, -⟩
      · rw [g.1] at hng; exact absurd neg1_lt hng
      · have g1 := g.1
        have g2 := g.2.2
        exact ⟨by rw [t1 _ (by omega) (by omega) (by omega), vlo _ (by omega) (by omega)], by rw [t1 _ (by omega) (by omega) (by omega), vlo _ (by omega) (by omega)]⟩
    · rw [t48s]; exact nI_pos (by omega)
    · rw [t48s, hix]; exact ⟨w1, w2, by rw [wext_N]; omega⟩
    · rw [t2, pk_us]; exact k2
    · rw [t48s, hix, t2, pk_us, t1 _ (by omega) (by omega) (by omega), vo]
      exact if_pos rfl
    · rw [t48s, hix, wext_li]; exact hn60
    · rw [t48s, hix, wext_li, t3, pk_us]
    · rw [t48s, hix, wext_li] at hj
      rw [t48s, hix, t4 j hj, t1 _ (by omega) (by omega) (by omega), va]
    · rw [t48s, t48, pk_un e]
      intro g
      rcases w4 t with g2 | g2
      · rw [← g] at g2; exact nI_pos (by omega) g2
      · rw [← g, hix] at g2; omega
/-! ===== copy ===== -/
theorem i64_pos {x y : Int32} {n : Nat} (hx : ¬ x < 0) (hy : ¬ y < 0) (hn : n ≤ 60) : (0 < lg_cmp (x.toInt64 + y.toInt64) ((nI n).toInt64) ↔ n < ix x + ix y) := by
  obtain ⟨a, ha, rfl⟩ := nI_of hx
  obtain ⟨b, hb, rfl⟩ := nI_of hy
  rw [lgc_gt, nI_l (by omega), nI_l (by omega), nI_l (by omega), lN_add, ix_nI ha, ix_nI hb, pk_lLT (by omega) (by omega)]
theorem i64_le {x y : Int32} {n : Nat} (hx : ¬ x < 0) (hy : ¬ y < 0) (hn : n ≤ 60) : (lg_cmp (x.toInt64 + y.toInt64) ((nI n).toInt64) ≤ 0 ↔ ix x + ix y ≤ n) := by
  obtain ⟨a, ha, rfl⟩ := nI_of hx
  obtain ⟨b, hb, rfl⟩ := nI_of hy
  rw [lgc_le, nI_l (by omega), nI_l (by omega), nI_l (by omega), lN_add, ix_nI ha, ix_nI hb, pk_lLE (by omega) (by omega)]
theorem sixty3 {s a j : Nat} : (60 : Int32) * nI s + nI a + nI j = nI (60 * s + a + j) := by rw [n_60, pk_mul, nI_add, nI_add]
theorem mCopy_t {U : St} {s t a b m n1 n2 : Nat} (hs : s < 4) (ht : t < 4) (h1 : a + m ≤ n1) (h2 : b + m ≤ n2) (hn1 : n1 ≤ 60) (hn2 : n2 ≤ 60) {x1 x2 x3 x4 : Int32} : ∃ T c1 c2, (∃ V, lp (σ := Int32 × St) (fun q => M_copy_L120 q.2 (nI s) (nI a) (nI t) (nI b) (nI m) q.1) FZ (0, U) = some ((c1, V), 1) ∧ lp (σ := Int32 × St) (fun q => M_copy_L157 q.2 (nI t) (nI b) (nI m) q.1) FZ (0, V) = some ((c2, T), 1)) ∧ (∀ r, r ≠ 52 → r ≠ 53 → T r = U r) ∧ (∀ j, j < m → T 52 (60 * t + b + j) = U 52 (60 * s + a + j)) ∧ ∀ q, (q < 60 * t + b ∨ 60 * t + b + m ≤ q) → T 52 q = U 52 q := by
  obtain ⟨q, hq, k1, k2, k3⟩ := lp_cnt (st := fun q : Int32 × St => M_copy_L120 q.2 (nI s) (nI a) (nI t) (nI b) (nI m) q.1) (fun j q => q.1 = nI j ∧ (∀ r, r ≠ 53 → q.2 r = U r) ∧ ∀ j', j' < j → q.2 53 j' = U 52 (60 * s + a + j')) m (by omega) (q0 := (0, U)) ⟨rfl, fun _ _ => rfl, fun j hj => absurd hj (Nat.not_lt_zero j)⟩ (fun j q hj h => by
    obtain ⟨c, V⟩ := q
    obtain ⟨h1, h2, h3⟩ := h
    have h1 : c = nI j := h1
    subst h1
    have h2 : ∀ r, r ≠ 53 → V r = U r := h2
    try dsimp only
    unfold M_copy_L120
    rw [if_neg (nI_ge hj (by omega)), sixty3, chk_t (inb_nI (show 60 * s + a + j < 240 by omega) (by decide)), chk_t (inb_nI (show j < 60 by omega) (by decide)), ix_nI (by omega), ix_nI (by omega), nI_1, h2 52 (by decide)]
    refine ⟨_, rfl, rfl, fun r hr => ?_, fun j' hj' => ?_⟩
    · show up V 53 _ _ r = U r
      rw [up_ne hr]; exact h2 r hr
    · show up V 53 _ _ 53 _ = _
      by_cases e : j' = j
      · rw [e, up_self]
      · rw [up_oth e]; exact h3 j' (by omega)) (fun q h => by
    obtain ⟨c, V⟩ := q
    obtain ⟨h1, -⟩ := h
    have h1 : c = nI m := h1
    subst h1
    try dsimp only
    unfold M_copy_L120
    rw [if_pos (nI_le (Nat.le_refl _) (by omega))])
  obtain ⟨c1, V⟩ := q
  have k2 : ∀ r, r ≠ 53 → V r = U r := k2
  have k3 : ∀ j', j' < m → V 53 j' = U 52 (60 * s + a + j') := k3
  obtain ⟨q, hq2, l1, l2, l3, l4⟩ := lp_cnt (st := fun q : Int32 × St => M_copy_L157 q.2 (nI t) (nI b) (nI m) q.1) (fun j q => q.1 = nI j ∧ (∀ r, r ≠ 52 → q.2 r = V r) ∧ (∀ j', j' < j → q.2 52 (60 * t + b + j') = V 53 j') ∧ ∀ p, (p < 60 * t + b ∨ 60 * t + b + j ≤ p) → q.2 52 p = V 52 p) m (by omega) (q0 := (0, V)) ⟨rfl, fun _ _ => rfl, fun j hj => absurd hj (Nat.not_lt_zero j), fun _ _ => rfl⟩ (fun j q hj h => by
    obtain ⟨c, W⟩ := q
    obtain ⟨h1, h2, h3, h4⟩ := h
    have h1 : c = nI j := h1
    subst h1
    have h2 : ∀ r, r ≠ 52 → W r = V r := h2
    try dsimp only
    unfold M_copy_L157
    rw [if_neg (nI_ge hj (by omega)), sixty3, chk_t (inb_nI (show j < 60 by omega) (by decide)), chk_t (inb_nI (show 60 * t + b + j < 240 by omega) (by decide)), ix_nI (by omega), ix_nI (by omega), nI_1, h2 53 (by decide)]
    refine ⟨_, rfl, rfl, fun r hr => ?_, fun j' hj' => ?_, fun p hp => ?_⟩
    · show up W 52 _ _ r = V r
      rw [up_ne hr]; exact h2 r hr
    · show up W 52 _ _ 52 _ = _
      by_cases e : j' = j
      · rw [e, up_self]
      · rw [up_oth (by omega)]; exact h3 j' (by omega)
    · show up W 52 _ _ 52 _ = _
      rw [up_oth (by omega)]; exact h4 p (by omega)) (fun q h => by
    obtain ⟨c, W⟩ := q
    obtain ⟨h1, -⟩ := h
    have h1 : c = nI m := h1
    subst h1
    try dsimp only
    unfold M_copy_L157
    rw [if_pos (nI_le (Nat.le_refl _) (by omega))])
  obtain ⟨c2, T⟩ := q
  refine ⟨T, c1, c2, ⟨V, hq, hq2⟩, fun r x y => ?_, fun j hj => ?_, fun p hp => ?_⟩
  · exact (l2 r x).trans (k2 r y)
  · exact (l3 j hj).trans (k3 j hj)
  · exact (l4 p hp).trans (by rw [k2 52 (by decide)])
theorem op_copy {w : gw} {S : St} {i : Nat} (h : Inv w S i) (hi : i < 512) (a1 : Int32) (a2 : Int32) (a3 : Int32) (a4 : Int32) (a5 : Int32) : ∃ z1 z2, X_copy w S a1 a2 a3 a4 a5 = some z1 ∧ M_copy z1.2 a1 a2 a3 a4 a5 = some z2 ∧ z1.1 = z2.1 ∧ Inv w z2.2 (i + 1) := by
  rcases sm_or a1 3 with h1 | h1
  · obtain ⟨s, hs, rfl⟩ := h1
    have hs4 : s < 4 := by omega
    obtain ⟨gx, gm⟩ := isS_t hs4
    rcases sm_or a3 3 with h3 | h3
    · obtain ⟨t, ht, rfl⟩ := h3
      have ht4 : t < 4 := by omega
      obtain ⟨gx3, gm3⟩ := isS_t ht4
      have hS := Sh_un h.2.2.2.2.1
      have mI50 : ∀ v : Int32, (up S 0 8 v) 50 = S 50 := fun v => up_ne (by decide)
      rcases sh_get h hs4 with ⟨g1, g2⟩ | ⟨k, n, f, g1, g2, g3, g4, g5, g6, g7, g8, g9, g10⟩
      · have hX : X_copy w S (nI s) a2 (nI t) a4 a5 = some (-10 - 1, up S 0 8 1) := by
          unfold X_copy X_copy_J43 X_finding
          rw [if_neg gx, if_neg gx3, chk_t (inb_nI hs4 (by decide)), ix_nI (by omega), g1, if_pos neg1_lt, chk_t (inb_nI ht4 (by decide)), ix_nI (by omega)]
          rcases sh_get h ht4 with ⟨e1, e2⟩ | ⟨k', n', f', e1, e2, e3, -⟩
          · rw [e1, if_pos neg1_lt, bnd_ss]
          · rw [e1, if_neg (nI_pos (by omega)), chk_t (shB_t e2 e3), bnd_ss]
        refine ⟨_, (-10 - 1, up (up S 0 8 1) 49 4 1), hX, ?_, rfl, fnd_inv h⟩
        show M_copy (up S 0 8 1) _ _ _ _ _ = _
        unfold M_copy M_copy_J35 M_met
        rw [if_neg gm, if_neg gm3, chk_t (inb_nI hs4 (by decide)), ix_nI (by omega), mI50, g2, if_pos neg1_lt, bnd_ss]
      · rcases sh_get h ht4 with ⟨e1, e2⟩ | ⟨k', n', f', e1, e2, e3, e4, e5, e6, e7, e8, e9, e10⟩
        · have hX : X_copy w S (nI s) a2 (nI t) a4 a5 = some (-10 - 1, up S 0 8 1) := by
            unfold X_copy X_copy_J43 X_finding
            rw [if_neg gx, if_neg gx3, chk_t (inb_nI hs4 (by decide)), ix_nI (show s < 2 ^ 31 by omega), g1, if_neg (nI_pos (by omega)), chk_t (shB_t g2 g3), chk_t (inb_nI ht4 (by decide)), ix_nI (show t < 2 ^ 31 by omega), e1, if_pos neg1_lt, bnd_ss]
          refine ⟨_, (-10 - 1, up (up S 0 8 1) 49 4 1), hX, ?_, rfl, fnd_inv h⟩
          show M_copy (up S 0 8 1) _ _ _ _ _ = _
          unfold M_copy M_copy_J35 M_met
          rw [if_neg gm, if_neg gm3, chk_t (inb_nI hs4 (by decide)), ix_nI (show s < 2 ^ 31 by omega), mI50, g7, if_neg (nI_pos (by omega)), chk_t (inb_nI ht4 (by decide)), ix_nI (show t < 2 ^ 31 by omega), e2, if_neg neg1_ge, bnd_ss]
        · have hXh : ∀ o, (if nI f = nI f' then bnd (SH_hasItems w S k a2 a5) (fun z3 => if z3 = 0 then X_copy_J91 w S else bnd (SH_hasItems w S k' a4 a5) fun z4 => if z4 = 0 then X_copy_J91 w S else chk (cpB a2 a4 a5 n n') <| some (1, upR S (k' + 1) (va_cpy (S (k + 1)) (S (k' + 1)) (ix a2) (ix a4) (ix a5)))) else bnd (X_finding S 4) fun z5 => some (z5.1, z5.2)) = o → X_copy w S (nI s) a2 (nI t) a4 a5 = o := by
            intro o ho
            unfold X_copy
            rw [if_neg gx, if_neg gx3, chk_t (inb_nI hs4 (by decide)), ix_nI (show s < 2 ^ 31 by omega), g1, if_neg (nI_pos (by omega)), chk_t (shB_t g2 g3), chk_t (inb_nI ht4 (by decide)), ix_nI (show t < 2 ^ 31 by omega), e1, if_neg (nI_pos (by omega)), chk_t (shB_t e2 e3), ix_nI (show k < 2 ^ 31 by omega), ix_nI (show k' < 2 ^ 31 by omega), g8, e8, g4, e4]
            exact ho
          have hMh : ∀ (U : St) o, U 50 = S 50 → U 51 = S 51 → (if nI f = nI f' then (if a2 < 0 then M_copy_J111 U else if a4 < 0 then M_copy_J111 U else if a5 < 0 then M_copy_J111 U else if 0 < lg_cmp (a2.toInt64 + a5.toInt64) ((nI n).toInt64) then M_copy_J111 U else if lg_cmp (a4.toInt64 + a5.toInt64) ((nI n').toInt64) ≤ 0 then bnd (lp (σ := Int32 × St) (fun q => M_copy_L120 q.2 (nI s) a2 (nI t) a4 a5 q.1) FZ (0, U)) (fun z4 => M_copy_J154 z4.1.2 (nI t) a4 a5) else M_copy_J111 U) else bnd (M_met U 4) fun z5 => some (z5.1, z5.2)) = o → M_copy U (nI s) a2 (nI t) a4 a5 = o := by
            intro U o u50 u51 ho
            unfold M_copy
            rw [if_neg gm, if_neg gm3, chk_t (inb_nI hs4 (by decide)), ix_nI (show s < 2 ^ 31 by omega), u50, u51, g7, if_neg (nI_pos (by omega)), chk_t (inb_nI ht4 (by decide)), ix_nI (show t < 2 ^ 31 by omega), e7, if_pos (nI_pos' (by omega)), chk_t (inb_nI hs4 (by decide)), chk_t (inb_nI ht4 (by decide)), chk_t (inb_nI hs4 (by decide)), chk_t (inb_nI ht4 (by decide)), g9, e9]
            exact ho
          by_cases cf : nI f = nI f'
          · by_cases cA : ∃ a m, a2 = nI a ∧ a5 = nI m ∧ a + m ≤ n
            · by_cases cB : ∃ b m, a4 = nI b ∧ a5 = nI m ∧ b + m ≤ n'
              · obtain ⟨a, m, rfl, rfl, hA⟩ := id cA
                obtain ⟨b, m', rfl, em, hB⟩ := id cB
                have em : m' = m := by
                  have := (nI_eq (by omega) (by omega)).mp em
                  omega
                subst em
                have hX := hXh _ (by
                  rw [if_pos cf, hasItems_t g5 g4, bnd_ss, hIt_t cA, if_neg n10, hasItems_t e5 e4, bnd_ss, hIt_t cB, if_neg n10, chk_t (show cpB (nI a) (nI b) (nI m') n n' = true from decide_eq_true ⟨nI_pos (by omega), nI_pos (by omega), nI_pos (by omega), by rw [ix_nI (by omega), ix_nI (by omega)]; exact hA, by rw [ix_nI (by omega), ix_nI (by omega)]; exact hB⟩), ix_nI (by omega), ix_nI (by omega), ix_nI (by omega)])
                obtain ⟨V, hV⟩ : ∃ V, V = upR S (k' + 1) (va_cpy (S (k + 1)) (S (k' + 1)) a b m') := ⟨_, rfl⟩
                rw [← hV] at hX
                have k73 := e2.1
                have v52 : V 52 = S 52 := by rw [hV, upR_ne (by omega)]
                obtain ⟨T, c1, c2, ⟨W, hW1, hW2⟩, t1, t2, t3⟩ := mCopy_t (U := V) (s := s) (t := t) (a := a) (b := b) (m := m') (n1 := n) (n2 := n') hs4 ht4 hA hB g5 e5 (x1 := 0) (x2 := 0) (x3 := 0) (x4 := 0)
                have hM := hMh V (some (1, T)) (by rw [hV, upR_ne (by omega)]) (by rw [hV, upR_ne (by omega)]) (by
                  rw [if_pos cf, if_neg (nI_pos (by omega)), if_neg (nI_pos (by omega)), if_neg (nI_pos (by omega)), if_neg (by rw [i64_pos (nI_pos (by omega)) (nI_pos (by omega)) g5, ix_nI (by omega), ix_nI (by omega)]; omega), if_pos (by rw [i64_le (nI_pos (by omega)) (nI_pos (by omega)) e5, ix_nI (by omega), ix_nI (by omega)]; omega), hW1, bnd_ss]
                  show M_copy_J154 W (nI t) (nI b) (nI m') = some (1, T)
                  unfold M_copy_J154 M_copy_J192
                  rw [hW2, bnd_ss])
                refine ⟨_, (1, T), hX, hM, rfl, ?_⟩
                show Inv w T (i + 1)
                refine sh_inv h (fun r r73 _ _ _ x hsc _ => by rw [t1 r x (fun g => by rw [g] at hsc; cases hsc), hV, upR_ne (by omega)]) (fun j _ _ _ => by rw [t1 49 (by decide) (by decide), hV, upR_ne (by omega)]) (Sh_items (s := t) (k := k') hS ht4 e1 e3 (by rw [t1 48 (by decide) (by decide), hV, upR_ne (by omega)]) (by rw [t1 50 (by decide) (by decide), hV, upR_ne (by omega)]) (by rw [t1 51 (by decide) (by decide), hV, upR_ne (by omega)]) (fun t' j' ht' ne hj' => by rw [t3 _ (by omega), v52]) (fun r hr ne => by rw [t1 r (by omega) (by omega), hV, upR_ne ne]) (fun j hj => ?_))
                rw [e4] at hj
                rw [t1 _ (by omega) (by omega), hV, upR_eq]
                by_cases c : b ≤ j ∧ j < b + m'
                · rw [pk_cpy_in c.1 c.2, g10 _ (by omega)]
                  obtain ⟨d, rfl⟩ : ∃ d, j = b + d := ⟨j - b, by omega⟩
                  rw [show 60 * t + (b + d) = 60 * t + b + d by omega, t2 d (by omega), v52, show b + d - b = d by omega, Nat.add_assoc]
                · rw [pk_cpy_out (by omega), e10 j hj, t3 _ (by omega), v52]
              · have hX := hXh (some (-10 - 2, up S 0 8 2)) (by
                  rw [if_pos cf, hasItems_t g5 g4, bnd_ss, hIt_t cA, if_neg n10, hasItems_t e5 e4, bnd_ss, hIt_f cB, if_pos rfl]
                  exact (show X_copy_J91 w S = some (-10 - 2, up S 0 8 2) from rfl))
                refine ⟨_, (-10 - 2, up (up S 0 8 2) 49 4 2), hX, hMh (up S 0 8 2) _ (up_ne (by decide)) (up_ne (by decide)) ?_, rfl, fnd_inv h⟩
                have eJ : M_copy_J111 (up S 0 8 2) = some (-10 - 2, up (up S 0 8 2) 49 4 2) := rfl
                obtain ⟨a, m, rfl, rfl, hA⟩ := id cA
                rw [if_pos cf, if_neg (nI_pos (by omega)), eJ]
                by_cases c4 : a4 < 0
                · rw [if_pos c4]
                · rw [if_neg c4, if_neg (nI_pos (by omega)), if_neg (by rw [i64_pos (nI_pos (by omega)) (nI_pos (by omega)) g5, ix_nI (by omega), ix_nI (by omega)]; omega), if_neg]
                  rw [i64_le c4 (nI_pos (by omega)) e5]
                  obtain ⟨b, hb, rfl⟩ := nI_of c4
                  rw [ix_nI (by omega), ix_nI (by omega)]
                  exact fun g => cB ⟨b, m, rfl, rfl, g⟩
            · have hX := hXh (some (-10 - 2, up S 0 8 2)) (by
                rw [if_pos cf, hasItems_t g5 g4, bnd_ss, hIt_f cA, if_pos rfl]
                exact (show X_copy_J91 w S = some (-10 - 2, up S 0 8 2) from rfl))
              refine ⟨_, (-10 - 2, up (up S 0 8 2) 49 4 2), hX, hMh (up S 0 8 2) _ (up_ne (by decide)) (up_ne (by decide)) ?_, rfl, fnd_inv h⟩
              have eJ : M_copy_J111 (up S 0 8 2) = some (-10 - 2, up (up S 0 8 2) 49 4 2) := rfl
              rw [if_pos cf, eJ]
              by_cases c2 : a2 < 0
              · rw [if_pos c2]
              · rw [if_neg c2]
                by_cases c4 : a4 < 0
                · rw [if_pos c4]
                · rw [if_neg c4]
                  by_cases c5 : a5 < 0
                  · rw [if_pos c5]
                  · rw [if_neg c5, if_pos]
                    rw [i64_pos c2 c5 g5]
                    obtain ⟨a, ha, rfl⟩ := nI_of c2
                    obtain ⟨m, hm, rfl⟩ := nI_of c5
                    rw [ix_nI (by omega), ix_nI (by omega)]
                    rcases Nat.lt_or_ge n (a + m) with g | g
                    · exact g
                    · exact absurd ⟨a, m, rfl, rfl, g⟩ cA
          · have hX := hXh (some (-10 - 4, up S 0 8 4)) (by
              rw [if_neg cf]
              exact (show bnd (X_finding S 4) (fun z5 => some (z5.1, z5.2)) = some (-10 - 4, up S 0 8 4) from rfl))
            refine ⟨_, (-10 - 4, up (up S 0 8 4) 49 4 4), hX, hMh (up S 0 8 4) _ (up_ne (by decide)) (up_ne (by decide)) ?_, rfl, fnd_inv h⟩
            rw [if_neg cf]
            rfl
    · refine ⟨(-2, S), (-2, S), ?_, ?_, rfl, Inv_next h⟩
      · unfold X_copy
        rw [if_neg gx, if_pos (show X_isSheet a3 = 0 from xw_f h3 (by decide))]
      · show M_copy S _ _ _ _ _ = _
        unfold M_copy
        rw [if_neg gm, if_pos (show M_isSheet a3 = 0 from mi_f h3 (by decide))]
  · refine ⟨(-2, S), (-2, S), ?_, ?_, rfl, Inv_next h⟩
    · unfold X_copy
      rw [if_pos (show X_isSheet a1 = 0 from xw_f h1 (by decide))]
    · show M_copy S _ _ _ _ _ = _
      unfold M_copy
      rw [if_pos (show M_isSheet a1 = 0 from mi_f h1 (by decide))]
