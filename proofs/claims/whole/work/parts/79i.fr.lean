/-! ===== the first with a property; fractions; worth, swap, count, undo ===== -/
theorem fe_le (P : Nat → Bool) : ∀ n, fe P n ≤ n := by
  intro n
  induction n with
  | zero => exact Nat.le_refl 0
  | succ n ih =>
    unfold fe
    split
    · omega
    · split <;> omega
theorem fe_no (P : Nat → Bool) : ∀ n j, j < fe P n → ¬ P j = true := by
  intro n
  induction n with
  | zero => intro j hj; exact absurd hj (Nat.not_lt_zero j)
  | succ n ih =>
    intro j hj
    have hl := fe_le P n
    unfold fe at hj
    by_cases h1 : fe P n < n
    · rw [if_pos h1] at hj; exact ih j hj
    · rw [if_neg h1] at hj
      by_cases h2 : P n = true
      · rw [if_pos h2] at hj; exact ih j (by omega)
      · rw [if_neg h2] at hj
        by_cases h3 : j = n
        · rw [h3]; exact h2
        · exact ih j (by omega)
theorem fe_yes (P : Nat → Bool) : ∀ n, fe P n < n → P (fe P n) = true := by
  intro n
  induction n with
  | zero => intro h; exact absurd h (Nat.not_lt_zero _)
  | succ n ih =>
    intro h
    have hl := fe_le P n
    unfold fe at h ⊢
    by_cases h1 : fe P n < n
    · rw [if_pos h1]; exact ih h1
    · rw [if_neg h1] at h ⊢
      by_cases h2 : P n = true
      · rw [if_pos h2]; exact h2
      · rw [if_neg h2] at h; omega
theorem fe_lt {P : Nat → Bool} {n j : Nat} (hj : j < n) (h : P j = true) : fe P n < n := by
  have h1 := fe_le P n
  rcases Nat.lt_or_ge (fe P n) n with h2 | h2
  · exact h2
  · exact absurd h (fe_no P n j (by omega))
/-- the two numbers ahead of pass n of the search for the greatest divisor -/
def eu (a b : Nat) : Nat → Nat × Nat
  | 0 => (a, b)
  | n + 1 => ((eu a b n).2, (eu a b n).1 % (eu a b n).2)
theorem eu_shift (a b : Nat) : ∀ n, eu a b (n + 1) = eu b (a % b) n := by
  intro n
  induction n with
  | zero => rfl
  | succ n ih =>
    show ((eu a b (n + 1)).2, (eu a b (n + 1)).1 % (eu a b (n + 1)).2) = _
    rw [ih]
    rfl
theorem eu_dec16 : ∀ r : Fin 16, ∃ n : Fin 14, (eu 16 r.val n.val).2 = 0 := by decide +kernel
theorem eu_dec120 : ∀ r : Fin 120, ∃ n : Fin 14, (eu 120 r.val n.val).2 = 0 := by decide +kernel
def euN (a b : Nat) : Nat := fe (fun n => decide ((eu a b n).2 = 0)) 20
def euG (a b : Nat) : Nat := (eu a b (euN a b)).1
theorem euN_lt {a b : Nat} (hb : b = 16 ∨ b = 120) : euN a b < 20 := by
  rcases hb with rfl | rfl
  · obtain ⟨n, hn⟩ := eu_dec16 ⟨a % 16, Nat.mod_lt _ (by decide)⟩
    exact fe_lt (j := n.val + 1) (by have := n.isLt; omega) (by rw [decide_eq_true_eq, eu_shift]; exact hn)
  · obtain ⟨n, hn⟩ := eu_dec120 ⟨a % 120, Nat.mod_lt _ (by decide)⟩
    exact fe_lt (j := n.val + 1) (by have := n.isLt; omega) (by rw [decide_eq_true_eq, eu_shift]; exact hn)
theorem euN_z {a b : Nat} (hb : b = 16 ∨ b = 120) : (eu a b (euN a b)).2 = 0 := by
  have := fe_yes (fun n => decide ((eu a b n).2 = 0)) 20 (euN_lt hb)
  rw [decide_eq_true_eq] at this
  exact this
theorem euN_nz {a b j : Nat} (hj : j < euN a b) : (eu a b j).2 ≠ 0 := fun g => fe_no _ 20 j hj (decide_eq_true g)
theorem eu_le {a b m : Nat} (ha : a ≤ m) (hb : b ≤ m) : ∀ n, n ≤ euN a b → (eu a b n).1 ≤ m ∧ (eu a b n).2 ≤ m := by
  intro n
  induction n with
  | zero => intro _; exact ⟨ha, hb⟩
  | succ n ih =>
    intro hn
    have h := ih (by omega)
    have h0 := euN_nz (a := a) (b := b) (j := n) (by omega)
    exact ⟨h.2, by have := Nat.mod_lt (eu a b n).1 (Nat.pos_of_ne_zero h0); show (eu a b n).1 % (eu a b n).2 ≤ m; omega⟩
theorem euG_pos {a b : Nat} (hb : b = 16 ∨ b = 120) : 0 < euG a b := by
  have hz := euN_z (a := a) hb
  unfold euG
  cases hn : euN a b with
  | zero =>
    rw [hn] at hz
    have hz : b = 0 := hz
    omega
  | succ n =>
    have := euN_nz (a := a) (b := b) (j := n) (by omega)
    exact Nat.pos_of_ne_zero this
theorem lgc_eq (x y : Int64) : lg_cmp x y = 0 ↔ x = y := by
  unfold lg_cmp
  by_cases h1 : x > y
  · rw [if_pos h1]
    rw [gt_iff_lt, Int64.lt_iff_toInt_lt] at h1
    exact ⟨fun h => absurd h (by decide), fun h => by rw [h] at h1; omega⟩
  · rw [if_neg h1]
    by_cases h2 : x = y
    · rw [if_pos h2]; exact ⟨fun _ => h2, fun _ => rfl⟩
    · rw [if_neg h2]; exact ⟨fun h => absurd h (by decide), fun h => absurd h h2⟩
theorem lgc_ge (x y : Int64) : 0 ≤ lg_cmp x y ↔ y ≤ x := by
  have h := lgc_lt x y
  rw [Int64.lt_iff_toInt_lt, Int32.lt_iff_toInt_lt] at h
  rw [Int64.le_iff_toInt_le, Int32.le_iff_toInt_le]
  have e : (0 : Int32).toInt = 0 := rfl
  omega
theorem lgc_le (x y : Int64) : lg_cmp x y ≤ 0 ↔ x ≤ y := by
  have h := lgc_gt x y
  rw [Int64.lt_iff_toInt_lt, Int32.lt_iff_toInt_lt] at h
  rw [Int64.le_iff_toInt_le, Int32.le_iff_toInt_le]
  have e : (0 : Int32).toInt = 0 := rfl
  omega
/-- above or below of a / b -/
def frV (a b : Nat) (x : Int32) : Int64 := if x = 0 then lN (a / euG a b) else lN (b / euG a b)
theorem nz32_t {a : Nat} (h0 : 0 < a) (h : a < 2147483648) : nz32 (nI a) = true := decide_eq_true (nI_ne0 h0 (by omega))
theorem nz64_t {a : Nat} (h0 : 0 < a) (h : a < 2147483648) : nz64 (lN a) = true := decide_eq_true (fun g => by
  have := (lN_eq (a := a) (b := 0) (by omega) (by omega)).mp g
  omega)
theorem mx_1 {a : Nat} (h0 : 0 < a) (h : a < 2147483648) : mx (nI a) 1 = nI a := by
  unfold mx
  rw [n_1, if_neg]
  rw [nI_ltI (by omega) (by omega)]
  omega
theorem gdiv_t {a b : Nat} (ha : a < 1000000) (hb : b = 16 ∨ b = 120) : X_greatestDivisor (nI a) (nI b) = some (nI (euG a b)) := by
  have hN := euN_lt (a := a) hb
  have hz := euN_z (a := a) hb
  have hle := eu_le (a := a) (b := b) (m := 1000000) (by omega) (by omega)
  unfold X_greatestDivisor
  have hl : lp (σ := Int32 × Int32 × Int32) (fun q => X_greatestDivisor_L7 q.1 q.2.1 q.2.2) FZ (nI a, nI b, 0) = some ((nI (eu a b (euN a b)).1, nI (eu a b (euN a b)).2, nI (euN a b)), 1) := by
    refine lp_1 (fun j => (nI (eu a b j).1, nI (eu a b j).2, nI j)) (euN a b) rfl ?_ ?_ (by omega)
    · intro j hj
      dsimp only
      have h0 := euN_nz hj
      have h1 := hle j (by omega)
      unfold X_greatestDivisor_L7
      rw [if_neg (by rw [n_64]; try simp (disch := omega) only [↓m_1, n_0, n_1, n_2, n_3, n_4, n_5, n_6, n_7, n_8, n_9, n_10, n_16, n_20, n_24, n_31, n_32, n_48, n_52, n_57, n_59, n_60, n_64, n_100, n_1024, nI_add, pk_mul, pk_sub, leI_t, leI_f, ltI_t, ltI_f, eqI_t, eqI_f, geM_t, eqM_f, eqM_g, ltM_f, ltM_t, leM_f, inb_nI, ix_nI, chk_tt, bnd_ss, up_ne, up_self, up_oth, if_true, if_false, reduceCtorEq, Nat.succ_ne_zero]; exact fun g => g), if_neg (nI_nle (by omega) (by omega)), chk_t (nz32_t (by omega) (by omega)), pk_rem (by omega) (by omega) (by omega), nI_1]
      rfl
    · dsimp only
      have h1 := hle (euN a b) (Nat.le_refl _)
      unfold X_greatestDivisor_L7
      rw [if_neg (by rw [n_64]; try simp (disch := omega) only [↓m_1, n_0, n_1, n_2, n_3, n_4, n_5, n_6, n_7, n_8, n_9, n_10, n_16, n_20, n_24, n_31, n_32, n_48, n_52, n_57, n_59, n_60, n_64, n_100, n_1024, nI_add, pk_mul, pk_sub, leI_t, leI_f, ltI_t, ltI_f, eqI_t, eqI_f, geM_t, eqM_f, eqM_g, ltM_f, ltM_t, leM_f, inb_nI, ix_nI, chk_tt, bnd_ss, up_ne, up_self, up_oth, if_true, if_false, reduceCtorEq, Nat.succ_ne_zero]; exact fun g => g), hz, if_pos (by decide)]
  rw [hl, bnd_ss]
  dsimp only
  unfold X_greatestDivisor_J34
  have hG : euG a b ≤ 1000000 := (hle (euN a b) (Nat.le_refl _)).1
  show some (mx (nI (euG a b)) 1) = some (nI (euG a b))
  rw [mx_1 (euG_pos hb) (by omega)]
theorem frac_t {a b : Nat} (ha : a < 1000000) (hb : b = 16 ∨ b = 120) (x : Int32) : X_fraction (nI a) (nI b) x = some (frV a b x) := by
  have hp := euG_pos (a := a) hb
  have hle := (eu_le (a := a) (b := b) (m := 1000000) (by omega) (by omega) (euN a b) (Nat.le_refl _)).1
  have hle : euG a b ≤ 1000000 := hle
  have d1 : a / euG a b ≤ a := Nat.div_le_self _ _
  have d2 : b / euG a b ≤ b := Nat.div_le_self _ _
  unfold X_fraction frV
  rw [gdiv_t ha hb, bnd_ss, chk_t (nz32_t (by omega) (by omega)), chk_t (nz32_t (by omega) (by omega)), pk_div (by omega) (by omega) (by omega), pk_div (by omega) (by omega) (by omega), nI_l (by omega), nI_l (by omega)]
  split <;> rfl
theorem part_fr {a b : Nat} (ha : a < 1000000) (hb : b = 16 ∨ b = 120) (x : Int32) : M_part (lN a) (lN b) x = some (frV a b x) := by
  have hp := euG_pos (a := a) hb
  have hN := euN_lt (a := a) hb
  have hz := euN_z (a := a) hb
  have hle := eu_le (a := a) (b := b) (m := 1000000) (by omega) (by omega)
  have hlG := (hle (euN a b) (Nat.le_refl _)).1
  have hlG : euG a b ≤ 1000000 := hlG
  unfold M_part
  rw [if_pos (by rw [lgc_ge]; exact (lN_le (a := 0) (by omega) (by omega)).mpr (Nat.zero_le _))]
  unfold M_part_J12
  have hl : lp (σ := Int64 × Int64) (fun q => M_part_L17 (lN a) (lN b) x q.1 q.2) FZ (lN a, lN b) = some ((lN (eu a b (euN a b)).1, lN (eu a b (euN a b)).2), 1) := by
    refine lp_1 (fun j => (lN (eu a b j).1, lN (eu a b j).2)) (euN a b) rfl ?_ ?_ (by omega)
    · intro j hj
      dsimp only
      have h0 := euN_nz hj
      have h1 := hle j (by omega)
      unfold M_part_L17
      rw [if_neg (by rw [lgc_eq]; exact fun g => h0 ((lN_eq (b := 0) (by omega) (by omega)).mp g)), chk_t (nz64_t (by omega) (by omega)), pk_lRem (by omega) (by omega) (by omega)]
      rfl
    · dsimp only
      unfold M_part_L17
      rw [hz, if_pos (by decide)]
  rw [hl, bnd_ss]
  dsimp only
  unfold M_part_J42 frV
  rw [show (eu a b (euN a b)).1 = euG a b from rfl, chk_t (nz64_t (by omega) (by omega)), chk_t (nz64_t (by omega) (by omega)), pk_lDiv (by omega) (by omega) (by omega), pk_lDiv (by omega) (by omega) (by omega)]
  split <;> rfl
/-- the worth of an evening behind the weather -/
def woX (S : St) (b e : Nat) (x : Int32) : Int64 := frV (vR (S 58) b e * (16 - nR (S 61) e)) 16 x
theorem ten_mul (x b : Nat) : (10 : Int32) * nI x + nI b = nI (10 * x + b) := by rw [n_10, pk_mul, nI_add]
theorem worthOf_t {w : gw} {T U : St} {i b e : Nat} (hI : Inv w T i) (h58 : U 58 = T 58) (h61 : U 61 = T 61) (hb : b < 5) (he : e < 10) (x : Int32) : M_worthOf U (nI b) (nI e) x = some (woX T b e x) := by
  have hv := Inv_vl hI hb he
  have hc := Inv_cl hI he
  unfold M_worthOf woX
  have hle : vR (T 58) b e * (16 - nR (T 61) e) ≤ 99 * 16 := Nat.mul_le_mul hv.2.1 (by omega)
  rw [ten_mul, chk_t (inb_nI (by omega) (by decide)), chk_t (inb_nI (by omega) (by decide)), ix_nI (by omega), ix_nI (by omega), h58, h61, hv.1, hc.1, n_16, pk_sub hc.2.1, nI_l (by omega), nI_l (by omega), lN_mul, show (16 : Int64) = lN 16 from rfl, part_fr (by omega) (Or.inl rfl), bnd_ss]
theorem xWorth {w : gw} {T : St} {i b e : Nat} (hI : Inv w T i) (hb : b < 5) (he : e < 10) {x : Int32} (hx : sm x 1) : X_worth T (nI b) (nI e) x = some (woX T b e x) := by
  have hv := Inv_vl hI hb he
  have hc := Inv_cl hI he
  have hle : vR (T 58) b e * (16 - nR (T 61) e) ≤ 99 * 16 := Nat.mul_le_mul hv.2.1 (by omega)
  unfold X_worth woX
  rw [if_neg (by rw [show X_isBidder (nI b) = 1 from xw_t (show sm (nI b) 4 from ⟨b, by omega, rfl⟩) (by decide)]; exact n10), if_neg (by rw [show X_isEvening (nI e) = 1 from xw_t (show sm (nI e) 9 from ⟨e, by omega, rfl⟩) (by decide)]; exact n10), if_neg (by rw [show X_within x 0 1 = 1 from xw_t hx (by decide)]; exact n10), chk_t (inb_nI hb (by decide)), chk_t (inb_nI he (by decide)), chk_t (inb_nI he (by decide)), ix_nI (by omega), ix_nI (by omega), hv.2.2, hc.2.2, n_16, pk_sub hc.2.1, pk_mul, frac_t (by omega) (Or.inl rfl), bnd_ss]
theorem op_worth {w : gw} {S : St} {i : Nat} (h : Inv w S i) (hi : i < 512) (a1 : Int32) (a2 : Int32) (a3 : Int32) : ∃ z1 z2, X_worth S a1 a2 a3 = some z1 ∧ M_worth S a1 a2 a3 = some z2 ∧ z1 = z2 ∧ Inv w S (i + 1) := by
  have hbad : (¬ sm a1 4 ∨ ¬ sm a2 9 ∨ ¬ sm a3 1) → ∃ z1 z2, X_worth S a1 a2 a3 = some z1 ∧ M_worth S a1 a2 a3 = some z2 ∧ z1 = z2 ∧ Inv w S (i + 1) := by
    intro hb
    refine ⟨-9223372036854775806, -9223372036854775806, ?_, ?_, rfl, Inv_next h⟩
    · unfold X_worth X_isBidder X_isEvening
      by_cases g1 : X_within a1 0 4 = 0
      · rw [if_pos g1]
      · rw [if_neg g1]
        by_cases g2 : X_within a2 0 9 = 0
        · rw [if_pos g2]
        · rw [if_neg g2]
          rw [if_pos]
          rcases hb with hb | hb | hb
          · exact absurd (xw_f hb (by decide)) g1
          · exact absurd (xw_f hb (by decide)) g2
          · exact xw_f hb (by decide)
    · have e : M_worth_J31 S = some (-9223372036854775806) := by
        unfold M_worth_J31 M_no
        exact congrArg some (by decide)
      unfold M_worth M_isBidder M_isEvening M_isTwo
      rw [e]
      by_cases g1 : M_in a1.toInt64 0 4 = 0
      · rw [if_pos g1]
      · rw [if_neg g1]
        by_cases g2 : M_in a2.toInt64 0 9 = 0
        · rw [if_pos g2]
        · rw [if_neg g2]
          rw [if_pos]
          rcases hb with hb | hb | hb
          · exact absurd (mi_f hb (by decide)) g1
          · exact absurd (mi_f hb (by decide)) g2
          · exact mi_f hb (by decide)
  rcases sm_or a1 4 with h1 | h1
  · rcases sm_or a2 9 with h2 | h2
    · rcases sm_or a3 1 with h3 | h3
      · have g1 : ¬ M_isBidder a1 = 0 := by rw [show M_isBidder a1 = 1 from mi_t h1 (by decide)]; exact n10
        have g2 : ¬ M_isEvening a2 = 0 := by rw [show M_isEvening a2 = 1 from mi_t h2 (by decide)]; exact n10
        have g3 : ¬ M_isTwo a3 = 0 := by rw [show M_isTwo a3 = 1 from mi_t h3 (by decide)]; exact n10
        obtain ⟨b, hb, rfl⟩ := h1
        obtain ⟨e, he, rfl⟩ := h2
        refine ⟨_, _, xWorth h (by omega) (by omega) h3, ?_, rfl, Inv_next h⟩
        unfold M_worth
        rw [if_neg g1, if_neg g2, if_neg g3, worthOf_t h rfl rfl (by omega) (by omega), bnd_ss]
      · exact hbad (Or.inr (Or.inr h3))
    · exact hbad (Or.inr (Or.inl h2))
  · exact hbad (Or.inl h1)
/-! ===== swap ===== -/
def swV (va : Nat → Nat → Nat) (x y a b : Nat) : Int32 := if x = y then -3 else if va x b ≤ va x a then 0 else if va y a ≤ va y b then 0 else 1
noncomputable def swX (S : St) (a b : Nat) : Int32 := if lX S a = 0 then -3 else if lX S b = 0 then -3 else swV (vR (S 58)) (bdk (tX S) (lX S a - 1)) (bdk (tX S) (lX S b - 1)) a b
theorem swapOf_t {w : gw} {T U : St} {i a b : Nat} (hI : Inv w T i) (hJ : JM (tX T) (nX T) U (lX T)) (h58 : U 58 = T 58) (ha : a < 10) (hb : b < 10) : M_swapOf U (nI a) (nI b) = some (swX T a b) := by
  have hn := (Inv_tx hI).1
  unfold M_swapOf swX
  rw [ownerOf_t hJ ha, bnd_ss, ownerOf_t hJ hb, bnd_ss, h58]
  rcases ldX_c hn a with ⟨c, d⟩ | ⟨c, x, x1, x2, d⟩
  · rw [d, if_pos (show mI = -1 from rfl), if_pos c]
  · rw [d, if_neg (by rw [m_1]; try simp (disch := omega) only [↓m_1, n_0, n_1, n_2, n_3, n_4, n_5, n_6, n_7, n_8, n_9, n_10, n_16, n_20, n_24, n_31, n_32, n_48, n_52, n_57, n_59, n_60, n_64, n_100, n_1024, nI_add, pk_mul, pk_sub, leI_t, leI_f, ltI_t, ltI_f, eqI_t, eqI_f, geM_t, eqM_f, eqM_g, ltM_f, ltM_t, leM_f, inb_nI, ix_nI, chk_tt, bnd_ss, up_ne, up_self, up_oth, if_true, if_false, reduceCtorEq, Nat.succ_ne_zero]; exact fun g => g), if_neg c, x2]
    rcases ldX_c hn b with ⟨c', d'⟩ | ⟨c', y, y1, y2, d'⟩
    · rw [d', if_pos (show mI = -1 from rfl), if_pos c']
    · rw [d', if_neg (by rw [m_1]; try simp (disch := omega) only [↓m_1, n_0, n_1, n_2, n_3, n_4, n_5, n_6, n_7, n_8, n_9, n_10, n_16, n_20, n_24, n_31, n_32, n_48, n_52, n_57, n_59, n_60, n_64, n_100, n_1024, nI_add, pk_mul, pk_sub, leI_t, leI_f, ltI_t, ltI_f, eqI_t, eqI_f, geM_t, eqM_f, eqM_g, ltM_f, ltM_t, leM_f, inb_nI, ix_nI, chk_tt, bnd_ss, up_ne, up_self, up_oth, if_true, if_false, reduceCtorEq, Nat.succ_ne_zero]; exact fun g => g), if_neg c', y2]
      have v1 := Inv_vl hI x1 hb
      have v2 := Inv_vl hI x1 ha
      have v3 := Inv_vl hI y1 ha
      have v4 := Inv_vl hI y1 hb
      unfold swV
      by_cases e : x = y
      · rw [if_pos (by rw [e]), if_pos e]
      · rw [if_neg (by rw [nI_eq (by omega) (by omega)]; exact e), if_neg e, ten_mul x b, ten_mul x a, ten_mul y a, ten_mul y b, chk_t (inb_nI (show 10 * x + b < 50 by omega) (by decide)), chk_t (inb_nI (show 10 * x + a < 50 by omega) (by decide)), chk_t (inb_nI (show 10 * y + a < 50 by omega) (by decide)), chk_t (inb_nI (show 10 * y + b < 50 by omega) (by decide)), ix_nI (show 10 * x + b < 2 ^ 31 by omega), ix_nI (show 10 * x + a < 2 ^ 31 by omega), ix_nI (show 10 * y + a < 2 ^ 31 by omega), ix_nI (show 10 * y + b < 2 ^ 31 by omega), v1.1, v2.1, v3.1, v4.1]
        by_cases f : vR (T 58) x b ≤ vR (T 58) x a
        · rw [if_pos ((nI_leI (by omega) (by omega)).mpr f), if_pos f]
        · rw [if_neg (fun g => f ((nI_leI (by omega) (by omega)).mp g)), if_neg f]
          by_cases f2 : vR (T 58) y a ≤ vR (T 58) y b
          · rw [if_pos ((nI_leI (by omega) (by omega)).mpr f2), if_pos f2]
          · rw [if_neg (fun g => f2 ((nI_leI (by omega) (by omega)).mp g)), if_neg f2]
theorem isB_t {q : Nat} (h : q < 5) : ¬ X_isBidder (nI q) = 0 := by rw [show X_isBidder (nI q) = 1 from xw_t (show sm (nI q) 4 from ⟨q, by omega, rfl⟩) (by decide)]; exact n10
theorem isE_t {q : Nat} (h : q < 10) : ¬ X_isEvening (nI q) = 0 := by rw [show X_isEvening (nI q) = 1 from xw_t (show sm (nI q) 9 from ⟨q, by omega, rfl⟩) (by decide)]; exact n10
theorem xSwap {w : gw} {S T : St} {i a b : Nat} (hT : X_judgedOutcome S = some T) (hI : Inv w T i) (hO : OcOK T) (ha : a < 10) (hb : b < 10) (hab : a ≠ b) : X_swap S (nI a) (nI b) = some (swX T a b, T) := by
  have hn := (Inv_tx hI).1
  unfold X_swap swX
  rw [if_neg (isE_t ha), if_neg (isE_t hb), if_neg (by rw [nI_eq (by omega) (by omega)]; exact hab), hT, bnd_ss, chk_t (inb_nI ha (by decide)), chk_t (inb_nI hb (by decide)), ix_nI (show a < 2 ^ 31 by omega), ix_nI (show b < 2 ^ 31 by omega), Oc29 hO ha, Oc29 hO hb]
  rcases ldX_c hn a with ⟨c, d⟩ | ⟨c, x, x1, x2, d⟩
  · rw [d, if_pos (show X_isBidder mI = 0 by decide), if_pos c]
  · rw [d, if_neg (isB_t x1), if_neg c, x2]
    rcases ldX_c hn b with ⟨c', d'⟩ | ⟨c', y, y1, y2, d'⟩
    · rw [d', if_pos (show X_isBidder mI = 0 by decide), if_pos c']
    · rw [d', if_neg (isB_t y1), if_neg c', y2]
      have v1 := Inv_vl hI x1 hb
      have v2 := Inv_vl hI x1 ha
      have v3 := Inv_vl hI y1 ha
      have v4 := Inv_vl hI y1 hb
      unfold swV
      by_cases e : x = y
      · rw [if_pos (by rw [e]), if_pos e]
      · rw [if_neg (by rw [nI_eq (by omega) (by omega)]; exact e), if_neg e, chk_t (inb_nI x1 (by decide)), chk_t (inb_nI y1 (by decide)), chk_t (inb_nI hb (by decide)), chk_t (inb_nI ha (by decide)), chk_t (inb_nI ha (by decide)), chk_t (inb_nI hb (by decide)), ix_nI (show x < 2 ^ 31 by omega), ix_nI (show y < 2 ^ 31 by omega), v1.2.2, v2.2.2, v3.2.2, v4.2.2]
        by_cases f : vR (T 58) x b ≤ vR (T 58) x a
        · rw [if_pos ((nI_leI (by omega) (by omega)).mpr f), if_pos f]
        · rw [if_neg (fun g => f ((nI_leI (by omega) (by omega)).mp g)), if_neg f]
          by_cases f2 : vR (T 58) y a ≤ vR (T 58) y b
          · rw [if_pos ((nI_leI (by omega) (by omega)).mpr f2), if_pos f2]
          · rw [if_neg (fun g => f2 ((nI_leI (by omega) (by omega)).mp g)), if_neg f2]
theorem op_swap {w : gw} {S : St} {i : Nat} (h : Inv w S i) (hi : i < 512) (a1 : Int32) (a2 : Int32) : ∃ z1 z2, X_swap S a1 a2 = some z1 ∧ M_swap z1.2 a1 a2 = some z2 ∧ z1.1 = z2.1 ∧ Inv w z2.2 (i + 1) := by
  have hbad : (¬ sm a1 9 ∨ ¬ sm a2 9 ∨ a1 = a2) → ∃ z1 z2, X_swap S a1 a2 = some z1 ∧ M_swap z1.2 a1 a2 = some z2 ∧ z1.1 = z2.1 ∧ Inv w z2.2 (i + 1) := by
    intro hb
    obtain ⟨U, hU, hI, -⟩ := MF h
    refine ⟨(-2, S), (-2, U), ?_, ?_, rfl, Inv_next hI⟩
    · unfold X_swap X_isEvening
      by_cases g1 : X_within a1 0 9 = 0
      · rw [if_pos g1]
      · rw [if_neg g1]
        by_cases g2 : X_within a2 0 9 = 0
        · rw [if_pos g2]
        · rw [if_neg g2, if_pos]
          rcases hb with hb | hb | hb
          · exact absurd (xw_f hb (by decide)) g1
          · exact absurd (xw_f hb (by decide)) g2
          · exact hb
    · show M_swap S a1 a2 = _
      unfold M_swap M_isEvening
      rw [hU, bnd_ss]
      by_cases g1 : M_in a1.toInt64 0 9 = 0
      · rw [if_pos g1]
      · rw [if_neg g1]
        by_cases g2 : M_in a2.toInt64 0 9 = 0
        · rw [if_pos g2]
        · rw [if_neg g2, if_pos]
          rcases hb with hb | hb | hb
          · exact absurd (mi_f hb (by decide)) g1
          · exact absurd (mi_f hb (by decide)) g2
          · exact hb
  rcases sm_or a1 9 with h1 | h1
  · rcases sm_or a2 9 with h2 | h2
    · by_cases hab : a1 = a2
      · exact hbad (Or.inr (Or.inr hab))
      · have g1 : ¬ M_isEvening a1 = 0 := by rw [show M_isEvening a1 = 1 from mi_t h1 (by decide)]; exact n10
        have g2 : ¬ M_isEvening a2 = 0 := by rw [show M_isEvening a2 = 1 from mi_t h2 (by decide)]; exact n10
        obtain ⟨a, ha, rfl⟩ := h1
        obtain ⟨b, hb, rfl⟩ := h2
        obtain ⟨T, U, hT, hU, hI, hI2, hO, hM⟩ := XMf h hi
        refine ⟨_, (swX T a b, U), xSwap hT hI hO (by omega) (by omega) (fun g => hab (by rw [g])), ?_, rfl, hI2⟩
        show M_swap T _ _ = _
        unfold M_swap
        rw [hU, bnd_ss, if_neg g1, if_neg g2, if_neg hab, swapOf_t hI hM.2.2.1 (hM.1.1 58 (by decide) (by decide) (by decide) (by decide)) (by omega) (by omega), bnd_ss]
    · exact hbad (Or.inr (Or.inl h2))
  · exact hbad (Or.inl h1)
