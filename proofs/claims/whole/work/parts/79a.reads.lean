/-! ===== the reference reads the text ===== -/
def FrR (S T : St) : Prop := (∀ r, r ≠ 49 → r ≠ 55 → T r = S r) ∧ (∀ j, j ≠ 7 → j ≠ 8 → T 49 j = S 49 j)
theorem FrR_55 {S T : St} {j : Nat} {v : Int32} (h : FrR S T) : FrR S (up T 55 j v) :=
  ⟨fun r h1 h2 => by rw [up_ne h2, h.1 r h1 h2], fun j h1 h2 => by rw [up_ne (by decide), h.2 j h1 h2]⟩
theorem FrR_7 {S T : St} {v : Int32} (h : FrR S T) : FrR S (up T 49 7 v) :=
  ⟨fun r h1 h2 => by rw [up_ne h1, h.1 r h1 h2], fun j h1 h2 => by rw [up_oth h1, h.2 j h1 h2]⟩
theorem FrR_8 {S T : St} {v : Int32} (h : FrR S T) : FrR S (up T 49 8 v) :=
  ⟨fun r h1 h2 => by rw [up_ne h1, h.1 r h1 h2], fun j h1 h2 => by rw [up_oth h2, h.2 j h1 h2]⟩
theorem mi_d {a h : Nat} (ha : a ≤ 255) (hh : h ≤ 255) : M_in ((nI a - nI 48).toInt64) 0 (lN h) = if 48 ≤ a ∧ a ≤ 48 + h then 1 else 0 := by
  rw [mi_iff]
  have e : ((nI a - nI 48).toInt64).toInt = (a : Int) - 48 := by
    rw [wide_toInt, pk_sub_toInt (by omega) (by omega)]
    rfl
  by_cases c : 48 ≤ a ∧ a ≤ 48 + h
  · rw [if_pos c, if_pos]
    rw [Int64.le_iff_toInt_le, Int64.le_iff_toInt_le, e, lN_toInt (by omega)]
    have : (0 : Int64).toInt = 0 := rfl
    omega
  · rw [if_neg c, if_neg]
    rw [Int64.le_iff_toInt_le, Int64.le_iff_toInt_le, e, lN_toInt (by omega)]
    have : (0 : Int64).toInt = 0 := rfl
    omega
theorem mi_m (h : Nat) : M_in ((mI - nI 48).toInt64) 0 (lN h) = 0 := by
  rw [mi_iff, if_neg]
  rintro ⟨g, -⟩
  exact absurd g (by decide)
theorem here_t {S : St} {p n : Nat} (hn : n ≤ 100) (h6 : S 49 6 = nI n) (h7 : S 49 7 = nI p) (hp : p ≤ 100) : M_here S = some (if n ≤ p then mI else S 54 p) := by
  unfold M_here
  rw [h6, h7]
  by_cases c : n ≤ p
  · rw [if_pos c]; try simp (disch := omega) only [↓m_1, n_0, n_1, n_2, n_3, n_4, n_5, n_6, n_7, n_8, n_9, n_10, n_16, n_20, n_24, n_31, n_32, n_48, n_52, n_57, n_59, n_60, n_64, n_100, n_1024, nI_add, pk_mul, pk_sub, leI_t, leI_f, ltI_t, ltI_f, eqI_t, eqI_f, geM_t, eqM_f, eqM_g, ltM_f, ltM_t, leM_f, inb_nI, ix_nI, chk_tt, bnd_ss, up_ne, up_self, up_oth, if_true, if_false, reduceCtorEq, Nat.succ_ne_zero]
  · rw [if_neg c]; try simp (disch := omega) only [↓m_1, n_0, n_1, n_2, n_3, n_4, n_5, n_6, n_7, n_8, n_9, n_10, n_16, n_20, n_24, n_31, n_32, n_48, n_52, n_57, n_59, n_60, n_64, n_100, n_1024, nI_add, pk_mul, pk_sub, leI_t, leI_f, ltI_t, ltI_f, eqI_t, eqI_f, geM_t, eqM_f, eqM_g, ltM_f, ltM_t, leM_f, inb_nI, ix_nI, chk_tt, bnd_ss, up_ne, up_self, up_oth, if_true, if_false, reduceCtorEq, Nat.succ_ne_zero]
/-- entries of the bids before k -/
def ent (tx : Nat → Nat) (r : Nat → Int32) (k : Nat) : Prop := ∀ j, j < k → r (3 * j) = nI (evk tx j) ∧ r (3 * j + 1) = nI (bdk tx j) ∧ r (3 * j + 2) = nI (amk tx j)
def PI (S : St) (tx : Nat → Nat) (n k i : Nat) (q : Int32 × Int32 × St) : Prop := i ≤ 4 ∧ q.2.1 = nI i ∧ FrR S q.2.2 ∧ q.2.2 49 7 = nI (5 * k + i) ∧ q.2.2 49 8 = nI k ∧ 5 * k + i ≤ n ∧ (∀ p, 5 * k ≤ p → p < 5 * k + i → fit tx p = true) ∧ (i ≤ 2 → q.1 = nI 0) ∧ (i = 3 → q.1 = nI (tx (5 * k + 2) - 48)) ∧ ent tx (q.2.2 55) k ∧ (1 ≤ i → q.2.2 55 (3 * k) = nI (evk tx k)) ∧ (2 ≤ i → q.2.2 55 (3 * k + 1) = nI (bdk tx k)) ∧ (4 ≤ i → q.2.2 55 (3 * k + 2) = nI (amk tx k))
def PP (S : St) (tx : Nat → Nat) (n k : Nat) (r : (Int32 × Int32 × St) × Nat) : Prop := FrR S r.1.2.2 ∧ ((r.2 = 1 ∧ ∃ p, r.1.2.2 49 7 = nI p ∧ 5 * k ≤ p ∧ p < 5 * k + 4 ∧ p ≤ n ∧ (∀ q, 5 * k ≤ q → q < p → fit tx q = true) ∧ (p < n → ¬ fit tx p = true)) ∨ (r.2 = 2 ∧ r.1.2.2 49 7 = nI (5 * k + 4) ∧ 5 * k + 4 ≤ n ∧ (∀ q, 5 * k ≤ q → q < 5 * k + 4 → fit tx q = true) ∧ r.1.2.2 49 8 = nI k ∧ ent tx (r.1.2.2 55) (k + 1)))
theorem part_t {S : St} {tx : Nat → Nat} {n k : Nat} (hn : n ≤ 100) (ht : ∀ j, j < n → S 54 j = nI (tx j) ∧ tx j ≤ 255) (h6 : S 49 6 = nI n) (h7 : S 49 7 = nI (5 * k)) (h8 : S 49 8 = nI k) (hk : k ≤ 20) (hkn : 5 * k ≤ n) (he : ent tx (S 55) k) : ∃ z, M_readsPart S = some z ∧ FrR S z.2 ∧ ((z.1 = 0 ∧ ∃ p, z.2 49 7 = nI p ∧ 5 * k ≤ p ∧ p < 5 * k + 4 ∧ p ≤ n ∧ (∀ q, 5 * k ≤ q → q < p → fit tx q = true) ∧ (p < n → ¬ fit tx p = true)) ∨ (z.1 = 1 ∧ k < 20 ∧ z.2 49 7 = nI (5 * k + 4) ∧ 5 * k + 4 ≤ n ∧ (∀ q, 5 * k ≤ q → q < 5 * k + 4 → fit tx q = true) ∧ z.2 49 8 = nI (k + 1) ∧ ent tx (z.2 55) (k + 1))) := by
  unfold M_readsPart
  rw [h8]
  by_cases hk20 : k = 20
  · try simp (disch := omega) only [↓m_1, n_0, n_1, n_2, n_3, n_4, n_5, n_6, n_7, n_8, n_9, n_10, n_16, n_20, n_24, n_31, n_32, n_48, n_52, n_57, n_59, n_60, n_64, n_100, n_1024, nI_add, pk_mul, pk_sub, leI_t, leI_f, ltI_t, ltI_f, eqI_t, eqI_f, geM_t, eqM_f, eqM_g, ltM_f, ltM_t, leM_f, inb_nI, ix_nI, chk_tt, bnd_ss, up_ne, up_self, up_oth, if_true, if_false, reduceCtorEq, Nat.succ_ne_zero, hk20]
    refine ⟨_, rfl, ⟨fun _ _ _ => rfl, fun _ _ _ => rfl⟩, Or.inl ⟨rfl, 5 * k, ?_, by omega, by omega, by omega, fun q a b => by omega, fun a => by omega⟩⟩
    exact h7
  · try simp (disch := omega) only [↓m_1, n_0, n_1, n_2, n_3, n_4, n_5, n_6, n_7, n_8, n_9, n_10, n_16, n_20, n_24, n_31, n_32, n_48, n_52, n_57, n_59, n_60, n_64, n_100, n_1024, nI_add, pk_mul, pk_sub, leI_t, leI_f, ltI_t, ltI_f, eqI_t, eqI_f, geM_t, eqM_f, eqM_g, ltM_f, ltM_t, leM_f, inb_nI, ix_nI, chk_tt, bnd_ss, up_ne, up_self, up_oth, if_true, if_false, reduceCtorEq, Nat.succ_ne_zero]
    obtain ⟨r, hr, hP⟩ := lp_inv (st := fun q : Int32 × Int32 × St => M_readsPart_L15 q.2.2 q.1 q.2.1) (PI S tx n k) 4 (PP S tx n k) (by omega) (fun i q h => by
      obtain ⟨x1, x2, T⟩ := q
      obtain ⟨hi, a1, a2, a3, a4, a5, a6, a7, a8, a9, b1, b2, b3⟩ := h
      dsimp only at a1 a2 a3 a4 a5 a6 a7 a8 a9 b1 b2 b3
      subst a1
      show ∃ r, M_readsPart_L15 T x1 (nI i) = some r ∧ _
      unfold M_readsPart_L15
      by_cases hi4 : i = 4
      · try simp (disch := omega) only [↓m_1, n_0, n_1, n_2, n_3, n_4, n_5, n_6, n_7, n_8, n_9, n_10, n_16, n_20, n_24, n_31, n_32, n_48, n_52, n_57, n_59, n_60, n_64, n_100, n_1024, nI_add, pk_mul, pk_sub, leI_t, leI_f, ltI_t, ltI_f, eqI_t, eqI_f, geM_t, eqM_f, eqM_g, ltM_f, ltM_t, leM_f, inb_nI, ix_nI, chk_tt, bnd_ss, up_ne, up_self, up_oth, if_true, if_false, reduceCtorEq, Nat.succ_ne_zero, hi4]
        refine ⟨_, rfl, Or.inr ⟨Nat.succ_ne_zero 1, a2, Or.inr ⟨rfl, ?_, by omega, ?_, a4, ?_⟩⟩⟩
        · show T 49 7 = _
          rw [a3, hi4]
        · rw [hi4] at a6; exact a6
        · intro j hj
          by_cases hjk : j = k
          · subst hjk
            exact ⟨b1 (by omega), b2 (by omega), b3 (by omega)⟩
          · exact a9 j (by omega)
      · have g6 : T 49 6 = nI n := by rw [a2.2 6 (by decide) (by decide), h6]
        have gt : ∀ j, j < n → T 54 j = nI (tx j) ∧ tx j ≤ 255 := by rw [a2.1 54 (by decide) (by decide)]; exact ht
        rw [here_t hn g6 a3 (by omega), bnd_ss, if_neg (by rw [n_4]; try simp (disch := omega) only [↓m_1, n_0, n_1, n_2, n_3, n_4, n_5, n_6, n_7, n_8, n_9, n_10, n_16, n_20, n_24, n_31, n_32, n_48, n_52, n_57, n_59, n_60, n_64, n_100, n_1024, nI_add, pk_mul, pk_sub, leI_t, leI_f, ltI_t, ltI_f, eqI_t, eqI_f, geM_t, eqM_f, eqM_g, ltM_f, ltM_t, leM_f, inb_nI, ix_nI, chk_tt, bnd_ss, up_ne, up_self, up_oth, if_true, if_false, reduceCtorEq, Nat.succ_ne_zero]; exact fun g => g)]
        have fail : ∀ x y : Int32, (5 * k + i < n → ¬ fit tx (5 * k + i) = true) → ∃ r, some ((x, y, T), 1) = some r ∧ ((r.2 = 0 ∧ i < 4 ∧ PI S tx n k (i + 1) r.1) ∨ (r.2 ≠ 0 ∧ PP S tx n k r)) := by
          intro x y hb
          exact ⟨_, rfl, Or.inr ⟨Nat.succ_ne_zero 0, a2, Or.inl ⟨rfl, 5 * k + i, a3, by omega, by omega, by omega, a6, hb⟩⟩⟩
        unfold M_readsPart_J43 M_readsPart_J61 M_readsPart_J78 M_readsPart_J98 M_readsPart_J109
        rw [show (4 : Int64) = lN 4 from rfl, show (9 : Int64) = lN 9 from rfl, n_48]
        by_cases hend : n ≤ 5 * k + i
        · rw [if_pos hend, mi_m, mi_m, if_pos rfl, if_pos rfl]
          have hb : 5 * k + i < n → ¬ fit tx (5 * k + i) = true := fun g => by omega
          split
          · split <;> exact fail _ _ hb
          · split <;> exact fail _ _ hb
        · obtain ⟨e, h255⟩ := gt (5 * k + i) (by omega)
          rw [if_neg hend, e, mi_d h255 (by omega), mi_d h255 (by omega), a4]
          have go : ∀ (m j : Nat) (x : Int32) (U : St), U = up T 55 (3 * k + m) (nI j) → fit tx (5 * k + i) = true → (i = 0 → m = 0 ∧ j = evk tx k) → (i = 1 → m = 1 ∧ j = bdk tx k) → (i = 2 → m = 2) → (i = 3 → m = 2 ∧ j = amk tx k) → (i + 1 ≤ 2 → x = nI 0) → (i + 1 = 3 → x = nI (tx (5 * k + 2) - 48)) → ∃ r, some ((x, nI (i + 1), up U 49 7 (nI (5 * k + i + 1))), 0) = some r ∧ ((r.2 = 0 ∧ i < 4 ∧ PI S tx n k (i + 1) r.1) ∨ (r.2 ≠ 0 ∧ PP S tx n k r)) := by
            intro m j x U hU hfit c0 c1 c2 c3 x1 x3
            subst hU
            refine ⟨_, rfl, Or.inl ⟨rfl, by omega, by omega, rfl, FrR_7 (FrR_55 a2), ?_, ?_, by omega, ?_, x1, x3, ?_, ?_, ?_, ?_⟩⟩
            · dsimp only
              rw [up_self, Nat.add_assoc]
            · dsimp only
              try simp (disch := omega) only [↓m_1, n_0, n_1, n_2, n_3, n_4, n_5, n_6, n_7, n_8, n_9, n_10, n_16, n_20, n_24, n_31, n_32, n_48, n_52, n_57, n_59, n_60, n_64, n_100, n_1024, nI_add, pk_mul, pk_sub, leI_t, leI_f, ltI_t, ltI_f, eqI_t, eqI_f, geM_t, eqM_f, eqM_g, ltM_f, ltM_t, leM_f, inb_nI, ix_nI, chk_tt, bnd_ss, up_ne, up_self, up_oth, if_true, if_false, reduceCtorEq, Nat.succ_ne_zero]; exact a4
            · intro p p1 p2
              by_cases hp : p = 5 * k + i
              · rw [hp]; exact hfit
              · exact a6 p p1 (by omega)
            · intro q hq
              obtain ⟨d1, d2, d3⟩ := a9 q hq
              dsimp only
              try simp (disch := omega) only [↓m_1, n_0, n_1, n_2, n_3, n_4, n_5, n_6, n_7, n_8, n_9, n_10, n_16, n_20, n_24, n_31, n_32, n_48, n_52, n_57, n_59, n_60, n_64, n_100, n_1024, nI_add, pk_mul, pk_sub, leI_t, leI_f, ltI_t, ltI_f, eqI_t, eqI_f, geM_t, eqM_f, eqM_g, ltM_f, ltM_t, leM_f, inb_nI, ix_nI, chk_tt, bnd_ss, up_ne, up_self, up_oth, if_true, if_false, reduceCtorEq, Nat.succ_ne_zero]
              exact ⟨d1, d2, d3⟩
            · intro _
              try simp (disch := omega) only [↓m_1, n_0, n_1, n_2, n_3, n_4, n_5, n_6, n_7, n_8, n_9, n_10, n_16, n_20, n_24, n_31, n_32, n_48, n_52, n_57, n_59, n_60, n_64, n_100, n_1024, nI_add, pk_mul, pk_sub, leI_t, leI_f, ltI_t, ltI_f, eqI_t, eqI_f, geM_t, eqM_f, eqM_g, ltM_f, ltM_t, leM_f, inb_nI, ix_nI, chk_tt, bnd_ss, up_ne, up_self, up_oth, if_true, if_false, reduceCtorEq, Nat.succ_ne_zero]
              by_cases hm : i = 0
              · obtain ⟨rfl, rfl⟩ := c0 hm
                exact up_self
              · rw [up_oth (by omega)]; exact b1 (by omega)
            · intro g
              try simp (disch := omega) only [↓m_1, n_0, n_1, n_2, n_3, n_4, n_5, n_6, n_7, n_8, n_9, n_10, n_16, n_20, n_24, n_31, n_32, n_48, n_52, n_57, n_59, n_60, n_64, n_100, n_1024, nI_add, pk_mul, pk_sub, leI_t, leI_f, ltI_t, ltI_f, eqI_t, eqI_f, geM_t, eqM_f, eqM_g, ltM_f, ltM_t, leM_f, inb_nI, ix_nI, chk_tt, bnd_ss, up_ne, up_self, up_oth, if_true, if_false, reduceCtorEq, Nat.succ_ne_zero]
              by_cases hm : i = 1
              · obtain ⟨rfl, rfl⟩ := c1 hm
                try simp (disch := omega) only [↓m_1, n_0, n_1, n_2, n_3, n_4, n_5, n_6, n_7, n_8, n_9, n_10, n_16, n_20, n_24, n_31, n_32, n_48, n_52, n_57, n_59, n_60, n_64, n_100, n_1024, nI_add, pk_mul, pk_sub, leI_t, leI_f, ltI_t, ltI_f, eqI_t, eqI_f, geM_t, eqM_f, eqM_g, ltM_f, ltM_t, leM_f, inb_nI, ix_nI, chk_tt, bnd_ss, up_ne, up_self, up_oth, if_true, if_false, reduceCtorEq, Nat.succ_ne_zero]
              · rw [up_oth (by omega)]; exact b2 (by omega)
            · intro g
              try simp (disch := omega) only [↓m_1, n_0, n_1, n_2, n_3, n_4, n_5, n_6, n_7, n_8, n_9, n_10, n_16, n_20, n_24, n_31, n_32, n_48, n_52, n_57, n_59, n_60, n_64, n_100, n_1024, nI_add, pk_mul, pk_sub, leI_t, leI_f, ltI_t, ltI_f, eqI_t, eqI_f, geM_t, eqM_f, eqM_g, ltM_f, ltM_t, leM_f, inb_nI, ix_nI, chk_tt, bnd_ss, up_ne, up_self, up_oth, if_true, if_false, reduceCtorEq, Nat.succ_ne_zero]
              obtain ⟨rfl, rfl⟩ := c3 (by omega)
              try simp (disch := omega) only [↓m_1, n_0, n_1, n_2, n_3, n_4, n_5, n_6, n_7, n_8, n_9, n_10, n_16, n_20, n_24, n_31, n_32, n_48, n_52, n_57, n_59, n_60, n_64, n_100, n_1024, nI_add, pk_mul, pk_sub, leI_t, leI_f, ltI_t, ltI_f, eqI_t, eqI_f, geM_t, eqM_f, eqM_g, ltM_f, ltM_t, leM_f, inb_nI, ix_nI, chk_tt, bnd_ss, up_ne, up_self, up_oth, if_true, if_false, reduceCtorEq, Nat.succ_ne_zero]
          have hi03 : i = 0 ∨ i = 1 ∨ i = 2 ∨ i = 3 := by omega
          rcases hi03 with rfl | rfl | rfl | rfl
          · try simp (disch := omega) only [↓m_1, n_0, n_1, n_2, n_3, n_4, n_5, n_6, n_7, n_8, n_9, n_10, n_16, n_20, n_24, n_31, n_32, n_48, n_52, n_57, n_59, n_60, n_64, n_100, n_1024, nI_add, pk_mul, pk_sub, leI_t, leI_f, ltI_t, ltI_f, eqI_t, eqI_f, geM_t, eqM_f, eqM_g, ltM_f, ltM_t, leM_f, inb_nI, ix_nI, chk_tt, bnd_ss, up_ne, up_self, up_oth, if_true, if_false, reduceCtorEq, Nat.succ_ne_zero, a3]
            by_cases cf : 48 ≤ tx (5 * k + 0) ∧ tx (5 * k + 0) ≤ 48 + 9
            · have hf : fit tx (5 * k + 0) = true := by
                unfold fit
                rw [if_neg (by omega), if_neg (by omega), if_neg (by omega), decide_eq_true_eq]
                omega
              rw [if_pos cf]
              try simp (disch := omega) only [↓m_1, n_0, n_1, n_2, n_3, n_4, n_5, n_6, n_7, n_8, n_9, n_10, n_16, n_20, n_24, n_31, n_32, n_48, n_52, n_57, n_59, n_60, n_64, n_100, n_1024, nI_add, pk_mul, pk_sub, leI_t, leI_f, ltI_t, ltI_f, eqI_t, eqI_f, geM_t, eqM_f, eqM_g, ltM_f, ltM_t, leM_f, inb_nI, ix_nI, chk_tt, bnd_ss, up_ne, up_self, up_oth, if_true, if_false, reduceCtorEq, Nat.succ_ne_zero, a3]
              exact go 0 (evk tx k) _ _ (by unfold evk; rfl) hf (fun _ => ⟨rfl, rfl⟩) (fun g => by omega) (fun g => by omega) (fun g => by omega) (fun _ => rfl) (fun g => by omega)
            · rw [if_neg cf]
              try simp (disch := omega) only [↓m_1, n_0, n_1, n_2, n_3, n_4, n_5, n_6, n_7, n_8, n_9, n_10, n_16, n_20, n_24, n_31, n_32, n_48, n_52, n_57, n_59, n_60, n_64, n_100, n_1024, nI_add, pk_mul, pk_sub, leI_t, leI_f, ltI_t, ltI_f, eqI_t, eqI_f, geM_t, eqM_f, eqM_g, ltM_f, ltM_t, leM_f, inb_nI, ix_nI, chk_tt, bnd_ss, up_ne, up_self, up_oth, if_true, if_false, reduceCtorEq, Nat.succ_ne_zero]
              refine fail _ _ (fun _ hf => cf ?_)
              have := fit_0 (k := k) hf
              omega
          · try simp (disch := omega) only [↓m_1, n_0, n_1, n_2, n_3, n_4, n_5, n_6, n_7, n_8, n_9, n_10, n_16, n_20, n_24, n_31, n_32, n_48, n_52, n_57, n_59, n_60, n_64, n_100, n_1024, nI_add, pk_mul, pk_sub, leI_t, leI_f, ltI_t, ltI_f, eqI_t, eqI_f, geM_t, eqM_f, eqM_g, ltM_f, ltM_t, leM_f, inb_nI, ix_nI, chk_tt, bnd_ss, up_ne, up_self, up_oth, if_true, if_false, reduceCtorEq, Nat.succ_ne_zero, a3]
            by_cases cf : 48 ≤ tx (5 * k + 1) ∧ tx (5 * k + 1) ≤ 48 + 4
            · have hf : fit tx (5 * k + 1) = true := by
                unfold fit
                rw [if_pos (by omega), decide_eq_true_eq]
                omega
              rw [if_pos cf]
              try simp (disch := omega) only [↓m_1, n_0, n_1, n_2, n_3, n_4, n_5, n_6, n_7, n_8, n_9, n_10, n_16, n_20, n_24, n_31, n_32, n_48, n_52, n_57, n_59, n_60, n_64, n_100, n_1024, nI_add, pk_mul, pk_sub, leI_t, leI_f, ltI_t, ltI_f, eqI_t, eqI_f, geM_t, eqM_f, eqM_g, ltM_f, ltM_t, leM_f, inb_nI, ix_nI, chk_tt, bnd_ss, up_ne, up_self, up_oth, if_true, if_false, reduceCtorEq, Nat.succ_ne_zero, a3]
              exact go 1 (bdk tx k) _ _ (by unfold bdk; rfl) hf (fun g => by omega) (fun _ => ⟨rfl, rfl⟩) (fun g => by omega) (fun g => by omega) (fun _ => rfl) (fun g => by omega)
            · rw [if_neg cf]
              try simp (disch := omega) only [↓m_1, n_0, n_1, n_2, n_3, n_4, n_5, n_6, n_7, n_8, n_9, n_10, n_16, n_20, n_24, n_31, n_32, n_48, n_52, n_57, n_59, n_60, n_64, n_100, n_1024, nI_add, pk_mul, pk_sub, leI_t, leI_f, ltI_t, ltI_f, eqI_t, eqI_f, geM_t, eqM_f, eqM_g, ltM_f, ltM_t, leM_f, inb_nI, ix_nI, chk_tt, bnd_ss, up_ne, up_self, up_oth, if_true, if_false, reduceCtorEq, Nat.succ_ne_zero]
              refine fail _ _ (fun _ hf => cf ?_)
              have := fit_1 (k := k) hf
              omega
          · have hx := a7 (by omega)
            subst hx
            try simp (disch := omega) only [↓m_1, n_0, n_1, n_2, n_3, n_4, n_5, n_6, n_7, n_8, n_9, n_10, n_16, n_20, n_24, n_31, n_32, n_48, n_52, n_57, n_59, n_60, n_64, n_100, n_1024, nI_add, pk_mul, pk_sub, leI_t, leI_f, ltI_t, ltI_f, eqI_t, eqI_f, geM_t, eqM_f, eqM_g, ltM_f, ltM_t, leM_f, inb_nI, ix_nI, chk_tt, bnd_ss, up_ne, up_self, up_oth, if_true, if_false, reduceCtorEq, Nat.succ_ne_zero, a3]
            by_cases cf : 48 ≤ tx (5 * k + 2) ∧ tx (5 * k + 2) ≤ 48 + 9
            · have hf : fit tx (5 * k + 2) = true := by
                unfold fit
                rw [if_neg (by omega), if_neg (by omega), if_neg (by omega), decide_eq_true_eq]
                omega
              rw [if_pos cf]
              try simp (disch := omega) only [↓m_1, n_0, n_1, n_2, n_3, n_4, n_5, n_6, n_7, n_8, n_9, n_10, n_16, n_20, n_24, n_31, n_32, n_48, n_52, n_57, n_59, n_60, n_64, n_100, n_1024, nI_add, pk_mul, pk_sub, leI_t, leI_f, ltI_t, ltI_f, eqI_t, eqI_f, geM_t, eqM_f, eqM_g, ltM_f, ltM_t, leM_f, inb_nI, ix_nI, chk_tt, bnd_ss, up_ne, up_self, up_oth, if_true, if_false, reduceCtorEq, Nat.succ_ne_zero, a3]
              rw [show 10 * 0 + (tx (5 * k + 2) - 48) = tx (5 * k + 2) - 48 by omega]
              exact go 2 (tx (5 * k + 2) - 48) _ _ rfl hf (fun g => by omega) (fun g => by omega) (fun _ => rfl) (fun g => by omega) (fun g => by omega) (fun _ => rfl)
            · rw [if_neg cf]
              try simp (disch := omega) only [↓m_1, n_0, n_1, n_2, n_3, n_4, n_5, n_6, n_7, n_8, n_9, n_10, n_16, n_20, n_24, n_31, n_32, n_48, n_52, n_57, n_59, n_60, n_64, n_100, n_1024, nI_add, pk_mul, pk_sub, leI_t, leI_f, ltI_t, ltI_f, eqI_t, eqI_f, geM_t, eqM_f, eqM_g, ltM_f, ltM_t, leM_f, inb_nI, ix_nI, chk_tt, bnd_ss, up_ne, up_self, up_oth, if_true, if_false, reduceCtorEq, Nat.succ_ne_zero]
              refine fail _ _ (fun _ hf => cf ?_)
              have := fit_2 (k := k) hf
              omega
          · have hx := a8 (by omega)
            subst hx
            have f2 := fit_2 (a6 (5 * k + 2) (by omega) (by omega))
            try simp (disch := omega) only [↓m_1, n_0, n_1, n_2, n_3, n_4, n_5, n_6, n_7, n_8, n_9, n_10, n_16, n_20, n_24, n_31, n_32, n_48, n_52, n_57, n_59, n_60, n_64, n_100, n_1024, nI_add, pk_mul, pk_sub, leI_t, leI_f, ltI_t, ltI_f, eqI_t, eqI_f, geM_t, eqM_f, eqM_g, ltM_f, ltM_t, leM_f, inb_nI, ix_nI, chk_tt, bnd_ss, up_ne, up_self, up_oth, if_true, if_false, reduceCtorEq, Nat.succ_ne_zero, a3]
            by_cases cf : 48 ≤ tx (5 * k + 3) ∧ tx (5 * k + 3) ≤ 48 + 9
            · rw [if_pos cf]
              by_cases cz : 10 * (tx (5 * k + 2) - 48) + (tx (5 * k + 3) - 48) = 0
              · try simp (disch := omega) only [↓m_1, n_0, n_1, n_2, n_3, n_4, n_5, n_6, n_7, n_8, n_9, n_10, n_16, n_20, n_24, n_31, n_32, n_48, n_52, n_57, n_59, n_60, n_64, n_100, n_1024, nI_add, pk_mul, pk_sub, leI_t, leI_f, ltI_t, ltI_f, eqI_t, eqI_f, geM_t, eqM_f, eqM_g, ltM_f, ltM_t, leM_f, inb_nI, ix_nI, chk_tt, bnd_ss, up_ne, up_self, up_oth, if_true, if_false, reduceCtorEq, Nat.succ_ne_zero, cz]
                refine fail _ _ (fun _ hf => ?_)
                have := fit_3 (k := k) hf
                omega
              · have hf : fit tx (5 * k + 3) = true := by
                  unfold fit
                  rw [if_neg (by omega), if_pos (by omega), decide_eq_true_eq]
                  refine ⟨by omega, by omega, ?_⟩
                  rw [show 5 * k + 3 - 1 = 5 * k + 2 by omega]
                  omega
                try simp (disch := omega) only [↓m_1, n_0, n_1, n_2, n_3, n_4, n_5, n_6, n_7, n_8, n_9, n_10, n_16, n_20, n_24, n_31, n_32, n_48, n_52, n_57, n_59, n_60, n_64, n_100, n_1024, nI_add, pk_mul, pk_sub, leI_t, leI_f, ltI_t, ltI_f, eqI_t, eqI_f, geM_t, eqM_f, eqM_g, ltM_f, ltM_t, leM_f, inb_nI, ix_nI, chk_tt, bnd_ss, up_ne, up_self, up_oth, if_true, if_false, reduceCtorEq, Nat.succ_ne_zero, a3]
                exact go 2 (amk tx k) _ _ (by unfold amk; rfl) hf (fun g => by omega) (fun g => by omega) (fun g => by omega) (fun _ => ⟨rfl, rfl⟩) (fun g => by omega) (fun g => by omega)
            · rw [if_neg cf]
              try simp (disch := omega) only [↓m_1, n_0, n_1, n_2, n_3, n_4, n_5, n_6, n_7, n_8, n_9, n_10, n_16, n_20, n_24, n_31, n_32, n_48, n_52, n_57, n_59, n_60, n_64, n_100, n_1024, nI_add, pk_mul, pk_sub, leI_t, leI_f, ltI_t, ltI_f, eqI_t, eqI_f, geM_t, eqM_f, eqM_g, ltM_f, ltM_t, leM_f, inb_nI, ix_nI, chk_tt, bnd_ss, up_ne, up_self, up_oth, if_true, if_false, reduceCtorEq, Nat.succ_ne_zero]
              refine fail _ _ (fun _ hf => cf ?_)
              have := fit_3 (k := k) hf
              omega) (q0 := (0, 0, S)) ⟨by omega, rfl, ⟨fun _ _ _ => rfl, fun _ _ _ => rfl⟩, h7, h8, by omega, fun p a b => by omega, fun _ => rfl, fun g => by omega, he, fun g => by omega, fun g => by omega, fun g => by omega⟩
    have hr' : lp (σ := Int32 × Int32 × St) (fun q => M_readsPart_L15 q.2.2 q.1 q.2.1) FZ (nI 0, nI 0, S) = some r := hr
    rw [hr', bnd_ss]
    obtain ⟨⟨x, y, T⟩, t⟩ := r
    obtain ⟨hF, hP⟩ := hP
    dsimp only at hF hP ⊢
    rcases hP with ⟨rfl, hP⟩ | ⟨rfl, p1, p2, p3, p4, p5⟩
    · rw [if_pos rfl]
      unfold M_readsPart_J76
      exact ⟨_, rfl, hF, Or.inl ⟨rfl, hP⟩⟩
    · rw [if_neg (by decide)]
      unfold M_readsPart_J126
      rw [p4]
      try simp (disch := omega) only [↓m_1, n_0, n_1, n_2, n_3, n_4, n_5, n_6, n_7, n_8, n_9, n_10, n_16, n_20, n_24, n_31, n_32, n_48, n_52, n_57, n_59, n_60, n_64, n_100, n_1024, nI_add, pk_mul, pk_sub, leI_t, leI_f, ltI_t, ltI_f, eqI_t, eqI_f, geM_t, eqM_f, eqM_g, ltM_f, ltM_t, leM_f, inb_nI, ix_nI, chk_tt, bnd_ss, up_ne, up_self, up_oth, if_true, if_false, reduceCtorEq, Nat.succ_ne_zero]
      refine ⟨_, rfl, FrR_8 hF, Or.inr ⟨rfl, by omega, ?_, p2, p3, ?_, ?_⟩⟩
      · dsimp only
        rw [up_oth (by decide)]; exact p1
      · dsimp only
        rw [up_self]
      · dsimp only
        rw [up_ne (by decide)]; exact p5
theorem none_t (T : St) : M_none T = some (up T 49 8 0 49 7, up T 49 8 0) := rfl
def RI (S : St) (tx : Nat → Nat) (n k : Nat) (q : Int32 × St) : Prop := FrR S q.2 ∧ k ≤ 20 ∧ (∀ p, p < 5 * k → p < n → fit tx p = true) ∧ q.2 49 8 = nI k ∧ ent tx (q.2 55) k ∧ ((q.1 = 1 ∧ 0 < n ∧ 5 * k ≤ n ∧ q.2 49 7 = nI (5 * k)) ∨ (q.1 = 0 ∧ (n = 0 ∧ k = 0 ∨ n + 1 = 5 * k)))
def RP (S : St) (tx : Nat → Nat) (n : Nat) (r : (Int32 × St) × Nat) : Prop := FrR S r.1.2 ∧ (((r.2 = 1 ∨ r.2 = 2) ∧ 0 < n ∧ ∃ p, r.1.2 49 7 = nI p ∧ p ≤ n ∧ (p < n ∨ p % 5 ≠ 4) ∧ (∀ q, q < p → fit tx q = true) ∧ (p < n → ¬ fit tx p = true)) ∨ (r.2 = 3 ∧ ∃ k, k ≤ 20 ∧ (n = 0 ∧ k = 0 ∨ n + 1 = 5 * k) ∧ (∀ p, p < n → fit tx p = true) ∧ r.1.2 49 8 = nI k ∧ ent tx (r.1.2 55) k))
theorem reads_step {S : St} {tx : Nat → Nat} {n : Nat} (hn : n ≤ 100) (ht : ∀ j, j < n → S 54 j = nI (tx j) ∧ tx j ≤ 255) (h6 : S 49 6 = nI n) (k : Nat) (q : Int32 × St) (h : RI S tx n k q) : ∃ r, M_reads_L23 q.2 q.1 = some r ∧ ((r.2 = 0 ∧ k < 21 ∧ RI S tx n (k + 1) r.1) ∨ (r.2 ≠ 0 ∧ RP S tx n r)) := by
  obtain ⟨x, T⟩ := q
  obtain ⟨hF, hk, hfit, h8, he, hq⟩ := h
  dsimp only at hF hfit h8 he hq
  show ∃ r, M_reads_L23 T x = some r ∧ _
  unfold M_reads_L23
  rcases hq with ⟨rfl, hn0, hkn, h7⟩ | ⟨rfl, hq⟩
  · have g6 : T 49 6 = nI n := by rw [hF.2 6 (by decide) (by decide), h6]
    have gt : ∀ j, j < n → T 54 j = nI (tx j) ∧ tx j ≤ 255 := by rw [hF.1 54 (by decide) (by decide)]; exact ht
    obtain ⟨z, hz, zF, hz2⟩ := part_t hn gt g6 h7 h8 hk hkn he
    have zF2 : FrR S z.2 := ⟨fun r a b => by rw [zF.1 r a b, hF.1 r a b], fun j a b => by rw [zF.2 j a b, hF.2 j a b]⟩
    have z6 : z.2 49 6 = nI n := by rw [zF.2 6 (by decide) (by decide), g6]
    have z54 : z.2 54 = T 54 := zF.1 54 (by decide) (by decide)
    rw [if_neg (by decide), hz, bnd_ss]
    rcases hz2 with ⟨e, p, p1, p2, p3, p4, p5, p6⟩ | ⟨e, p1, p2, p3, p4, p5, p6⟩
    · rw [if_pos e]
      refine ⟨_, rfl, Or.inr ⟨Nat.succ_ne_zero 0, zF2, Or.inl ⟨Or.inl rfl, hn0, p, p1, p4, by omega, ?_, p6⟩⟩⟩
      intro q hq
      by_cases c : q < 5 * k
      · exact hfit q c (by omega)
      · exact p5 q (by omega) hq
    · rw [if_neg (by rw [e]; decide), z6, p2]
      have hall : ∀ p, p < 5 * k + 4 → fit tx p = true := fun q hq => by
        by_cases c : q < 5 * k
        · exact hfit q c (by omega)
        · exact p4 q (by omega) hq
      unfold M_reads_J55 M_reads_J74
      by_cases hm : n ≤ 5 * k + 4
      · rw [if_pos ((nI_leI (by omega) (by omega)).mpr hm), if_pos rfl, if_pos rfl, p2]
        refine ⟨_, rfl, Or.inl ⟨rfl, by omega, FrR_7 zF2, by omega, fun p a b => hall p (by omega), ?_, ?_, Or.inr ⟨rfl, Or.inr (by omega)⟩⟩⟩
        · dsimp only
          rw [up_oth (by decide)]; exact p5
        · dsimp only
          rw [up_ne (by decide)]; exact p6
      · rw [if_neg (fun g => hm ((nI_leI (by omega) (by omega)).mp g)), if_neg (by decide), here_t hn z6 p2 (by omega), bnd_ss, if_neg hm, if_neg (show ¬ (1 : Int32) = 0 by decide), z54, p2]
        obtain ⟨e54, h255⟩ := gt (5 * k + 4) (by omega)
        rw [e54]
        by_cases c : tx (5 * k + 4) = 59
        · have hf : fit tx (5 * k + 4) = true := by
            unfold fit
            rw [if_neg (by omega), if_neg (by omega), if_pos (by omega), decide_eq_true_eq]
            exact c
          rw [if_pos (by rw [c]; rfl), nI_1]
          refine ⟨_, rfl, Or.inl ⟨rfl, by omega, FrR_7 zF2, by omega, fun p a b => ?_, ?_, ?_, Or.inl ⟨rfl, hn0, by omega, ?_⟩⟩⟩
          · by_cases c2 : p = 5 * k + 4
            · rw [c2]; exact hf
            · exact hall p (by omega)
          · dsimp only
            rw [up_oth (by decide)]; exact p5
          · dsimp only
            rw [up_ne (by decide)]; exact p6
          · dsimp only
            rw [up_self, show 5 * k + 4 + 1 = 5 * (k + 1) by omega]
        · rw [if_neg (by rw [n_59, nI_eq (by omega) (by omega)]; exact c)]
          refine ⟨_, rfl, Or.inr ⟨Nat.succ_ne_zero 1, zF2, Or.inl ⟨Or.inr rfl, hn0, 5 * k + 4, p2, by omega, by omega, hall, fun _ hf => c ?_⟩⟩⟩
          unfold fit at hf
          rw [if_neg (by omega), if_neg (by omega), if_pos (by omega), decide_eq_true_eq] at hf
          exact hf
  · rw [if_pos rfl]
    exact ⟨_, rfl, Or.inr ⟨Nat.succ_ne_zero 2, hF, Or.inr ⟨rfl, k, hk, hq, fun p hp => hfit p (by omega) hp, h8, he⟩⟩⟩
theorem reads_t {S : St} {tx : Nat → Nat} {n : Nat} (hn : n ≤ 100) (ht : ∀ j, j < n → S 54 j = nI (tx j) ∧ tx j ≤ 255) (h6 : S 49 6 = nI n) : ∃ z, M_reads S = some z ∧ z.1 = flt tx n ∧ FrR S z.2 ∧ z.2 49 8 = nI (nb tx n) ∧ ent tx (z.2 55) (nb tx n) := by
  have hF0 : FrR S (up (up S 49 7 0) 49 8 0) := FrR_8 (FrR_7 ⟨fun _ _ _ => rfl, fun _ _ _ => rfl⟩)
  have h60 : (up (up S 49 7 0) 49 8 0) 49 6 = nI n := by rw [up_oth (by decide), up_oth (by decide), h6]
  have main : ∀ x : Int32, RI S tx n 0 (x, up (up S 49 7 0) 49 8 0) → ∃ z, M_reads_J22 (up (up S 49 7 0) 49 8 0) x = some z ∧ z.1 = flt tx n ∧ FrR S z.2 ∧ z.2 49 8 = nI (nb tx n) ∧ ent tx (z.2 55) (nb tx n) := by
    intro x h0
    obtain ⟨r, hr, hP⟩ := lp_inv (st := fun q : Int32 × St => M_reads_L23 q.2 q.1) (RI S tx n) 21 (RP S tx n) (by omega) (reads_step hn ht h6) h0
    unfold M_reads_J22
    rw [hr, bnd_ss]
    obtain ⟨⟨y, T⟩, t⟩ := r
    obtain ⟨hF, hP⟩ := hP
    dsimp only at hF hP ⊢
    rcases hP with ⟨ht, hn0, p, p1, p2, p3, p4, p5⟩ | ⟨ht, k, k1, k2, k3, k4, k5⟩
    · have hff : ff tx n = p := ff_at p2 p4 p5
      have hv : nI p = flt tx n := by
        unfold flt
        rw [hff]
        by_cases c : p < n
        · rw [if_pos c]
        · rw [if_neg c, if_neg (by omega), show p = n by omega]
      have hb : nb tx n = 0 := by
        unfold nb
        rw [hff]
        by_cases c : p < n
        · rw [if_pos c]
        · rw [if_neg c, if_neg (by omega)]
      have fin : ∃ z, bnd (M_none T) (fun z3 => some (z3.1, z3.2)) = some z ∧ z.1 = flt tx n ∧ FrR S z.2 ∧ z.2 49 8 = nI (nb tx n) ∧ ent tx (z.2 55) (nb tx n) := by
        rw [none_t, bnd_ss]
        refine ⟨_, rfl, ?_, FrR_8 hF, ?_, ?_⟩
        · dsimp only
          rw [up_oth (by decide), p1, hv]
        · dsimp only
          rw [up_self, hb]; rfl
        · rw [hb]
          intro j hj; omega
      rcases ht with rfl | rfl
      · rw [if_pos rfl]; exact fin
      · rw [if_neg (by decide), if_pos rfl]; exact fin
    · subst ht
      rw [if_neg (by decide), if_neg (by decide)]
      have hff : ff tx n = n := ff_at (Nat.le_refl n) k3 (fun g => by omega)
      have hb : nb tx n = k := by
        unfold nb
        rw [hff, if_neg (by omega), if_pos (by omega)]
        omega
      refine ⟨_, rfl, ?_, hF, ?_, ?_⟩
      · unfold flt
        rw [hff, if_neg (by omega), if_pos (by omega)]; rfl
      · rw [hb]; exact k4
      · rw [hb]; exact k5
  have he0 : ent tx ((up (up S 49 7 0) 49 8 0) 55) 0 := fun j hj => by omega
  unfold M_reads
  rw [h60]
  by_cases c : n = 0
  · rw [if_pos (by rw [c]; decide)]
    exact main 0 ⟨hF0, by omega, fun p a b => by omega, (by dsimp only; rw [up_self]; rfl), he0, Or.inr ⟨rfl, Or.inl ⟨c, rfl⟩⟩⟩
  · rw [if_neg (by rw [n_0, nI_leI (by omega) (by omega)]; omega)]
    exact main 1 ⟨hF0, by omega, fun p a b => by omega, (by dsimp only; rw [up_self]; rfl), he0, Or.inl ⟨rfl, by omega, by omega, by dsimp only; rw [up_oth (by decide), up_self]; rfl⟩⟩
