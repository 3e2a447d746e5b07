/-! ===== each with one evening at most: sets of bidders against bidders one by one ===== -/
theorem mxE_s {f : Nat → Nat} {a s z : Nat} : ∀ n, (mxE f n a + s ≤ z ↔ a + s ≤ z ∧ ∀ j, j < n → f j + s ≤ z) := by
  intro n
  induction n with
  | zero => exact ⟨fun h => ⟨h, fun j hj => absurd hj (Nat.not_lt_zero j)⟩, fun h => h.1⟩
  | succ n ih =>
    have e : mxE f (n + 1) a = max (mxE f n a) (f n) := rfl
    constructor
    · intro h
      have h1 := ih.mp (by omega)
      refine ⟨h1.1, fun j hj => ?_⟩
      by_cases c : j = n
      · subst c; omega
      · exact h1.2 j (by omega)
    · rintro ⟨h1, h2⟩
      have h3 := ih.mpr ⟨h1, fun j hj => h2 j (by omega)⟩
      have h4 := h2 n (by omega)
      omega
theorem mxE_at {f : Nat → Nat} {a : Nat} : ∀ n, mxE f n a = a ∨ ∃ j, j < n ∧ mxE f n a = f j := by
  intro n
  induction n with
  | zero => exact Or.inl rfl
  | succ n ih =>
    have e : mxE f (n + 1) a = max (mxE f n a) (f n) := rfl
    by_cases c : mxE f n a ≤ f n
    · exact Or.inr ⟨n, by omega, by omega⟩
    · rcases ih with h | ⟨j, hj, h⟩
      · exact Or.inl (by omega)
      · exact Or.inr ⟨j, by omega, by omega⟩
theorem mxE_z {f : Nat → Nat} {a : Nat} : ∀ n, (∀ j, j < n → f j = 0) → mxE f n a = a := by
  intro n
  induction n with
  | zero => intro _; rfl
  | succ n ih =>
    intro h
    have e : mxE f (n + 1) a = max (mxE f n a) (f n) := rfl
    have h1 := ih (fun j hj => h j (by omega))
    have h2 := h n (by omega)
    omega
/-- the most of a set of bidders (bidder b is bit 4 - b), of evenings below e that are not in t -/
def Fm (va : Nat → Nat → Nat) (t : Nat) : Nat → Nat → Nat
  | 0, _ => 0
  | e + 1, x => if t.testBit e = true then Fm va t e x else mxE (fun b => if x.testBit (4 - b) = true then Fm va t e (x - 2 ^ (4 - b)) + va b e else 0) 5 (Fm va t e x)
theorem Fm_t {va : Nat → Nat → Nat} {t e x : Nat} (h : t.testBit e = true) : Fm va t (e + 1) x = Fm va t e x := if_pos h
theorem Fm_f {va : Nat → Nat → Nat} {t e x : Nat} (h : ¬ t.testBit e = true) : Fm va t (e + 1) x = mxE (fun b => if x.testBit (4 - b) = true then Fm va t e (x - 2 ^ (4 - b)) + va b e else 0) 5 (Fm va t e x) := if_neg h
theorem Fm_s {va : Nat → Nat → Nat} {t e x s z : Nat} (h : ¬ t.testBit e = true) : Fm va t (e + 1) x + s ≤ z ↔ Fm va t e x + s ≤ z ∧ ∀ b, b < 5 → x.testBit (4 - b) = true → Fm va t e (x - 2 ^ (4 - b)) + va b e + s ≤ z := by
  rw [Fm_f h, mxE_s]
  constructor
  · rintro ⟨h1, h2⟩
    refine ⟨h1, fun b hb hx => ?_⟩
    have := h2 b hb
    rw [if_pos hx] at this
    exact this
  · rintro ⟨h1, h2⟩
    refine ⟨h1, fun b hb => ?_⟩
    by_cases hx : x.testBit (4 - b) = true
    · rw [if_pos hx]; exact h2 b hb hx
    · rw [if_neg hx]; omega
theorem Fm_bits {va : Nat → Nat → Nat} : ∀ e t u x, (∀ q, q < e → t.testBit q = u.testBit q) → Fm va t e x = Fm va u e x := by
  intro e
  induction e with
  | zero => intro t u x _; rfl
  | succ e ih =>
    intro t u x h
    have h1 : ∀ y, Fm va t e y = Fm va u e y := fun y => ih t u y (fun q hq => h q (by omega))
    unfold Fm
    rw [h e (by omega), h1 x]
    have h2 : (fun b => if x.testBit (4 - b) = true then Fm va t e (x - 2 ^ (4 - b)) + va b e else 0) = (fun b => if x.testBit (4 - b) = true then Fm va u e (x - 2 ^ (4 - b)) + va b e else 0) := by
      funext b
      rw [h1]
    rw [h2]
theorem bt_dec : ∀ (x : Fin 32) (k j : Fin 5), x.val.testBit k.val = true → (x.val - 2 ^ k.val) < 32 ∧ 2 ^ k.val ≤ x.val ∧ ((x.val - 2 ^ k.val).testBit j.val = true ↔ x.val.testBit j.val = true ∧ j.val ≠ k.val) := by decide +kernel
theorem bt {x k j : Nat} (hx : x < 32) (hk : k < 5) (hj : j < 5) (h : x.testBit k = true) : (x - 2 ^ k) < 32 ∧ 2 ^ k ≤ x ∧ ((x - 2 ^ k).testBit j = true ↔ x.testBit j = true ∧ j ≠ k) := bt_dec ⟨x, hx⟩ ⟨k, hk⟩ ⟨j, hj⟩ h
theorem Fm_b {va : Nat → Nat → Nat} {b0 : Nat} (hb0 : b0 < 5) : ∀ e t x s z, x < 32 → x.testBit (4 - b0) = true → (Fm va t e x + s ≤ z ↔ (Fm va t e (x - 2 ^ (4 - b0)) + s ≤ z ∧ ∀ q, q < e → ¬ t.testBit q = true → va b0 q + Fm va (t ||| 2 ^ q) e (x - 2 ^ (4 - b0)) + s ≤ z)) := by
  intro e
  induction e with
  | zero => intro t x s z _ _; exact ⟨fun h => ⟨h, fun q hq => absurd hq (Nat.not_lt_zero q)⟩, fun h => h.1⟩
  | succ e ih =>
    intro t x s z hx hbx
    have hy := (bt hx (show 4 - b0 < 5 by omega) (show 4 - b0 < 5 by omega) hbx).1
    by_cases te : t.testBit e = true
    · rw [Fm_t te, Fm_t te, ih t x s z hx hbx]
      refine and_congr Iff.rfl ⟨fun h q hq hn => ?_, fun h q hq hn => ?_⟩
      · have hqe : q ≠ e := fun g => hn (g ▸ te)
        rw [Fm_t (by rw [Nat.testBit_or, te]; rfl)]
        exact h q (by omega) hn
      · have := h q (by omega) hn
        rw [Fm_t (by rw [Nat.testBit_or, te]; rfl)] at this
        exact this
    · have hor : ∀ q, q < e → ¬ (t ||| 2 ^ q).testBit e = true := fun q hq g => by
        rcases or_bit.mp g with g | g
        · exact te g
        · omega
      have hoe : ∀ y, Fm va (t ||| 2 ^ e) (e + 1) y = Fm va t e y := fun y => by
        rw [Fm_t (or_bit.mpr (Or.inr rfl))]
        refine Fm_bits e _ _ y (fun q hq => ?_)
        rw [Nat.testBit_or, Nat.testBit_two_pow_of_ne (by omega), Bool.or_false]
      have hcomm : ∀ b, x - 2 ^ (4 - b) - 2 ^ (4 - b0) = x - 2 ^ (4 - b0) - 2 ^ (4 - b) := fun b => Nat.sub_right_comm _ _ _
      constructor
      · intro h
        obtain ⟨h1, h2⟩ := (Fm_s te).mp h
        obtain ⟨i1, i2⟩ := (ih t x s z hx hbx).mp h1
        have hsub : ∀ b, b < 5 → (x - 2 ^ (4 - b0)).testBit (4 - b) = true → Fm va t e (x - 2 ^ (4 - b0) - 2 ^ (4 - b)) + va b e + s ≤ z ∧ ∀ q, q < e → ¬ t.testBit q = true → va b0 q + Fm va (t ||| 2 ^ q) e (x - 2 ^ (4 - b0) - 2 ^ (4 - b)) + va b e + s ≤ z := by
          intro b hb hyb
          obtain ⟨g1, g2⟩ := (bt hx (show 4 - b0 < 5 by omega) (show 4 - b < 5 by omega) hbx).2.2.mp hyb
          obtain ⟨k1, k2, k3⟩ := bt hx (show 4 - b < 5 by omega) (show 4 - b0 < 5 by omega) g1
          have := (ih t (x - 2 ^ (4 - b)) (va b e + s) z k1 (k3.mpr ⟨hbx, fun g => g2 g.symm⟩)).mp (by have := h2 b hb g1; omega)
          rw [hcomm b] at this
          exact ⟨by have := this.1; omega, fun q hq hn => by have := this.2 q hq hn; omega⟩
        refine ⟨(Fm_s te).mpr ⟨i1, fun b hb hyb => (hsub b hb hyb).1⟩, fun q hq hn => ?_⟩
        by_cases hqe : q = e
        · subst hqe
          rw [hoe]
          have := h2 b0 hb0 hbx
          omega
        · have := (Fm_s (va := va) (x := x - 2 ^ (4 - b0)) (s := va b0 q + s) (z := z) (hor q (by omega))).mpr ⟨by have := i2 q (by omega) hn; omega, fun b hb hyb => by have := (hsub b hb hyb).2 q (by omega) hn; omega⟩
          omega
      · rintro ⟨h1, h2⟩
        obtain ⟨a1, a2⟩ := (Fm_s te).mp h1
        have hq : ∀ q, q < e → ¬ t.testBit q = true → va b0 q + Fm va (t ||| 2 ^ q) e (x - 2 ^ (4 - b0)) + s ≤ z ∧ ∀ b, b < 5 → (x - 2 ^ (4 - b0)).testBit (4 - b) = true → va b0 q + Fm va (t ||| 2 ^ q) e (x - 2 ^ (4 - b0) - 2 ^ (4 - b)) + va b e + s ≤ z := by
          intro q hq hn
          obtain ⟨c1, c2⟩ := (Fm_s (va := va) (x := x - 2 ^ (4 - b0)) (s := va b0 q + s) (z := z) (hor q hq)).mp (by have := h2 q (by omega) hn; omega)
          exact ⟨by omega, fun b hb hyb => by have := c2 b hb hyb; omega⟩
        refine (Fm_s te).mpr ⟨(ih t x s z hx hbx).mpr ⟨a1, fun q hq' hn => (hq q hq' hn).1⟩, fun b hb hxb => ?_⟩
        by_cases hbb : b = b0
        · subst hbb
          have := h2 e (by omega) te
          rw [hoe] at this
          omega
        · have hyb : (x - 2 ^ (4 - b0)).testBit (4 - b) = true := (bt hx (show 4 - b0 < 5 by omega) (show 4 - b < 5 by omega) hbx).2.2.mpr ⟨hxb, by omega⟩
          obtain ⟨k1, k2, k3⟩ := bt hx (show 4 - b < 5 by omega) (show 4 - b0 < 5 by omega) hxb
          have := (ih t (x - 2 ^ (4 - b)) (va b e + s) z k1 (k3.mpr ⟨hbx, by omega⟩)).mpr ⟨by rw [hcomm b]; have := a2 b hb hyb; omega, fun q hq' hn => by rw [hcomm b]; have := (hq q hq' hn).2 b hb hyb; omega⟩
          omega
theorem Fm_0 {va : Nat → Nat → Nat} {t : Nat} : ∀ e, Fm va t e 0 = 0 := by
  intro e
  induction e with
  | zero => rfl
  | succ e ih =>
    by_cases te : t.testBit e = true
    · rw [Fm_t te, ih]
    · rw [Fm_f te, ih]
      refine mxE_z 5 (fun j _ => ?_)
      rw [if_neg (by rw [Nat.zero_testBit]; decide)]
theorem Fm_le {va : Nat → Nat → Nat} {t : Nat} (h : ∀ b e, b < 5 → e < 10 → va b e ≤ 99) : ∀ e x, e ≤ 10 → Fm va t e x ≤ 99 * e := by
  intro e
  induction e with
  | zero => intro x _; exact Nat.le_refl 0
  | succ e ih =>
    intro x he
    by_cases te : t.testBit e = true
    · rw [Fm_t te]
      have := ih x (by omega)
      omega
    · have := (Fm_s (va := va) (x := x) (s := 0) (z := 99 * (e + 1)) te).mpr ⟨by have := ih x (by omega); omega, fun b hb _ => by
        have h1 := ih (x - 2 ^ (4 - b)) (by omega)
        have h2 := h b e hb (by omega)
        omega⟩
      omega
def mkx (d ex : Nat) : Nat := 2 ^ d - 1 - (if ex < 5 ∧ 4 - ex < d then 2 ^ (4 - ex) else 0)
theorem mk_dec : ∀ (d : Fin 5) (ex : Fin 6), (4 - d.val = ex.val → mkx (d.val + 1) ex.val = mkx d.val ex.val) ∧ (4 - d.val ≠ ex.val → mkx (d.val + 1) ex.val < 32 ∧ (mkx (d.val + 1) ex.val).testBit d.val = true ∧ mkx (d.val + 1) ex.val - 2 ^ d.val = mkx d.val ex.val) := by decide +kernel
theorem mo_s {va : Nat → Nat → Nat} {ex d t : Nat} : mo va ex (d + 1) t = if 4 - d = ex then mo va ex d t else mxE (fun e => if t.testBit e = true then 0 else va (4 - d) e + mo va ex d (t ||| 2 ^ e)) 10 (mo va ex d t) := rfl
theorem mo_Fm {va : Nat → Nat → Nat} {ex : Nat} (hex : ex < 6) : ∀ d t, d ≤ 5 → mo va ex d t = Fm va t 10 (mkx d ex) := by
  intro d
  induction d with
  | zero =>
    intro t _
    have : mkx 0 ex = 0 := by unfold mkx; omega
    rw [this, Fm_0]
    rfl
  | succ d ih =>
    intro t hd
    obtain ⟨m1, m2⟩ := mk_dec ⟨d, by omega⟩ ⟨ex, hex⟩
    have m1 : 4 - d = ex → mkx (d + 1) ex = mkx d ex := m1
    have m2 : 4 - d ≠ ex → mkx (d + 1) ex < 32 ∧ (mkx (d + 1) ex).testBit d = true ∧ mkx (d + 1) ex - 2 ^ d = mkx d ex := m2
    rw [mo_s]
    by_cases c : 4 - d = ex
    · rw [if_pos c, m1 c, ih t (by omega)]
    · rw [if_neg c]
      obtain ⟨n1, n2, n3⟩ := m2 c
      have e4 : 4 - (4 - d) = d := by omega
      have key : ∀ z, mxE (fun e => if t.testBit e = true then 0 else va (4 - d) e + mo va ex d (t ||| 2 ^ e)) 10 (mo va ex d t) ≤ z ↔ Fm va t 10 (mkx (d + 1) ex) ≤ z := by
        intro z
        have f1 := mxE_s (f := fun e => if t.testBit e = true then 0 else va (4 - d) e + mo va ex d (t ||| 2 ^ e)) (a := mo va ex d t) (s := 0) (z := z) 10
        have f2 := Fm_b (va := va) (b0 := 4 - d) (by omega) 10 t (mkx (d + 1) ex) 0 z n1 (by rw [e4]; exact n2)
        rw [e4, n3] at f2
        rw [Nat.add_zero] at f1 f2
        rw [f1, f2, ih t (by omega)]
        refine and_congr Iff.rfl ⟨fun h q hq hn => ?_, fun h q hq => ?_⟩
        · have := h q hq
          rw [if_neg hn, ih _ (by omega)] at this
          exact this
        · by_cases hn : t.testBit q = true
          · rw [if_pos hn]; omega
          · rw [if_neg hn, ih _ (by omega)]
            exact h q hq hn
      exact Nat.le_antisymm ((key _).mpr (Nat.le_refl _)) ((key _).mp (Nat.le_refl _))
theorem mk5 : ∀ d : Fin 6, mkx d.val 5 = 2 ^ d.val - 1 := by decide +kernel
theorem mk5b : ∀ b : Fin 5, mkx 5 b.val = 31 - 2 ^ (4 - b.val) ∧ 31 - 2 ^ (4 - b.val) < 32 ∧ ((32 - 1 : Int32) - ((1 : Int32) <<< ((4 - nI b.val) &&& 31))) = nI (31 - 2 ^ (4 - b.val)) := by decide +kernel
theorem mo5 {va : Nat → Nat → Nat} {d t : Nat} (hd : d ≤ 5) : Fm va t 10 (2 ^ d - 1) = mo va 5 d t := by
  rw [mo_Fm (by omega) d t hd, mk5 ⟨d, by omega⟩]
theorem mo_le {va : Nat → Nat → Nat} {ex d t : Nat} (hex : ex < 6) (hd : d ≤ 5) (h : ∀ b e, b < 5 → e < 10 → va b e ≤ 99) : mo va ex d t ≤ 990 := by
  rw [mo_Fm hex d t hd]
  exact Fm_le h 10 _ (Nat.le_refl _)
/-! the class's table of sets -/
theorem oe_dec : ∀ (x : Fin 32) (b : Fin 5), ((1 : Int32) <<< ((4 - nI b.val) &&& 31)) = nI (2 ^ (4 - b.val)) ∧ ((nI x.val &&& nI (2 ^ (4 - b.val))) = 0 ↔ ¬ x.val.testBit (4 - b.val) = true) ∧ (x.val.testBit (4 - b.val) = true → nI x.val - nI (2 ^ (4 - b.val)) = nI (x.val - 2 ^ (4 - b.val)) ∧ 2 ^ (4 - b.val) ≤ x.val ∧ 1 ≤ 2 ^ (4 - b.val)) := by decide +kernel
theorem oe_all : ∀ f : Fin 6, ((1 : Int32) <<< ((5 - nI f.val) &&& 31)) - 1 = nI (2 ^ (5 - f.val) - 1) ∧ 2 ^ (5 - f.val) - 1 < 32 ∧ 1 ≤ 2 ^ (5 - f.val) := by decide +kernel
theorem oeIn_t {T : St} {va : Nat → Nat → Nat} {t e f x : Nat} {x3 x4 x6 : Int32} (hV : VX T va) (hf : f ≤ 5) (he : e < 10) (hx : x < 2 ^ (5 - f)) (h32 : x < 32) (hT : ∀ y, y ≤ x → T 40 y = nI (Fm va t e y)) : ∃ U, lp (σ := Int32 × St) (fun q => OE_mostFrom_L76 q.2 (nI f) x3 x4 (nI e) x6 (nI x) q.1) FZ (nI f, T) = some ((nI 5, U), 1) ∧ (∀ r, r ≠ 40 → U r = T r) ∧ (∀ y, y ≠ x → U 40 y = T 40 y) ∧ U 40 x = nI (mxE (fun b => if x.testBit (4 - b) = true then Fm va t e (x - 2 ^ (4 - b)) + va b e else 0) 5 (Fm va t e x)) := by
  have hva : ∀ b e, b < 5 → e < 10 → va b e ≤ 99 := fun b e hb he => (hV b e hb he).2
  obtain ⟨q, hq, h1, h2, h3, h4⟩ := lp_cnt (st := fun q : Int32 × St => OE_mostFrom_L76 q.2 (nI f) x3 x4 (nI e) x6 (nI x) q.1) (fun j q => q.1 = nI (f + j) ∧ (∀ r, r ≠ 40 → q.2 r = T r) ∧ (∀ y, y ≠ x → q.2 40 y = T 40 y) ∧ q.2 40 x = nI (mxE (fun b => if x.testBit (4 - b) = true then Fm va t e (x - 2 ^ (4 - b)) + va b e else 0) (f + j) (Fm va t e x))) (5 - f) (by omega) (q0 := (nI f, T)) ⟨rfl, fun _ _ => rfl, fun _ _ => rfl, by
      show T 40 x = _
      rw [hT x (Nat.le_refl _), mxE_z (f + 0) (fun b hb => ?_)]
      rw [if_neg]
      rw [Nat.testBit_lt_two_pow (Nat.lt_of_lt_of_le hx (Nat.pow_le_pow_right (by omega) (by omega)))]
      decide⟩ (fun j q hj h => by
    obtain ⟨a, V⟩ := q
    obtain ⟨h1, h2, h3, h4⟩ := h
    have h1 : a = nI (f + j) := h1
    subst h1
    have h2 : ∀ r, r ≠ 40 → V r = T r := h2
    have h3 : ∀ y, y ≠ x → V 40 y = T 40 y := h3
    obtain ⟨b, hb⟩ : ∃ b, b = f + j := ⟨_, rfl⟩
    have h4 : V 40 x = nI (mxE (fun b => if x.testBit (4 - b) = true then Fm va t e (x - 2 ^ (4 - b)) + va b e else 0) (f + j) (Fm va t e x)) := h4
    rw [← Nat.add_assoc, ← hb]
    rw [← hb] at h4
    have hb5 : b < 5 := by omega
    obtain ⟨d1, d2, d3⟩ := oe_dec ⟨x, h32⟩ ⟨b, hb5⟩
    have d1 : ((1 : Int32) <<< ((4 - nI b) &&& 31)) = nI (2 ^ (4 - b)) := d1
    have d2 : (nI x &&& nI (2 ^ (4 - b))) = 0 ↔ ¬ x.testBit (4 - b) = true := d2
    have d3 : x.testBit (4 - b) = true → nI x - nI (2 ^ (4 - b)) = nI (x - 2 ^ (4 - b)) ∧ 2 ^ (4 - b) ≤ x ∧ 1 ≤ 2 ^ (4 - b) := d3
    have hM : mxE (fun b => if x.testBit (4 - b) = true then Fm va t e (x - 2 ^ (4 - b)) + va b e else 0) b (Fm va t e x) ≤ 2000 := by
      refine mxE_le (by have := Fm_le (t := t) hva e x (by omega); omega) b (fun c hc => ?_)
      try dsimp only
      split
      · have g1 := Fm_le (t := t) hva e (x - 2 ^ (4 - c)) (by omega)
        have g2 := hva c e (by omega) he
        omega
      · omega
    have hms : mxE (fun b => if x.testBit (4 - b) = true then Fm va t e (x - 2 ^ (4 - b)) + va b e else 0) (b + 1) (Fm va t e x) = max (mxE (fun b => if x.testBit (4 - b) = true then Fm va t e (x - 2 ^ (4 - b)) + va b e else 0) b (Fm va t e x)) (if x.testBit (4 - b) = true then Fm va t e (x - 2 ^ (4 - b)) + va b e else 0) := rfl
    rw [hms]
    generalize mxE (fun b => if x.testBit (4 - b) = true then Fm va t e (x - 2 ^ (4 - b)) + va b e else 0) b (Fm va t e x) = M at hM h4 ⊢
    try dsimp only
    unfold OE_mostFrom_L76
    rw [if_neg (by rw [n_5]; try simp (disch := omega) only [↓m_1, n_0, n_1, n_2, n_3, n_4, n_5, n_6, n_7, n_8, n_9, n_10, n_16, n_20, n_24, n_31, n_32, n_48, n_52, n_57, n_59, n_60, n_64, n_100, n_1024, nI_add, pk_mul, pk_sub, leI_t, leI_f, ltI_t, ltI_f, eqI_t, eqI_f, geM_t, eqM_f, eqM_g, ltM_f, ltM_t, leM_f, inb_nI, ix_nI, chk_tt, bnd_ss, up_ne, up_self, up_oth, if_true, if_false, reduceCtorEq, Nat.succ_ne_zero]; exact fun g => g), d1]
    by_cases c : x.testBit (4 - b) = true
    · obtain ⟨c1, c2, c3⟩ := d3 c
      have hF := Fm_le (t := t) hva e (x - 2 ^ (4 - b)) (by omega)
      obtain ⟨v1, v2⟩ := hV b e hb5 he
      have e40 : V 40 (x - 2 ^ (4 - b)) = nI (Fm va t e (x - 2 ^ (4 - b))) := by rw [h3 _ (by omega), hT _ (by omega)]
      have ev : V (5 + b) e = nI (va b e) := by rw [h2 _ (by omega), v1]
      rw [if_neg (fun g => (d2.mp g) c), c1, chk_t (inb_nI (show x - 2 ^ (4 - b) < 32 by omega) (by decide)), chk_t (inb_nI hb5 (by decide)), chk_t (inb_nI he (by decide)), chk_t (inb_nI h32 (by decide)), ix_nI (by omega), ix_nI (by omega), ix_nI (by omega), ix_nI (by omega), e40, ev, nI_add, h4, nI_1, if_pos c]
      have fin : ∀ k, ∃ r, some ((nI (b + 1), up V 40 x (nI k)), 0) = some (r, 0) ∧ r.1 = nI (b + 1) ∧ (∀ r', r' ≠ 40 → r.2 r' = T r') ∧ (∀ y, y ≠ x → r.2 40 y = T 40 y) ∧ r.2 40 x = nI k := fun k =>
        ⟨_, rfl, rfl, fun r hr => by
          show up V 40 x (nI k) r = T r
          rw [up_ne hr, h2 r hr], fun y hy => by
          show up V 40 x (nI k) 40 y = T 40 y
          rw [up_oth hy, h3 y hy], by
          show up V 40 x (nI k) 40 x = nI k
          exact up_self⟩
      by_cases d : Fm va t e (x - 2 ^ (4 - b)) + va b e ≤ M
      · rw [if_pos ((nI_leI (by omega) (by omega)).mpr d), chk_t (inb_nI h32 (by decide)), chk_t (inb_nI h32 (by decide)), Nat.max_eq_left d]
        exact fin M
      · rw [if_neg (fun g => d ((nI_leI (by omega) (by omega)).mp g)), chk_t (inb_nI h32 (by decide)), Nat.max_eq_right (by omega)]
        exact fin _
    · rw [if_pos (d2.mpr c), nI_1, if_neg c, Nat.max_eq_left (Nat.zero_le _)]
      exact ⟨_, rfl, rfl, h2, h3, h4⟩) (fun q h => by
    obtain ⟨a, V⟩ := q
    obtain ⟨h1, -⟩ := h
    have h1 : a = nI (f + (5 - f)) := h1
    rw [show f + (5 - f) = 5 by omega] at h1
    subst h1
    try dsimp only
    unfold OE_mostFrom_L76
    rw [if_pos (by decide)])
  obtain ⟨a, U⟩ := q
  have e5 : f + (5 - f) = 5 := by omega
  have h1 : a = nI (f + (5 - f)) := h1
  rw [e5] at h1 h4
  subst h1
  exact ⟨U, hq, h2, h3, h4⟩
/-- one evening for all sets -/
theorem oeMid_t {T : St} {va : Nat → Nat → Nat} {t e f A : Nat} {x3 : Int32} (hV : VX T va) (hf : f ≤ 5) (he : e < 10) (hA : A + 1 = 2 ^ (5 - f)) (h32 : A < 32) (te : ¬ t.testBit e = true) (hT : ∀ y, y ≤ A → T 40 y = nI (Fm va t e y)) : ∃ U a, lp (σ := Int32 × St) (fun q => OE_mostFrom_L63 q.2 (nI f) x3 (nI A) (nI e) 1 q.1) FZ (nI A, T) = some ((a, U), 1) ∧ (∀ r, r ≠ 40 → U r = T r) ∧ ∀ y, y ≤ A → U 40 y = nI (Fm va t (e + 1) y) := by
  obtain ⟨q, hq, h1, h2, h3⟩ := lp_cnt (st := fun q : Int32 × St => OE_mostFrom_L63 q.2 (nI f) x3 (nI A) (nI e) 1 q.1) (fun j q => q.1 = nI (A - j) ∧ (∀ r, r ≠ 40 → q.2 r = T r) ∧ ∀ y, y ≤ A → q.2 40 y = nI (if A - j < y then Fm va t (e + 1) y else Fm va t e y)) A (by omega) (q0 := (nI A, T)) ⟨rfl, fun _ _ => rfl, fun y hy => by rw [if_neg (by omega)]; exact hT y hy⟩ (fun j q hj h => by
    obtain ⟨a, V⟩ := q
    obtain ⟨h1, h2, h3⟩ := h
    have h1 : a = nI (A - j) := h1
    subst h1
    have h2 : ∀ r, r ≠ 40 → V r = T r := h2
    have h3 : ∀ y, y ≤ A → V 40 y = nI (if A - j < y then Fm va t (e + 1) y else Fm va t e y) := h3
    obtain ⟨k, hk⟩ : ∃ k, A - j = k + 1 := ⟨A - j - 1, by omega⟩
    rw [hk] at h3 ⊢
    try dsimp only
    unfold OE_mostFrom_L63
    rw [if_neg n10, if_neg (nI_nle (by omega) (by omega))]
    obtain ⟨U, hU, u1, u2, u3⟩ := oeIn_t (T := V) (va := va) (t := t) (e := e) (f := f) (x := k + 1) (x3 := x3) (x4 := nI A) (x6 := 1) (fun b e hb he => by rw [h2 (5 + b) (by omega)]; exact hV b e hb he) hf he (by omega) (by omega) (fun y hy => by rw [h3 y (by omega), if_neg (by omega)])
    rw [hU, bnd_ss]
    try dsimp only
    unfold OE_mostFrom_J158
    rw [pk_m1]
    refine ⟨_, rfl, by rw [show A - (j + 1) = k by omega], fun r hr => by show U r = T r; rw [u1 r hr, h2 r hr], fun y hy => ?_⟩
    show U 40 y = _
    by_cases c : y = k + 1
    · subst c
      rw [u3, if_pos (by omega), Fm_f te]
    · rw [u2 y c, h3 y hy]
      by_cases d : k + 1 < y
      · rw [if_pos d, if_pos (by omega)]
      · rw [if_neg d, if_neg (by omega)]) (fun q h => by
    obtain ⟨a, V⟩ := q
    obtain ⟨h1, -⟩ := h
    have h1 : a = nI (A - A) := h1
    rw [Nat.sub_self] at h1
    subst h1
    try dsimp only
    unfold OE_mostFrom_L63
    rw [if_neg n10, if_pos (by decide)])
  obtain ⟨a, U⟩ := q
  refine ⟨U, a, hq, h2, fun y hy => ?_⟩
  have := h3 y hy
  have this : U 40 y = nI (if A - A < y then Fm va t (e + 1) y else Fm va t e y) := this
  rw [this]
  by_cases c : y = 0
  · subst c
    rw [if_neg (by omega), Fm_0, Fm_0]
  · rw [if_pos (by omega)]
theorem mostFrom_t {S : St} {va : Nat → Nat → Nat} {f t : Nat} (hV : VX S va) (hf : f ≤ 5) (ht : t < 1024) : ∃ T, OE_mostFrom S (nI f) (nI t) = some (nI (mo va 5 (5 - f) t), T) ∧ (∀ r, r ≠ 40 → T r = S r) ∧ ∀ x, x < 2 ^ (5 - f) → T 40 x = nI (Fm va t 10 x) := by
  obtain ⟨A, hA, hA1, hA32⟩ : ∃ A, A + 1 = 2 ^ (5 - f) ∧ ((1 : Int32) <<< ((5 - nI f) &&& 31)) - 1 = nI A ∧ A < 32 := by
    obtain ⟨g1, g2, g3⟩ := oe_all ⟨f, by omega⟩
    have g1 : ((1 : Int32) <<< ((5 - nI f) &&& 31)) - 1 = nI (2 ^ (5 - f) - 1) := g1
    have g2 : 2 ^ (5 - f) - 1 < 32 := g2
    have g3 : 1 ≤ 2 ^ (5 - f) := g3
    exact ⟨2 ^ (5 - f) - 1, by omega, g1, g2⟩
  unfold OE_mostFrom
  rw [hA1]
  obtain ⟨q, hq, h1, h2, h3⟩ := lp_cnt (st := fun q : Int32 × St => OE_mostFrom_L12 q.2 (nI f) (nI t) (nI A) q.1) (fun j q => q.1 = nI j ∧ (∀ r, r ≠ 40 → q.2 r = S r) ∧ ∀ y, y < j → q.2 40 y = nI 0) (A + 1) (by omega) (q0 := (0, S)) ⟨rfl, fun _ _ => rfl, fun y hy => absurd hy (Nat.not_lt_zero y)⟩ (fun j q hj h => by
    obtain ⟨a, V⟩ := q
    obtain ⟨h1, h2, h3⟩ := h
    have h1 : a = nI j := h1
    subst h1
    try dsimp only
    unfold OE_mostFrom_L12
    rw [if_neg (nI_nlt (by omega) (by omega)), chk_t (inb_nI (show j < 32 by omega) (by decide)), ix_nI (by omega), nI_1]
    refine ⟨_, rfl, rfl, fun r hr => ?_, fun y hy => ?_⟩
    · show up V 40 j 0 r = S r
      rw [up_ne hr]; exact h2 r hr
    · show up V 40 j 0 40 y = nI 0
      by_cases c : y = j
      · rw [c, up_self]; rfl
      · rw [up_oth c]; exact h3 y (by omega)) (fun q h => by
    obtain ⟨a, V⟩ := q
    obtain ⟨h1, -⟩ := h
    have h1 : a = nI (A + 1) := h1
    subst h1
    try dsimp only
    unfold OE_mostFrom_L12
    rw [if_pos (nI_lt (by omega) (by omega))])
  rw [hq, bnd_ss]
  obtain ⟨a, T1⟩ := q
  have h2 : ∀ r, r ≠ 40 → T1 r = S r := h2
  have h3 : ∀ y, y < A + 1 → T1 40 y = nI 0 := h3
  try dsimp only
  unfold OE_mostFrom_J33
  obtain ⟨q, hq, k1, k2, k3⟩ := lp_cnt (st := fun q : Int32 × St => OE_mostFrom_L36 q.2 (nI f) (nI t) (nI A) q.1) (fun j q => q.1 = nI j ∧ (∀ r, r ≠ 40 → q.2 r = S r) ∧ ∀ y, y ≤ A → q.2 40 y = nI (Fm va t j y)) 10 (by decide) (q0 := (0, T1)) ⟨rfl, h2, fun y hy => h3 y (by omega)⟩ (fun j q hj h => by
    obtain ⟨a, V⟩ := q
    obtain ⟨h1, h2, h3⟩ := h
    have h1 : a = nI j := h1
    subst h1
    have h2 : ∀ r, r ≠ 40 → V r = S r := h2
    have h3 : ∀ y, y ≤ A → V 40 y = nI (Fm va t j y) := h3
    try dsimp only
    unfold OE_mostFrom_L36 OE_mostFrom_J57 OE_mostFrom_J164
    rw [if_neg (by rw [n_10]; try simp (disch := omega) only [↓m_1, n_0, n_1, n_2, n_3, n_4, n_5, n_6, n_7, n_8, n_9, n_10, n_16, n_20, n_24, n_31, n_32, n_48, n_52, n_57, n_59, n_60, n_64, n_100, n_1024, nI_add, pk_mul, pk_sub, leI_t, leI_f, ltI_t, ltI_f, eqI_t, eqI_f, geM_t, eqM_f, eqM_g, ltM_f, ltM_t, leM_f, inb_nI, ix_nI, chk_tt, bnd_ss, up_ne, up_self, up_oth, if_true, if_false, reduceCtorEq, Nat.succ_ne_zero]; exact fun g => g), shr_t (by omega) (by omega), nI_1]
    by_cases te : t.testBit j = true
    · rw [if_pos te, if_neg (show ¬ nI 1 = 0 by decide)]
      have hl : lp (σ := Int32 × St) (fun q => OE_mostFrom_L63 q.2 (nI f) (nI t) (nI A) (nI j) 0 q.1) FZ (nI A, V) = some ((nI A, V), 1) := by
        refine lp_1 (fun _ => (nI A, V)) 0 rfl (fun i hi => absurd hi (Nat.not_lt_zero i)) ?_ (by decide)
        try dsimp only
        unfold OE_mostFrom_L63
        rw [if_pos rfl]
      rw [hl, bnd_ss]
      exact ⟨_, rfl, rfl, h2, fun y hy => by
        show V 40 y = _
        rw [Fm_t te]
        exact h3 y hy⟩
    · rw [if_neg te, if_pos (show nI 0 = 0 from rfl)]
      obtain ⟨U, a, hU, u1, u2⟩ := oeMid_t (T := V) (va := va) (t := t) (e := j) (f := f) (A := A) (x3 := nI t) (fun b e hb he => by rw [h2 (5 + b) (by omega)]; exact hV b e hb he) hf hj hA hA32 te h3
      rw [hU, bnd_ss]
      exact ⟨_, rfl, rfl, fun r hr => by show U r = S r; rw [u1 r hr, h2 r hr], u2⟩) (fun q h => by
    obtain ⟨a, V⟩ := q
    obtain ⟨h1, -⟩ := h
    have h1 : a = nI 10 := h1
    subst h1
    try dsimp only
    unfold OE_mostFrom_L36
    rw [if_pos (by decide)])
  rw [hq, bnd_ss]
  obtain ⟨a, T⟩ := q
  have k3 : ∀ y, y ≤ A → T 40 y = nI (Fm va t 10 y) := k3
  try dsimp only
  unfold OE_mostFrom_J170
  rw [chk_t (inb_nI hA32 (by decide)), ix_nI (by omega), k3 A (Nat.le_refl _)]
  refine ⟨T, ?_, k2, fun x hx => k3 x (by omega)⟩
  rw [← mo5 (by omega), ← hA, Nat.add_sub_cancel]
