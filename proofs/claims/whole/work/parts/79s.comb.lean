/-! ===== in how many ways: dealing one by one, or bidder by bidder ===== -/
theorem smE_s {f : Nat → Nat} {n : Nat} : smE f (n + 1) = smE f n + f n := rfl
theorem smE_add {f g : Nat → Nat} : ∀ n, smE (fun e => f e + g e) n = smE f n + smE g n := by
  intro n
  induction n with
  | zero => rfl
  | succ n ih =>
    rw [smE_s, smE_s, smE_s, ih]
    omega
theorem smE_mul {f : Nat → Nat} {c : Nat} : ∀ n, smE (fun e => c * f e) n = c * smE f n := by
  intro n
  induction n with
  | zero => rfl
  | succ n ih => rw [smE_s, smE_s, ih, Nat.mul_add]
theorem smE_zero {f : Nat → Nat} : ∀ n, (∀ e, e < n → f e = 0) → smE f n = 0 := by
  intro n
  induction n with
  | zero => intro _; rfl
  | succ n ih =>
    intro h
    rw [smE_s, ih (fun e he => h e (by omega)), h n (by omega)]
theorem smE_swap {F : Nat → Nat → Nat} {m : Nat} : ∀ n, smE (fun a => smE (fun b => F a b) m) n = smE (fun b => smE (fun a => F a b) n) m := by
  intro n
  induction n with
  | zero =>
    exact (smE_zero m (fun e _ => rfl)).symm
  | succ n ih =>
    rw [smE_s, ih, ← smE_add]
    exact smE_congr m (fun b _ => rfl)
theorem smE_shift {f : Nat → Nat} : ∀ n, smE f (n + 1) = f 0 + smE (fun u => f (u + 1)) n := by
  intro n
  induction n with
  | zero => show 0 + f 0 = f 0 + 0; omega
  | succ n ih =>
    rw [smE_s, ih, smE_s]
    omega
theorem smE_pos {f : Nat → Nat} : ∀ n, (smE f n ≠ 0 ↔ ∃ e, e < n ∧ f e ≠ 0) := by
  intro n
  induction n with
  | zero => exact ⟨fun h => absurd rfl h, fun ⟨e, he, _⟩ => absurd he (Nat.not_lt_zero e)⟩
  | succ n ih =>
    rw [smE_s]
    constructor
    · intro h
      by_cases c : f n = 0
      · obtain ⟨e, h1, h2⟩ := ih.mp (by omega)
        exact ⟨e, by omega, h2⟩
      · exact ⟨n, by omega, c⟩
    · rintro ⟨e, h1, h2⟩
      by_cases c : e = n
      · rw [c] at h2; omega
      · have := ih.mpr ⟨e, by omega, h2⟩
        omega
def bc : Nat → Nat → Nat
  | _, 0 => 1
  | 0, _ + 1 => 0
  | n + 1, k + 1 => bc n k + bc n (k + 1)
theorem bc_0 (n : Nat) : bc n 0 = 1 := by cases n <;> rfl
theorem bc_gt : ∀ n k, n < k → bc n k = 0 := by
  intro n
  induction n with
  | zero =>
    intro k hk
    cases k with
    | zero => omega
    | succ k => rfl
  | succ n ih =>
    intro k hk
    cases k with
    | zero => omega
    | succ k =>
      show bc n k + bc n (k + 1) = 0
      rw [ih k (by omega), ih (k + 1) (by omega)]
/-- n evenings go to the bidders below m with P, none with more than c says -/
def Dp (P : Nat → Bool) (c : Nat → Nat) : Nat → Nat → Nat
  | 0, n => if n = 0 then 1 else 0
  | m + 1, n => if P m = true then smE (fun t => if t ≤ c m then bc n t * Dp P c m (n - t) else 0) (n + 1) else Dp P c m n
theorem Dp_t {P : Nat → Bool} {c : Nat → Nat} {m n : Nat} (h : P m = true) : Dp P c (m + 1) n = smE (fun t => if t ≤ c m then bc n t * Dp P c m (n - t) else 0) (n + 1) := if_pos h
theorem Dp_f {P : Nat → Bool} {c : Nat → Nat} {m n : Nat} (h : ¬ P m = true) : Dp P c (m + 1) n = Dp P c m n := if_neg h
theorem Dp_congr {P : Nat → Bool} {c c' : Nat → Nat} : ∀ m n, (∀ b, b < m → P b = true → c b = c' b) → Dp P c m n = Dp P c' m n := by
  intro m
  induction m with
  | zero => intro n _; rfl
  | succ m ih =>
    intro n h
    by_cases hP : P m = true
    · rw [Dp_t hP, Dp_t hP]
      refine smE_congr _ (fun t _ => ?_)
      rw [h m (by omega) hP, ih (n - t) (fun b hb => h b (by omega))]
    · rw [Dp_f hP, Dp_f hP, ih n (fun b hb => h b (by omega))]
theorem Dp_0 {P : Nat → Bool} {c : Nat → Nat} : ∀ m, Dp P c m 0 = 1 := by
  intro m
  induction m with
  | zero => rfl
  | succ m ih =>
    by_cases hP : P m = true
    · rw [Dp_t hP]
      show 0 + (if 0 ≤ c m then bc 0 0 * Dp P c m (0 - 0) else 0) = 1
      rw [if_pos (Nat.zero_le _), bc_0, Nat.sub_self, ih]
    · rw [Dp_f hP, ih]
theorem Dp_step {P : Nat → Bool} : ∀ m (c : Nat → Nat) n, Dp P c m (n + 1) = smE (fun b => if P b = true ∧ 0 < c b then Dp P (updN c b (c b - 1)) m n else 0) m := by
  intro m
  induction m with
  | zero => intro c n; rfl
  | succ m ih =>
    intro c n
    rw [smE_s]
    by_cases hP : P m = true
    · rw [Dp_t hP]
      -- the last bidder takes the new evening, or not
      have e1 : smE (fun t => if t ≤ c m then bc (n + 1) t * Dp P c m (n + 1 - t) else 0) (n + 1 + 1) = smE (fun u => if u + 1 ≤ c m then bc n u * Dp P c m (n - u) else 0) (n + 1) + smE (fun t => if t ≤ c m then bc n t * Dp P c m (n - t + 1) else 0) (n + 1) := by
        have g1 : smE (fun t => if t ≤ c m then bc n t * Dp P c m (n - t + 1) else 0) (n + 1) = smE (fun t => if t ≤ c m then bc n t * Dp P c m (n + 1 - t) else 0) (n + 1 + 1) := by
          rw [smE_s (n := n + 1), bc_gt n (n + 1) (by omega), Nat.zero_mul]
          have : (if n + 1 ≤ c m then 0 else 0) = 0 := by split <;> rfl
          rw [this, Nat.add_zero]
          refine smE_congr _ (fun t ht => ?_)
          rw [show n - t + 1 = n + 1 - t by omega]
        rw [g1, smE_shift (n + 1), smE_shift (f := fun t => if t ≤ c m then bc n t * Dp P c m (n + 1 - t) else 0) (n + 1)]
        have g2 : smE (fun u => if u + 1 ≤ c m then bc (n + 1) (u + 1) * Dp P c m (n + 1 - (u + 1)) else 0) (n + 1) = smE (fun u => if u + 1 ≤ c m then bc n u * Dp P c m (n - u) else 0) (n + 1) + smE (fun u => if u + 1 ≤ c m then bc n (u + 1) * Dp P c m (n + 1 - (u + 1)) else 0) (n + 1) := by
          rw [← smE_add]
          refine smE_congr _ (fun u _ => ?_)
          by_cases g : u + 1 ≤ c m
          · rw [if_pos g, if_pos g, if_pos g, show n + 1 - (u + 1) = n - u by omega]
            show (bc n u + bc n (u + 1)) * _ = _
            rw [Nat.add_mul]
          · rw [if_neg g, if_neg g, if_neg g]
        rw [g2, bc_0, bc_0]
        omega
      rw [e1]
      have e2 : smE (fun u => if u + 1 ≤ c m then bc n u * Dp P c m (n - u) else 0) (n + 1) = (if P m = true ∧ 0 < c m then Dp P (updN c m (c m - 1)) (m + 1) n else 0) := by
        by_cases g : 0 < c m
        · rw [if_pos ⟨hP, g⟩, Dp_t hP]
          refine smE_congr _ (fun u _ => ?_)
          rw [updN_s, Dp_congr (c := updN c m (c m - 1)) (c' := c) m (n - u) (fun b hb _ => updN_n (by omega))]
          by_cases k : u + 1 ≤ c m
          · rw [if_pos k, if_pos (by omega)]
          · rw [if_neg k, if_neg (by omega)]
        · rw [if_neg (fun k => g k.2)]
          exact smE_zero _ (fun u _ => if_neg (by omega))
      have e3 : smE (fun t => if t ≤ c m then bc n t * Dp P c m (n - t + 1) else 0) (n + 1) = smE (fun b => if P b = true ∧ 0 < c b then Dp P (updN c b (c b - 1)) (m + 1) n else 0) m := by
        have g1 : smE (fun t => if t ≤ c m then bc n t * Dp P c m (n - t + 1) else 0) (n + 1) = smE (fun t => smE (fun b => if t ≤ c m then (if P b = true ∧ 0 < c b then bc n t * Dp P (updN c b (c b - 1)) m (n - t) else 0) else 0) m) (n + 1) := by
          refine smE_congr _ (fun t _ => ?_)
          by_cases k : t ≤ c m
          · rw [if_pos k, ih c (n - t), ← smE_mul]
            refine smE_congr _ (fun b _ => ?_)
            rw [if_pos k]
            by_cases l : P b = true ∧ 0 < c b
            · rw [if_pos l, if_pos l]
            · rw [if_neg l, if_neg l, Nat.mul_zero]
          · rw [if_neg k, smE_zero m (fun b _ => if_neg k)]
        rw [g1, smE_swap]
        refine smE_congr _ (fun b hb => ?_)
        by_cases l : P b = true ∧ 0 < c b
        · rw [if_pos l, Dp_t hP]
          refine smE_congr _ (fun t _ => ?_)
          rw [updN_n (show m ≠ b by omega), if_pos l]
        · rw [if_neg l]
          refine smE_zero _ (fun t _ => ?_)
          rw [if_neg l]
          split <;> rfl
      rw [e2, e3, Nat.add_comm]
    · rw [Dp_f hP, ih c n, if_neg (fun g => hP g.1), Nat.add_zero]
      refine smE_congr _ (fun b _ => ?_)
      rw [Dp_f hP]
/-- one by one -/
def cn (pr a : Nat → Nat) (c : Nat) : Nat → Nat → (Nat → Nat) → Nat
  | 0, _, _ => 1
  | d + 1, k, h => smE (fun b => if pr b = a k ∧ h b < c then cn pr a c d (k + 1) (updN h b (h b + 1)) else 0) 5
def prd (F : Nat → Nat) : Nat := F 0 * F 1 * F 2 * F 3 * F 4
theorem prd_at {F : Nat → Nat} {q : Nat} (hq : q < 5) : prd F = F q * prd (fun p => if p = q then 1 else F p) := by
  unfold prd
  match q, hq with
  | 0, _ =>
    show F 0 * F 1 * F 2 * F 3 * F 4 = F 0 * (1 * F 1 * F 2 * F 3 * F 4)
    rw [Nat.one_mul]; ac_rfl
  | 1, _ =>
    show F 0 * F 1 * F 2 * F 3 * F 4 = F 1 * (F 0 * 1 * F 2 * F 3 * F 4)
    rw [Nat.mul_one]; ac_rfl
  | 2, _ =>
    show F 0 * F 1 * F 2 * F 3 * F 4 = F 2 * (F 0 * F 1 * 1 * F 3 * F 4)
    rw [Nat.mul_one]; ac_rfl
  | 3, _ =>
    show F 0 * F 1 * F 2 * F 3 * F 4 = F 3 * (F 0 * F 1 * F 2 * 1 * F 4)
    rw [Nat.mul_one]; ac_rfl
  | 4, _ =>
    show F 0 * F 1 * F 2 * F 3 * F 4 = F 4 * (F 0 * F 1 * F 2 * F 3 * 1)
    rw [Nat.mul_one]; ac_rfl
  | q + 5, hq => exact absurd hq (by omega)
theorem prd_congr {F G : Nat → Nat} (h : ∀ p, p < 5 → F p = G p) : prd F = prd G := by
  unfold prd
  rw [h 0 (by omega), h 1 (by omega), h 2 (by omega), h 3 (by omega), h 4 (by omega)]
def rem (a : Nat → Nat) (p d k : Nat) : Nat := smE (fun j => if a (k + j) = p then 1 else 0) d
theorem rem_s {a : Nat → Nat} {p d k : Nat} : rem a p (d + 1) k = rem a p d (k + 1) + (if a k = p then 1 else 0) := by
  unfold rem
  rw [smE_shift, Nat.add_comm, Nat.add_zero]
  refine congrArg (fun z => z + _) (smE_congr d (fun j _ => ?_))
  rw [show k + (j + 1) = k + 1 + j by omega]
theorem cn_prd {pr a : Nat → Nat} {c : Nat} : ∀ d k h, (∀ j, k ≤ j → j < k + d → a j < 5) → cn pr a c d k h = prd (fun p => Dp (fun b => decide (pr b = p)) (fun b => c - h b) 5 (rem a p d k)) := by
  intro d
  induction d with
  | zero =>
    intro k h _
    have : ∀ p, Dp (fun b => decide (pr b = p)) (fun b => c - h b) 5 (rem a p 0 k) = 1 := fun p => Dp_0 5
    rw [prd_congr (G := fun _ => 1) (fun p _ => this p)]
    rfl
  | succ d ih =>
    intro k h ha
    have hq := ha k (Nat.le_refl _) (by omega)
    have e0 : cn pr a c (d + 1) k h = smE (fun b => if pr b = a k ∧ h b < c then cn pr a c d (k + 1) (updN h b (h b + 1)) else 0) 5 := rfl
    rw [e0, prd_at hq]
    have e1 : prd (fun p => if p = a k then 1 else Dp (fun b => decide (pr b = p)) (fun b => c - h b) 5 (rem a p (d + 1) k)) = prd (fun p => if p = a k then 1 else Dp (fun b => decide (pr b = p)) (fun b => c - h b) 5 (rem a p d (k + 1))) := by
      refine prd_congr (fun p _ => ?_)
      by_cases g : p = a k
      · rw [if_pos g, if_pos g]
      · rw [if_neg g, if_neg g, rem_s, if_neg (fun q => g q.symm), Nat.add_zero]
    rw [e1, rem_s, if_pos rfl, Dp_step, Nat.mul_comm, ← smE_mul]
    refine smE_congr 5 (fun b _ => ?_)
    by_cases g : pr b = a k ∧ h b < c
    · rw [if_pos g, if_pos ⟨decide_eq_true g.1, by omega⟩, ih (k + 1) _ (fun j h1 h2 => ha j (by omega) (by omega)), prd_at hq, Nat.mul_comm]
      have f1 : Dp (fun b => decide (pr b = a k)) (fun b_1 => c - updN h b (h b + 1) b_1) 5 (rem a (a k) d (k + 1)) = Dp (fun b => decide (pr b = a k)) (updN (fun b => c - h b) b (c - h b - 1)) 5 (rem a (a k) d (k + 1)) := by
        refine Dp_congr 5 _ (fun b' _ _ => ?_)
        by_cases e : b' = b
        · rw [e, updN_s, updN_s]; omega
        · rw [updN_n e, updN_n e]
      have f2 : prd (fun p => if p = a k then 1 else Dp (fun b => decide (pr b = p)) (fun b_1 => c - updN h b (h b + 1) b_1) 5 (rem a p d (k + 1))) = prd (fun p => if p = a k then 1 else Dp (fun b => decide (pr b = p)) (fun b => c - h b) 5 (rem a p d (k + 1))) := by
        refine prd_congr (fun p _ => ?_)
        by_cases e : p = a k
        · rw [if_pos e, if_pos e]
        · rw [if_neg e, if_neg e]
          refine Dp_congr 5 _ (fun b' _ hb' => ?_)
          have : pr b' = p := of_decide_eq_true hb'
          rw [updN_n (fun q => e (by rw [← this, q, g.1]))]
      rw [f1, f2]
    · rw [if_neg g, if_neg (fun q => g ⟨of_decide_eq_true q.1, by omega⟩), Nat.mul_zero]
theorem cn_le {pr a : Nat → Nat} {c : Nat} : ∀ d k h, cn pr a c d k h ≤ 5 ^ d := by
  intro d
  induction d with
  | zero => intro k h; exact Nat.le_refl 1
  | succ d ih =>
    intro k h
    have e0 : cn pr a c (d + 1) k h = smE (fun b => if pr b = a k ∧ h b < c then cn pr a c d (k + 1) (updN h b (h b + 1)) else 0) 5 := rfl
    rw [e0, Nat.pow_succ]
    refine smE_bd 5 (fun b _ => ?_)
    (try dsimp only)
    split
    · exact ih _ _
    · exact Nat.zero_le _
/-- how many of the first k are b -/
def hc (f : Nat → Nat) (k b : Nat) : Nat := smE (fun i => if f i = b then 1 else 0) k
def Vd (pr a : Nat → Nat) (c : Nat) (f : Nat → Nat) (k : Nat) : Prop := ∀ j, j < k → f j < 5 ∧ pr (f j) = a j ∧ hc f j (f j) < c
theorem hc_congr {f g : Nat → Nat} {k b : Nat} (h : ∀ i, i < k → f i = g i) : hc f k b = hc g k b := smE_congr k (fun i hi => by rw [h i hi])
theorem hc_le {pr a : Nat → Nat} {c : Nat} {f : Nat → Nat} {b : Nat} : ∀ k, Vd pr a c f k → hc f k b ≤ c := by
  intro k
  induction k with
  | zero => intro _; exact Nat.zero_le _
  | succ k ih =>
    intro h
    have h1 := ih (fun j hj => h j (by omega))
    have h2 := (h k (by omega)).2.2
    show hc f k b + (if f k = b then 1 else 0) ≤ c
    by_cases e : f k = b
    · rw [if_pos e]; rw [e] at h2; omega
    · rw [if_neg e]; omega
theorem hc_ext {f : Nat → Nat} {k q : Nat} : hc (updN f k q) (k + 1) = updN (hc f k) q (hc f k q + 1) := by
  funext b
  show hc (updN f k q) k b + (if updN f k q k = b then 1 else 0) = _
  rw [updN_s, hc_congr (f := updN f k q) (g := f) (fun i hi => updN_n (by omega))]
  by_cases e : q = b
  · subst e; rw [if_pos rfl, updN_s]
  · rw [if_neg e, updN_n (fun g => e g.symm), Nat.add_zero]
theorem Vd_ext {pr a : Nat → Nat} {c : Nat} {f : Nat → Nat} {k q : Nat} (h : Vd pr a c f k) (hq : q < 5) (h1 : pr q = a k) (h2 : hc f k q < c) : Vd pr a c (updN f k q) (k + 1) := by
  intro j hj
  by_cases e : j = k
  · subst e
    rw [updN_s, hc_congr (f := updN f j q) (g := f) (fun i hi => updN_n (by omega))]
    exact ⟨hq, h1, h2⟩
  · rw [updN_n e, hc_congr (f := updN f k q) (g := f) (fun i hi => updN_n (by omega))]
    exact h j (by omega)
theorem cn_pos {pr a : Nat → Nat} {c n : Nat} : ∀ d k f, k + d = n → Vd pr a c f k → (cn pr a c d k (hc f k) ≠ 0 ↔ ∃ g, (∀ i, i < k → g i = f i) ∧ Vd pr a c g n) := by
  intro d
  induction d with
  | zero =>
    intro k f hk hf
    have hk : k = n := by omega
    subst hk
    exact ⟨fun _ => ⟨f, fun _ _ => rfl, hf⟩, fun _ => Nat.one_ne_zero⟩
  | succ d ih =>
    intro k f hk hf
    have e0 : cn pr a c (d + 1) k (hc f k) = smE (fun b => if pr b = a k ∧ hc f k b < c then cn pr a c d (k + 1) (updN (hc f k) b (hc f k b + 1)) else 0) 5 := rfl
    rw [e0, smE_pos]
    constructor
    · rintro ⟨q, hq, h⟩
      by_cases g : pr q = a k ∧ hc f k q < c
      · rw [if_pos g, ← hc_ext] at h
        obtain ⟨x, h1, h2⟩ := (ih (k + 1) (updN f k q) (by omega) (Vd_ext hf hq g.1 g.2)).mp h
        exact ⟨x, fun i hi => by rw [h1 i (by omega), updN_n (by omega)], h2⟩
      · rw [if_neg g] at h; exact absurd rfl h
    · rintro ⟨x, h1, h2⟩
      obtain ⟨v1, v2, v3⟩ := h2 k (by omega)
      rw [hc_congr h1] at v3
      refine ⟨x k, v1, ?_⟩
      rw [if_pos ⟨v2, v3⟩, ← hc_ext]
      refine (ih (k + 1) (updN f k (x k)) (by omega) (Vd_ext hf v1 v2 v3)).mpr ⟨x, fun i hi => ?_, h2⟩
      by_cases e : i = k
      · rw [e, updN_s]
      · rw [updN_n e]; exact h1 i (by omega)
/-- two bidders with one programme change places -/
theorem Vd_swap {pr a : Nat → Nat} {c n : Nat} {f : Nat → Nat} (h : Vd pr a c f n) {j b : Nat} (hj : j < n) (hb : b < 5) (hp : pr b = a j) : ∃ g, Vd pr a c g n ∧ g j = b := by
  obtain ⟨σ, hσ⟩ : ∃ σ : Nat → Nat, σ = fun x => if x = b then f j else if x = f j then b else x := ⟨_, rfl⟩
  have hs : ∀ x y, (σ x = σ y ↔ x = y) := by
    intro x y
    rw [hσ]
    (try dsimp only)
    by_cases x1 : x = b
    · rw [if_pos x1]
      by_cases y1 : y = b
      · rw [if_pos y1]; exact ⟨fun _ => by omega, fun _ => rfl⟩
      · rw [if_neg y1]
        by_cases y2 : y = f j
        · rw [if_pos y2]; omega
        · rw [if_neg y2]; omega
    · rw [if_neg x1]
      by_cases x2 : x = f j
      · rw [if_pos x2]
        by_cases y1 : y = b
        · rw [if_pos y1]; omega
        · rw [if_neg y1]
          by_cases y2 : y = f j
          · rw [if_pos y2]; omega
          · rw [if_neg y2]; omega
      · rw [if_neg x2]
        by_cases y1 : y = b
        · rw [if_pos y1]; omega
        · rw [if_neg y1]
          by_cases y2 : y = f j
          · rw [if_pos y2]; omega
          · rw [if_neg y2]
  have hfj := h j hj
  have hpr : ∀ x, pr (σ x) = pr x := by
    intro x
    rw [hσ]
    (try dsimp only)
    by_cases x1 : x = b
    · rw [if_pos x1, x1, hp, hfj.2.1]
    · rw [if_neg x1]
      by_cases x2 : x = f j
      · rw [if_pos x2, x2, hp, hfj.2.1]
      · rw [if_neg x2]
  have h5 : ∀ x, x < 5 → σ x < 5 := by
    intro x hx
    rw [hσ]
    (try dsimp only)
    split
    · exact hfj.1
    · split
      · exact hb
      · exact hx
  refine ⟨fun i => σ (f i), fun i hi => ?_, ?_⟩
  · obtain ⟨v1, v2, v3⟩ := h i hi
    refine ⟨h5 _ v1, (hpr _).trans v2, ?_⟩
    have : hc (fun i => σ (f i)) i (σ (f i)) = hc f i (f i) := smE_congr i (fun i' _ => by
      by_cases e : f i' = f i
      · rw [if_pos e, if_pos ((hs _ _).mpr e)]
      · rw [if_neg e, if_neg (fun g => e ((hs _ _).mp g))])
    (try dsimp only)
    rw [this]
    exact v3
  · show σ (f j) = b
    rw [hσ]
    (try dsimp only)
    by_cases e : f j = b
    · rw [if_pos e]; exact e
    · rw [if_neg e, if_pos rfl]
/-- the same cap for all: by how many there are -/
def wd (c : Nat) : Nat → Nat → Nat
  | 0, n => if n = 0 then 1 else 0
  | i + 1, n => smE (fun t => if t ≤ c then bc n t * wd c i (n - t) else 0) (n + 1)
theorem Dp_wd {P : Nat → Bool} {c : Nat} : ∀ m n, Dp P (fun _ => c) m n = wd c (smE (fun b => if P b = true then 1 else 0) m) n := by
  intro m
  induction m with
  | zero => intro n; rfl
  | succ m ih =>
    intro n
    rw [smE_s]
    by_cases hP : P m = true
    · rw [Dp_t hP, if_pos hP]
      show _ = smE (fun t => if t ≤ c then bc n t * wd c (smE (fun b => if P b = true then 1 else 0) m) (n - t) else 0) (n + 1)
      refine smE_congr _ (fun t _ => ?_)
      rw [ih]
    · rw [Dp_f hP, if_neg hP, Nat.add_zero, ih]
theorem wd_0 {c : Nat} : ∀ i, wd c i 0 = 1 := by
  intro i
  induction i with
  | zero => rfl
  | succ i ih =>
    show 0 + (if 0 ≤ c then bc 0 0 * wd c i (0 - 0) else 0) = 1
    rw [if_pos (Nat.zero_le _), bc_0, Nat.sub_self, ih]
