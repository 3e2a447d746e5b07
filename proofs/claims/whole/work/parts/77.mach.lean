/-! ===== machinery of the pure part: small numbers, loops with a running value ===== -/
theorem n_0 : (0 : Int32) = nI 0 := rfl
theorem n_1 : (1 : Int32) = nI 1 := rfl
theorem n_2 : (2 : Int32) = nI 2 := rfl
theorem n_3 : (3 : Int32) = nI 3 := rfl
theorem n_4 : (4 : Int32) = nI 4 := rfl
theorem n_5 : (5 : Int32) = nI 5 := rfl
theorem n_6 : (6 : Int32) = nI 6 := rfl
theorem n_7 : (7 : Int32) = nI 7 := rfl
theorem n_8 : (8 : Int32) = nI 8 := rfl
theorem n_9 : (9 : Int32) = nI 9 := rfl
theorem n_10 : (10 : Int32) = nI 10 := rfl
theorem n_16 : (16 : Int32) = nI 16 := rfl
theorem n_20 : (20 : Int32) = nI 20 := rfl
theorem n_24 : (24 : Int32) = nI 24 := rfl
theorem n_31 : (31 : Int32) = nI 31 := rfl
theorem n_32 : (32 : Int32) = nI 32 := rfl
theorem n_48 : (48 : Int32) = nI 48 := rfl
theorem n_52 : (52 : Int32) = nI 52 := rfl
theorem n_57 : (57 : Int32) = nI 57 := rfl
theorem n_59 : (59 : Int32) = nI 59 := rfl
theorem n_60 : (60 : Int32) = nI 60 := rfl
theorem n_64 : (64 : Int32) = nI 64 := rfl
theorem n_100 : (100 : Int32) = nI 100 := rfl
theorem n_1024 : (1024 : Int32) = nI 1024 := rfl
theorem leI_t {a b : Nat} (h : a ≤ b) (hb : b < 2147483648) : (nI a ≤ nI b) = True := eq_true ((nI_leI (by omega) (by omega)).mpr h)
theorem leI_f {a b : Nat} (h : b < a) (ha : a < 2147483648) : (nI a ≤ nI b) = False := eq_false (fun g => by rw [nI_leI (by omega) (by omega)] at g; omega)
theorem ltI_t {a b : Nat} (h : a < b) (hb : b < 2147483648) : (nI a < nI b) = True := eq_true ((nI_ltI (by omega) (by omega)).mpr h)
theorem ltI_f {a b : Nat} (h : b ≤ a) (ha : a < 2147483648) : (nI a < nI b) = False := eq_false (fun g => by rw [nI_ltI (by omega) (by omega)] at g; omega)
theorem eqI_t {a b : Nat} (h : a = b) : (nI a = nI b) = True := eq_true (by rw [h])
theorem eqI_f {a b : Nat} (h : a ≠ b) (ha : a < 2147483648) (hb : b < 2147483648) : (nI a = nI b) = False := eq_false (fun g => by rw [nI_eq (by omega) (by omega)] at g; exact h g)
theorem m1_toInt : mI.toInt = -1 := by decide
theorem geM_t {a : Nat} (ha : a < 2147483648) : (nI a ≤ mI) = False := eq_false (fun g => by
  rw [Int32.le_iff_toInt_le, nI_toInt (by omega), m1_toInt] at g; omega)
theorem eqM_f {a : Nat} (ha : a < 2147483648) : (nI a = mI) = False := eq_false (fun g => by
  have := congrArg Int32.toInt g
  rw [nI_toInt (by omega), m1_toInt] at this; omega)
theorem eqM_g {a : Nat} (ha : a < 2147483648) : (mI = nI a) = False := eq_false (fun g => by
  have := congrArg Int32.toInt g
  rw [nI_toInt (by omega), m1_toInt] at this; omega)
theorem ltM_f {a : Nat} (ha : a < 2147483648) : (nI a < mI) = False := eq_false (fun g => by
  rw [Int32.lt_iff_toInt_lt, nI_toInt (by omega), m1_toInt] at g; omega)
theorem ltM_t {a : Nat} (ha : a < 2147483648) : (mI < nI a) = True := eq_true (by
  rw [Int32.lt_iff_toInt_lt, nI_toInt (by omega), m1_toInt]; omega)
theorem leM_f {a : Nat} (ha : a < 2147483648) : (mI ≤ nI a) = True := eq_true (by
  rw [Int32.le_iff_toInt_le, nI_toInt (by omega), m1_toInt]; omega)
theorem chk_tt {α : Type} {o : Option α} : chk true o = o := rfl
theorem bnd_ss {α β : Type} {f : α → Option β} {a : α} : bnd (some a) f = f a := rfl
/-- a running value over the numbers below n -/
def itr {α : Type} (g : Nat → α → α) : Nat → α → α
  | 0, a => a
  | n + 1, a => g n (itr g n a)
theorem itr_congr {α : Type} {g g' : Nat → α → α} {a : α} : ∀ (n : Nat), (∀ j, j < n → ∀ a, g j a = g' j a) → itr g n a = itr g' n a := by
  intro n
  induction n with
  | zero => intro _; rfl
  | succ n ih =>
    intro h
    show g n (itr g n a) = g' n (itr g' n a)
    rw [ih (fun j hj => h j (by omega)), h n (by omega)]
theorem lp_itr {α : Type} {st : α × Int32 → Option ((α × Int32) × Nat)} (g : Nat → α → α) (n : Nat) {a0 : α} (hn : n < 10000000) (hs : ∀ j a, j < n → st (a, nI j) = some ((g j a, nI (j + 1)), 0)) (hx : ∀ a, st (a, nI n) = some ((a, nI n), 1)) : lp st FZ (a0, 0) = some ((itr g n a0, nI n), 1) :=
  lp_1 (fun j => (itr g j a0, nI j)) n rfl (fun j hj => hs j _ hj) (hx _) hn
/-- a loop by what holds ahead of each pass -/
theorem lp_inv {σ : Type} {st : σ → Option (σ × Nat)} (I : Nat → σ → Prop) (n : Nat) (P : σ × Nat → Prop) (hn : n < 10000000) (hs : ∀ j q, I j q → ∃ r, st q = some r ∧ ((r.2 = 0 ∧ j < n ∧ I (j + 1) r.1) ∨ (r.2 ≠ 0 ∧ P r))) {q0 : σ} (h0 : I 0 q0) : ∃ r, lp st FZ q0 = some r ∧ P r := by
  have key : ∀ (d j : Nat) (q : σ) (N : Nat), I j q → n - j ≤ d → j ≤ n → d < N → ∃ r, lp st N q = some r ∧ P r := by
    intro d
    induction d with
    | zero =>
      intro j q N hI hd hj hN
      obtain ⟨r, h1, h2⟩ := hs j q hI
      rcases h2 with ⟨-, h2, -⟩ | ⟨h2, h3⟩
      · omega
      · obtain ⟨N, rfl⟩ : ∃ M, N = M + 1 := ⟨N - 1, by omega⟩
        obtain ⟨a, t⟩ := r
        cases t with
        | zero => exact absurd rfl h2
        | succ t =>
          refine ⟨(a, t + 1), ?_, h3⟩
          unfold lp
          rw [h1]
    | succ d ih =>
      intro j q N hI hd hj hN
      obtain ⟨r, h1, h2⟩ := hs j q hI
      obtain ⟨N, rfl⟩ : ∃ M, N = M + 1 := ⟨N - 1, by omega⟩
      obtain ⟨a, t⟩ := r
      rcases h2 with ⟨h2, h4, h3⟩ | ⟨h2, h3⟩
      · have h2 : t = 0 := h2
        subst h2
        obtain ⟨r, g1, g2⟩ := ih (j + 1) a N h3 (by omega) (by omega) (by omega)
        refine ⟨r, ?_, g2⟩
        unfold lp
        rw [h1]
        exact g1
      · cases t with
        | zero => exact absurd rfl h2
        | succ t =>
          refine ⟨(a, t + 1), ?_, h3⟩
          unfold lp
          rw [h1]
  exact key n 0 q0 FZ h0 (by omega) (by omega) (by rw [FZ_eq]; omega)
/-- a loop that counts: I holds ahead of pass j, and after the last -/
theorem lp_cnt {σ : Type} {st : σ → Option (σ × Nat)} (I : Nat → σ → Prop) (n : Nat) (hn : n < 10000000) {q0 : σ} (h0 : I 0 q0) (hs : ∀ j q, j < n → I j q → ∃ r, st q = some (r, 0) ∧ I (j + 1) r) (hx : ∀ q, I n q → st q = some (q, 1)) : ∃ q, lp st FZ q0 = some (q, 1) ∧ I n q := by
  obtain ⟨r, h1, h2, h3⟩ := lp_inv (fun j q => j ≤ n ∧ I j q) n (fun r => r.2 = 1 ∧ I n r.1) hn (fun j q h => by
    obtain ⟨hj, hI⟩ := h
    by_cases hjn : j < n
    · obtain ⟨r, g1, g2⟩ := hs j q hjn hI
      exact ⟨(r, 0), g1, Or.inl ⟨rfl, hjn, by omega, g2⟩⟩
    · have : j = n := by omega
      subst this
      exact ⟨(q, 1), hx q hI, Or.inr ⟨Nat.succ_ne_zero 0, rfl, hI⟩⟩) ⟨Nat.zero_le n, h0⟩
  obtain ⟨q, t⟩ := r
  have h2 : t = 1 := h2
  subst h2
  exact ⟨q, h1, h3⟩
