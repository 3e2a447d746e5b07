/-! ===== numbers and loops of the pure part ===== -/
theorem lp_run {σ : Type} {st : σ → Option (σ × Nat)} (f : Nat → σ) (n : Nat) {g : σ × Nat} (hs : ∀ i, i < n → st (f i) = some (f (i + 1), 0)) (hx : st (f n) = some g) (hg : g.2 ≠ 0) : ∀ (k N : Nat), k ≤ n → n - k < N → lp st N (f k) = some g := by
  intro k N
  induction N generalizing k with
  | zero => intro _ h; omega
  | succ N ih =>
    intro hk hN
    by_cases h : k = n
    · subst h
      obtain ⟨q, t⟩ := g
      cases t with
      | zero => exact absurd rfl hg
      | succ t =>
        unfold lp
        rw [hx]
    · unfold lp
      rw [hs k (by omega)]
      exact ih (k + 1) (by omega) (by omega)
/-- a loop whose passes are known: f i is the state ahead of pass i -/
theorem lp_go {σ : Type} {st : σ → Option (σ × Nat)} (f : Nat → σ) (n : Nat) {g : σ × Nat} {q0 : σ} (h0 : q0 = f 0) (hs : ∀ i, i < n → st (f i) = some (f (i + 1), 0)) (hx : st (f n) = some g) (hg : g.2 ≠ 0) (hn : n < 10000000) : lp st FZ q0 = some g := by
  rw [h0]
  exact lp_run f n hs hx hg 0 FZ (Nat.zero_le _) (by rw [FZ_eq]; omega)
theorem lp_1 {σ : Type} {st : σ → Option (σ × Nat)} (f : Nat → σ) (n : Nat) {q q0 : σ} (h0 : q0 = f 0) (hs : ∀ i, i < n → st (f i) = some (f (i + 1), 0)) (hx : st (f n) = some (q, 1)) (hn : n < 10000000) : lp st FZ q0 = some (q, 1) := lp_go f n h0 hs hx (Nat.succ_ne_zero 0) hn
theorem chk_t {α : Type} {b : Bool} {o : Option α} (h : b = true) : chk b o = o := by rw [h]; rfl
theorem bnd_t {α β : Type} {o : Option α} {f : α → Option β} {a : α} (h : o = some a) : bnd o f = f a := by rw [h]; rfl
theorem inb_nI {j n : Nat} (h : j < n) (hn : n < 2 ^ 31) : inb (nI j) n = true := by
  unfold inb
  rw [decide_eq_true_eq]
  exact vp_in_nI h hn
theorem ix_nI {n : Nat} (h : n < 2 ^ 31) : ix (nI n) = n := nI_clamp h
theorem lt_lit (n : Nat) : (OfNat.ofNat n : Int32) = nI n := rfl
theorem isz_0 : isz 0 = true := rfl
theorem isz_1 : isz 1 = true := rfl
/-- a small number, or not -/
def sm (x : Int32) (hi : Nat) : Prop := ∃ v, v ≤ hi ∧ x = nI v
theorem sm_or (x : Int32) (hi : Nat) : sm x hi ∨ ¬ sm x hi := Classical.em _
theorem sm_iff {x : Int32} {hi : Nat} (h : hi < 2 ^ 31) : sm x hi ↔ 0 ≤ x.toInt ∧ x.toInt ≤ hi := by
  constructor
  · rintro ⟨v, hv, rfl⟩
    rw [nI_toInt (by omega)]
    omega
  · rintro ⟨h1, h2⟩
    have h0 : ¬ x < 0 := fun g => by
      rw [Int32.lt_iff_toInt_lt] at g
      have e : (0 : Int32).toInt = 0 := rfl
      omega
    obtain ⟨j, hj, rfl⟩ := nI_of h0
    rw [nI_toInt hj] at h2
    exact ⟨j, by omega, rfl⟩
theorem xw_t {x : Int32} {hi : Nat} (h : sm x hi) (hh : hi < 2 ^ 31) : X_within x 0 (nI hi) = 1 := by
  rw [sm_iff hh] at h
  unfold X_within
  rw [if_neg, if_neg]
  · rw [Int32.lt_iff_toInt_lt, nI_toInt hh]; omega
  · rw [Int32.lt_iff_toInt_lt]
    have e : (0 : Int32).toInt = 0 := rfl
    omega
theorem xw_f {x : Int32} {hi : Nat} (h : ¬ sm x hi) (hh : hi < 2 ^ 31) : X_within x 0 (nI hi) = 0 := by
  rw [sm_iff hh] at h
  unfold X_within
  by_cases h1 : x < 0
  · rw [if_pos h1]
  · rw [if_neg h1, if_pos]
    rw [Int32.lt_iff_toInt_lt, nI_toInt hh]
    rw [Int32.lt_iff_toInt_lt] at h1
    have e : (0 : Int32).toInt = 0 := rfl
    omega
theorem lgc_lt (x y : Int64) : lg_cmp x y < 0 ↔ x < y := by
  unfold lg_cmp
  by_cases h1 : x > y
  · rw [if_pos h1]
    rw [gt_iff_lt, Int64.lt_iff_toInt_lt] at h1
    constructor
    · intro h; exact absurd h (by decide)
    · intro h; rw [Int64.lt_iff_toInt_lt] at h; omega
  · rw [if_neg h1]
    by_cases h2 : x = y
    · rw [if_pos h2, h2]
      constructor
      · intro h; exact absurd h (by decide)
      · intro h; rw [Int64.lt_iff_toInt_lt] at h; omega
    · rw [if_neg h2]
      constructor
      · intro _
        rw [gt_iff_lt, Int64.lt_iff_toInt_lt] at h1
        have h3 : x.toInt ≠ y.toInt := fun g => h2 (Int64.toInt_inj.mp g)
        rw [Int64.lt_iff_toInt_lt]; omega
      · intro _; decide
theorem lgc_gt (x y : Int64) : 0 < lg_cmp x y ↔ y < x := by
  unfold lg_cmp
  by_cases h1 : x > y
  · rw [if_pos h1]
    exact ⟨fun _ => h1, fun _ => by decide⟩
  · rw [if_neg h1]
    by_cases h2 : x = y
    · rw [if_pos h2]
      exact ⟨fun h => absurd h (by decide), fun h => absurd h h1⟩
    · rw [if_neg h2]
      exact ⟨fun h => absurd h (by decide), fun h => absurd h h1⟩
theorem wide_toInt (x : Int32) : x.toInt64.toInt = x.toInt := by
  rw [Int32.toInt_toInt64]
theorem mi_iff (x lo hi : Int64) : M_in x lo hi = if lo ≤ x ∧ x ≤ hi then 1 else 0 := by
  unfold M_in
  by_cases h1 : lg_cmp x lo < 0
  · rw [if_pos h1]
    rw [lgc_lt, Int64.lt_iff_toInt_lt] at h1
    rw [if_neg]
    rintro ⟨h2, -⟩
    rw [Int64.le_iff_toInt_le] at h2
    omega
  · rw [if_neg h1]
    rw [lgc_lt, Int64.lt_iff_toInt_lt] at h1
    by_cases h2 : 0 < lg_cmp x hi
    · rw [if_pos h2]
      rw [lgc_gt, Int64.lt_iff_toInt_lt] at h2
      rw [if_neg]
      rintro ⟨-, h3⟩
      rw [Int64.le_iff_toInt_le] at h3
      omega
    · rw [if_neg h2]
      rw [lgc_gt, Int64.lt_iff_toInt_lt] at h2
      rw [if_pos]
      rw [Int64.le_iff_toInt_le, Int64.le_iff_toInt_le]
      omega
theorem mi_t {x : Int32} {hi : Nat} (h : sm x hi) (hh : hi < 2 ^ 31) : M_in x.toInt64 0 (lN hi) = 1 := by
  rw [sm_iff hh] at h
  rw [mi_iff, if_pos]
  rw [Int64.le_iff_toInt_le, Int64.le_iff_toInt_le, wide_toInt, lN_toInt hh]
  exact h
theorem mi_f {x : Int32} {hi : Nat} (h : ¬ sm x hi) (hh : hi < 2 ^ 31) : M_in x.toInt64 0 (lN hi) = 0 := by
  rw [sm_iff hh] at h
  rw [mi_iff, if_neg]
  rw [Int64.le_iff_toInt_le, Int64.le_iff_toInt_le, wide_toInt, lN_toInt hh]
  exact h
/-- what is no part of what the two objects hold: the places that a call works on -/
def scr (k : Nat) : Bool := [33, 34, 35, 36, 37, 38, 40, 47, 53, 55, 64, 65, 66, 68, 69, 70, 71, 72].contains k
def msk (S : St) : St := fun k => cond (scr k) (fun _ => 0) (cond (Nat.beq k 49) (fun j => cond (Nat.beq j 7 || Nat.beq j 8 || Nat.beq j 20) 0 (S 49 j)) (S k))
theorem msk_up {S : St} {k i : Nat} {v : Int32} (h : scr k = true) : msk (up S k i v) = msk S := by
  funext j
  unfold msk
  by_cases hj : j = k
  · subst hj
    rw [h]
    rfl
  · rw [up_ne hj]
    by_cases h49 : k = 49
    · subst h49
      exact absurd h (by decide)
    · rw [up_ne (Ne.symm h49)]
theorem msk_up49 {S : St} {i : Nat} {v : Int32} (h : i = 7 ∨ i = 8 ∨ i = 20) : msk (up S 49 i v) = msk S := by
  funext j
  unfold msk
  by_cases hj : j = 49
  · subst hj
    rw [up_eq]
    have e : (fun j => cond (Nat.beq j 7 || Nat.beq j 8 || Nat.beq j 20) 0 (upd (S 49) i v j)) = (fun j => cond (Nat.beq j 7 || Nat.beq j 8 || Nat.beq j 20) 0 (S 49 j)) := by
      funext q
      by_cases hq : q = i
      · subst hq
        rcases h with rfl | rfl | rfl <;> rfl
      · rw [pk_un hq]
    rw [e]
    rfl
  · have e : up S 49 i v j = S j := up_ne hj
    rw [e]
    have h2 : Nat.beq j 49 = false := by
      cases hb : Nat.beq j 49 with
      | false => rfl
      | true => exact absurd (Nat.eq_of_beq_eq_true hb) hj
    rw [h2]
    rfl
theorem msk_at {S : St} {k : Nat} (h : scr k = false) (h49 : k ≠ 49) : msk S k = S k := by
  unfold msk
  have h2 : Nat.beq k 49 = false := by
    cases hb : Nat.beq k 49 with
    | false => rfl
    | true => exact absurd (Nat.eq_of_beq_eq_true hb) h49
  rw [h, h2]
  rfl
theorem up_self {S : St} {k i : Nat} {v : Int32} : up S k i v k i = v := by rw [up_eq]; exact pk_us
theorem up_oth {S : St} {k i j : Nat} {v : Int32} (h : j ≠ i) : up S k i v k j = S k j := by rw [up_eq]; exact pk_un h
