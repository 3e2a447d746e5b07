/-! ===== the reference's search ===== -/
theorem up_up {S : St} {k i : Nat} {v v' : Int32} : up (up S k i v) k i v' = up S k i v' := by
  funext r
  by_cases h : r = k
  · subst h
    rw [up_eq, up_eq, up_eq]
    funext j
    by_cases e : j = i
    · subst e; rw [pk_us, pk_us]
    · rw [pk_un e, pk_un e, pk_un e]
  · rw [up_ne h, up_ne h, up_ne h]
def stp {σ : Type} (st : σ → Option (σ × Nat)) (N : Nat) (q q' : σ) : Prop := ∀ M, lp st (N + M) q = lp st M q'
theorem stp_1 {σ : Type} {st : σ → Option (σ × Nat)} {q q' : σ} (h : st q = some (q', 0)) : stp st 1 q q' := fun M => by
  rw [Nat.add_comm]
  exact lp_s0 h
theorem stp_tr {σ : Type} {st : σ → Option (σ × Nat)} {N1 N2 : Nat} {q q1 q2 : σ} (h1 : stp st N1 q q1) (h2 : stp st N2 q1 q2) : stp st (N1 + N2) q q2 := fun M => by
  rw [Nat.add_assoc, h1, h2]
def DC (U : St) (n c : Nat) (pr a ask : Nat → Nat) : Prop := n ≤ 8 ∧ (∀ b, b < 5 → U 57 b = nI (pr b) ∧ pr b ≤ 4) ∧ (U 62 2 = nI c ∧ c ≤ 10) ∧ ∀ j, j < n → U 71 j = nI (ask j) ∧ ask j < 10 ∧ U 68 (ask j) = nI (a j) ∧ a j ≤ 4
def DF (U T : St) : Prop := ∀ r, r ≠ 69 → r ≠ 70 → r ≠ 72 → T r = U r
def DW (W : Nat → Nat) (T : St) : Prop := ∀ e, e < 10 → T 69 e = nI (W e) ∧ W e < 32
def DS (U : St) (f : Nat → Nat) (k : Nat) (W : Nat → Nat) (T : St) : Prop := DF U T ∧ (∀ b, b < 5 → T 70 b = nI (hc f k b)) ∧ (∀ j, j < k → T 72 j = nI (f j)) ∧ DW W T
def ET (U : St) (f : Nat → Nat) (k : Nat) (W : Nat → Nat) (T : St) (p : Nat) : Prop := DF U T ∧ (∀ j, j < k → T 72 j = nI (f j)) ∧ DW W T ∧ ((p = 0 ∧ T 72 k = -1 ∧ ∀ b, b < 5 → T 70 b = nI (hc f k b)) ∨ ∃ p', p = p' + 1 ∧ p' < 5 ∧ T 72 k = nI p' ∧ ∀ b, b < 5 → T 70 b = nI (hc f k b + if b = p' then 1 else 0))
theorem ET_0 {U : St} {f : Nat → Nat} {k : Nat} {W : Nat → Nat} {T : St} (h : DS U f k W T) (h72 : T 72 k = -1) : ET U f k W T 0 := ⟨h.1, h.2.2.1, h.2.2.2, Or.inl ⟨rfl, h72, h.2.1⟩⟩
theorem ET_s {U : St} {f : Nat → Nat} {k q : Nat} {W : Nat → Nat} {T : St} (hq : q < 5) (h : DS U (updN f k q) (k + 1) W T) : ET U f k W T (q + 1) := by
  obtain ⟨h1, h2, h3, h4⟩ := h
  refine ⟨h1, fun j hj => ?_, h4, Or.inr ⟨q, rfl, hq, ?_, fun b hb => ?_⟩⟩
  · rw [h3 j (by omega), updN_n (by omega)]
  · rw [h3 k (by omega), updN_s]
  · rw [h2 b hb, hc_ext]
    by_cases e : b = q
    · rw [e, updN_s, if_pos rfl]
    · rw [updN_n e, if_neg e, Nat.add_zero]
/-- at level k the next that can be picked, from p on -/
theorem scan_t {U B : St} {n c : Nat} {pr a ask f : Nat → Nat} {k p : Nat} {x1 x2 : Int32} (hD : DC U n c pr a ask) (hV : Vd pr a c f k) (hk : k < n) (hp : p ≤ 5) (hF : DF U B) (h70 : ∀ b, b < 5 → B 70 b = nI (hc f k b)) : ∃ q, p ≤ q ∧ q ≤ 5 ∧ (q < 5 → pr q = a k ∧ hc f k q < c) ∧ (∀ q', p ≤ q' → q' < q → ¬ (pr q' = a k ∧ hc f k q' < c)) ∧ lp (σ := St) (fun z => M_findWays_L168 z x1 x2 (nI k)) FZ (up B 72 k (nI p)) = some (up B 72 k (nI q), 1) := by
  obtain ⟨d1, d2, ⟨d3, d4⟩, d5⟩ := hD
  obtain ⟨a1, a2, a3, a4⟩ := d5 k hk
  obtain ⟨P, hP⟩ : ∃ P : Nat → Bool, P = fun i => decide (pr (p + i) = a k ∧ hc f k (p + i) < c) := ⟨_, rfl⟩
  have hPj : ∀ i, (P i = true ↔ pr (p + i) = a k ∧ hc f k (p + i) < c) := fun i => by rw [hP]; exact decide_eq_true_iff
  have hle := fe_le P (5 - p)
  have hstep : ∀ i, p + i < 5 → M_findWays_L168 (up B 72 k (nI (p + i))) x1 x2 (nI k) = if P i = true then some (up B 72 k (nI (p + i)), 1) else some (up B 72 k (nI (p + i + 1)), 0) := by
    intro i hi
    obtain ⟨p1, p2⟩ := d2 (p + i) hi
    have hcl := hc_le (b := p + i) k hV
    have e57 : (up B 72 k (nI (p + i))) 57 (p + i) = nI (pr (p + i)) := by rw [up_ne (by decide), hF 57 (by decide) (by decide) (by decide)]; exact p1
    have e71 : (up B 72 k (nI (p + i))) 71 k = nI (ask k) := by rw [up_ne (by decide), hF 71 (by decide) (by decide) (by decide)]; exact a1
    have e68 : (up B 72 k (nI (p + i))) 68 (ask k) = nI (a k) := by rw [up_ne (by decide), hF 68 (by decide) (by decide) (by decide)]; exact a3
    have e70 : (up B 72 k (nI (p + i))) 70 (p + i) = nI (hc f k (p + i)) := by rw [up_ne (by decide)]; exact h70 _ hi
    have e62 : (up B 72 k (nI (p + i))) 62 2 = nI c := by rw [up_ne (by decide), hF 62 (by decide) (by decide) (by decide)]; exact d3
    have hJ : M_findWays_J223 (up B 72 k (nI (p + i))) x1 x2 (nI k) = some (up B 72 k (nI (p + i + 1)), 0) := by
      unfold M_findWays_J223
      rw [chk_t (inb_nI (show k < 11 by omega) (by decide)), chk_t (inb_nI (show k < 11 by omega) (by decide)), ix_nI (by omega), up_self, up_up, nI_1]
    unfold M_findWays_L168
    rw [hJ, chk_t (inb_nI (show k < 11 by omega) (by decide)), ix_nI (by omega), up_self, if_neg (by rw [n_5]; exact nI_ge (by omega) (by omega)), chk_t (inb_nI (show k < 11 by omega) (by decide)), chk_t (inb_nI hi (by decide)), chk_t (inb_nI (show k < 10 by omega) (by decide)), e71, chk_t (inb_nI a2 (by decide)), chk_t (inb_nI (show k < 11 by omega) (by decide)), chk_t (inb_nI hi (by decide)), ix_nI (by omega), ix_nI (by omega), e57, e68, e70, e62]
    by_cases c1 : pr (p + i) = a k
    · rw [if_pos (by rw [c1])]
      by_cases c2 : hc f k (p + i) = c
      · rw [if_pos (by rw [c2]), if_neg (fun g => by have := ((hPj i).mp g).2; omega)]
      · rw [if_neg (by rw [nI_eq (by omega) (by omega)]; exact c2), if_pos ((hPj i).mpr ⟨c1, by omega⟩)]
    · rw [if_neg (by rw [nI_eq (by omega) (by omega)]; exact c1), if_neg (fun g => c1 ((hPj i).mp g).1)]
  refine ⟨p + fe P (5 - p), by omega, by omega, fun h => (hPj _).mp (fe_yes P (5 - p) (by omega)), fun q' h1 h2 g => ?_, ?_⟩
  · have := fe_no P (5 - p) (q' - p) (by omega)
    rw [hPj, show p + (q' - p) = q' by omega] at this
    exact this g
  · refine lp_1 (fun i => up B 72 k (nI (p + i))) (fe P (5 - p)) rfl (fun i hi => ?_) ?_ (by omega)
    · try dsimp only
      rw [hstep i (by omega), if_neg (fe_no P (5 - p) i hi)]
      rfl
    · try dsimp only
      by_cases e : fe P (5 - p) < 5 - p
      · rw [hstep _ (by omega), if_pos (fe_yes P (5 - p) e)]
      · unfold M_findWays_L168
        rw [chk_t (inb_nI (show k < 11 by omega) (by decide)), ix_nI (by omega), up_self, if_pos (by rw [n_5]; exact nI_le (by omega) (by omega))]
/-- one pass at level k -/
theorem iter_t {U T : St} {n c : Nat} {pr a ask f : Nat → Nat} {k p : Nat} {W : Nat → Nat} {x2 : Int32} (hD : DC U n c pr a ask) (hV : Vd pr a c f k) (hk : k < n) (hE : ET U f k W T p) (hp : p ≤ 5) : (∃ T', M_findWays_L76 T (nI n) x2 (nI k) = some ((x2, nI k + (-1), T'), 0) ∧ DS U f k W T' ∧ ∀ q, p ≤ q → q < 5 → ¬ (pr q = a k ∧ hc f k q < c)) ∨ (∃ q T', p ≤ q ∧ q < 5 ∧ (pr q = a k ∧ hc f k q < c) ∧ (∀ q', p ≤ q' → q' < q → ¬ (pr q' = a k ∧ hc f k q' < c)) ∧ M_findWays_L76 T (nI n) x2 (nI k) = some ((x2, nI (k + 1), T'), 0) ∧ DS U (updN f k q) (k + 1) W T' ∧ T' 72 (k + 1) = -1) := by
  have hn8 := hD.1
  -- what the pass begins with
  have hB : ∃ B, M_findWays_L76 T (nI n) x2 (nI k) = M_findWays_J158 B (nI n) x2 (nI k) ∧ DF U B ∧ (∀ b, b < 5 → B 70 b = nI (hc f k b)) ∧ (∀ j, j < k → B 72 j = nI (f j)) ∧ DW W B ∧ B 72 k + 1 = nI p := by
    obtain ⟨f1, f2, f3, f4⟩ := hE
    unfold M_findWays_L76
    rw [if_neg (nI_pos (by omega)), if_neg (by rw [nI_eq (by omega) (by omega)]; omega), chk_t (inb_nI (show k < 11 by omega) (by decide)), ix_nI (by omega)]
    rcases f4 with ⟨e0, e1, e2⟩ | ⟨p', e0, e1, e2, e3⟩
    · rw [e1, if_pos rfl]
      exact ⟨T, rfl, f1, e2, f2, f3, by rw [e1, e0]; rfl⟩
    · rw [e2, if_neg (by rw [m_1]; try simp (disch := omega) only [↓m_1, n_0, n_1, n_2, n_3, n_4, n_5, n_6, n_7, n_8, n_9, n_10, n_16, n_20, n_24, n_31, n_32, n_48, n_52, n_57, n_59, n_60, n_64, n_100, n_1024, nI_add, pk_mul, pk_sub, leI_t, leI_f, ltI_t, ltI_f, eqI_t, eqI_f, geM_t, eqM_f, eqM_g, ltM_f, ltM_t, leM_f, inb_nI, ix_nI, chk_tt, bnd_ss, up_ne, up_self, up_oth, if_true, if_false, reduceCtorEq, Nat.succ_ne_zero]; exact fun g => g), chk_t (inb_nI (show k < 11 by omega) (by decide)), chk_t (inb_nI e1 (by decide)), chk_t (inb_nI e1 (by decide)), ix_nI (by omega), e3 p' e1, if_pos rfl, nI_pred]
      refine ⟨_, rfl, fun r x y z => by rw [up_ne y]; exact f1 r x y z, fun b hb => ?_, fun j hj => by rw [up_ne (by decide)]; exact f2 j hj, fun e he => by rw [up_ne (by decide)]; exact f3 e he, by rw [up_ne (by decide), e2, nI_1, e0]⟩
      by_cases e : b = p'
      · rw [e, up_self]
      · rw [up_oth e, e3 b hb, if_neg e, Nat.add_zero]
  obtain ⟨B, hB1, hB2, hB3, hB4, hB5, hB6⟩ := hB
  obtain ⟨q, q1, q2, q3, q4, q5⟩ := scan_t (x1 := nI n) (x2 := x2) hD hV hk hp hB2 hB3
  rw [hB1]
  unfold M_findWays_J158
  rw [chk_t (inb_nI (show k < 11 by omega) (by decide)), chk_t (inb_nI (show k < 11 by omega) (by decide)), ix_nI (by omega), hB6, q5, bnd_ss]
  try dsimp only
  unfold M_findWays_J236
  rw [chk_t (inb_nI (show k < 11 by omega) (by decide)), ix_nI (by omega), up_self]
  have hfr : DF U (up B 72 k (nI q)) := fun r x y z => by rw [up_ne z]; exact hB2 r x y z
  by_cases e5 : q = 5
  · left
    rw [if_pos (by rw [e5]; decide)]
    refine ⟨_, rfl, ⟨hfr, fun b hb => by rw [up_ne (by decide)]; exact hB3 b hb, fun j hj => by rw [up_oth (by omega)]; exact hB4 j hj, fun e he => by rw [up_ne (by decide)]; exact hB5 e he⟩, fun q' h1 h2 => q4 q' h1 (by omega)⟩
  · right
    have hq5 : q < 5 := by omega
    have e70 : (up B 72 k (nI q)) 70 q = nI (hc f k q) := by rw [up_ne (by decide)]; exact hB3 q hq5
    rw [if_neg (by rw [n_5]; exact nI_ge (by omega) (by omega)), chk_t (inb_nI (show k < 11 by omega) (by decide)), chk_t (inb_nI hq5 (by decide)), chk_t (inb_nI hq5 (by decide)), nI_1, chk_t (inb_nI (show k + 1 < 11 by omega) (by decide)), ix_nI (by omega), ix_nI (by omega), e70, nI_1]
    refine ⟨q, _, q1, hq5, q3 hq5, q4, rfl, ⟨fun r x y z => ?_, fun b hb => ?_, fun j hj => ?_, fun e he => ?_⟩, up_self⟩
    · rw [up_ne z, up_ne y]; exact hfr r x y z
    · rw [up_ne (by decide), hc_ext]
      by_cases e : b = q
      · rw [e, up_self, updN_s]
      · rw [up_oth e, updN_n e, up_ne (by decide)]; exact hB3 b hb
    · rw [up_oth (by omega), up_ne (by decide)]
      by_cases e : j = k
      · rw [e, up_self, updN_s]
      · rw [up_oth e, updN_n e]; exact hB4 j (by omega)
    · rw [up_ne (by decide), up_ne (by decide), up_ne (by decide)]; exact hB5 e he
/-- a leaf: whose the evenings are -/
theorem leaf_t {U T : St} {n c : Nat} {pr a ask f : Nat → Nat} {W : Nat → Nat} {x2 x3 : Int32} (hD : DC U n c pr a ask) (hV : Vd pr a c f n) (hS : DS U f n W T) : ∃ T' z W', lp (σ := Int32 × St) (fun q => M_findWays_L91 q.2 (nI n) x2 x3 q.1) FZ (0, T) = some ((z, T'), 1) ∧ DS U f n W' T' ∧ ∀ e, e < 10 → ∀ b, (W' e).testBit b = true ↔ (W e).testBit b = true ∨ ∃ j, j < n ∧ ask j = e ∧ f j = b := by
  obtain ⟨d1, d2, ⟨d3, d4⟩, d5⟩ := hD
  obtain ⟨s1, s2, s3, s4⟩ := hS
  obtain ⟨q, hq, h1, h2, W', h3, h4⟩ := lp_cnt (st := fun q : Int32 × St => M_findWays_L91 q.2 (nI n) x2 x3 q.1) (fun i q => q.1 = nI i ∧ (∀ r, r ≠ 69 → q.2 r = T r) ∧ ∃ W', DW W' q.2 ∧ ∀ e, e < 10 → ∀ b, (W' e).testBit b = true ↔ (W e).testBit b = true ∨ ∃ j, j < i ∧ ask j = e ∧ f j = b) n (by omega) (q0 := (0, T)) ⟨rfl, fun _ _ => rfl, W, s4, fun e _ b => ⟨fun g => Or.inl g, fun g => g.elim id (fun ⟨j, hj, _⟩ => absurd hj (Nat.not_lt_zero j))⟩⟩ (fun i q hi h => by
    obtain ⟨z, V⟩ := q
    obtain ⟨h1, h2, W', h3, h4⟩ := h
    have h1 : z = nI i := h1
    subst h1
    have h2 : ∀ r, r ≠ 69 → V r = T r := h2
    have h3 : DW W' V := h3
    obtain ⟨a1, a2, a3, a4⟩ := d5 i hi
    have hfi := (hV i hi).1
    have e71 : V 71 i = nI (ask i) := by rw [h2 71 (by decide), s1 71 (by decide) (by decide) (by decide)]; exact a1
    have e72 : V 72 i = nI (f i) := by rw [h2 72 (by decide)]; exact s3 i hi
    have e69 := h3 (ask i) a2
    try dsimp only
    unfold M_findWays_L91
    rw [if_neg (nI_ge hi (by omega)), chk_t (inb_nI (show i < 10 by omega) (by decide)), ix_nI (show i < 2 ^ 31 by omega), e71, chk_t (inb_nI a2 (by decide)), chk_t (inb_nI (show i < 11 by omega) (by decide)), chk_t (inb_nI a2 (by decide)), ix_nI (show ask i < 2 ^ 31 by omega), e72, e69.1, show (1 : Int32) <<< (nI (f i) &&& 31) = nI (2 ^ f i) from shl_nI (by omega), or_nI, nI_1]
    refine ⟨_, rfl, rfl, fun r hr => by show up V 69 _ _ r = T r; rw [up_ne hr, h2 r hr], updN W' (ask i) (W' (ask i) ||| 2 ^ f i), fun e he => ?_, fun e he b => ?_⟩
    · show up V 69 _ _ 69 e = _ ∧ _
      by_cases g : e = ask i
      · rw [g, up_self, updN_s]
        exact ⟨rfl, Nat.or_lt_two_pow (n := 5) e69.2 (Nat.pow_lt_pow_right (by omega) (by omega))⟩
      · rw [up_oth g, updN_n g]; exact h3 e he
    · by_cases g : e = ask i
      · rw [g, updN_s, or_bit, h4 (ask i) a2 b]
        constructor
        · rintro ((k | ⟨j, k1, k2, k3⟩) | k)
          · exact Or.inl k
          · exact Or.inr ⟨j, by omega, k2, k3⟩
          · exact Or.inr ⟨i, by omega, rfl, k.symm⟩
        · rintro (k | ⟨j, k1, k2, k3⟩)
          · exact Or.inl (Or.inl k)
          · by_cases ej : j = i
            · rw [ej] at k3; exact Or.inr k3.symm
            · exact Or.inl (Or.inr ⟨j, by omega, k2, k3⟩)
      · rw [updN_n g, h4 e he b]
        constructor
        · rintro (k | ⟨j, k1, k2, k3⟩)
          · exact Or.inl k
          · exact Or.inr ⟨j, by omega, k2, k3⟩
        · rintro (k | ⟨j, k1, k2, k3⟩)
          · exact Or.inl k
          · have : j ≠ i := fun ej => g (by rw [← k2, ej])
            exact Or.inr ⟨j, by omega, k2, k3⟩) (fun q h => by
    obtain ⟨z, V⟩ := q
    obtain ⟨h1, -⟩ := h
    have h1 : z = nI n := h1
    subst h1
    try dsimp only
    unfold M_findWays_L91
    rw [if_pos (nI_le (Nat.le_refl _) (by omega))])
  obtain ⟨z, T'⟩ := q
  have h2 : ∀ r, r ≠ 69 → T' r = T r := h2
  refine ⟨T', z, W', hq, ⟨fun r x y w => by rw [h2 r x, s1 r x y w], fun b hb => by rw [h2 70 (by decide)]; exact s2 b hb, fun j hj => by rw [h2 72 (by decide)]; exact s3 j hj, h3⟩, h4⟩
def tl (X : Nat → Nat) : Nat → Nat → Nat
  | _, 0 => 0
  | p, r + 1 => X p + tl X (p + 1) r
theorem tl_skip {X : Nat → Nat} : ∀ j p r, (∀ i, i < j → X (p + i) = 0) → tl X p (j + r) = tl X (p + j) r := by
  intro j
  induction j with
  | zero => intro p r _; rw [Nat.zero_add, Nat.add_zero]
  | succ j ih =>
    intro p r h
    rw [show j + 1 + r = (j + r) + 1 by omega]
    show X p + tl X (p + 1) (j + r) = _
    have h0 := h 0 (by omega)
    rw [Nat.add_zero] at h0
    rw [h0, Nat.zero_add, ih (p + 1) r (fun i hi => by rw [show p + 1 + i = p + (i + 1) by omega]; exact h (i + 1) (by omega)), show p + 1 + j = p + (j + 1) by omega]
theorem tl_5 {X : Nat → Nat} : tl X 0 5 = smE X 5 := by
  show X 0 + (X 1 + (X 2 + (X 3 + (X 4 + 0)))) = 0 + X 0 + X 1 + X 2 + X 3 + X 4
  omega
def sd : Nat → Nat
  | 0 => 1
  | d + 1 => 1 + 5 * (1 + sd d)
theorem sd_mono : ∀ d, d ≤ 8 → sd d ≤ 976561 := by
  intro d hd
  match d, hd with
  | 0, _ | 1, _ | 2, _ | 3, _ | 4, _ | 5, _ | 6, _ | 7, _ | 8, _ => decide
  | d + 9, hd => exact absurd hd (by omega)
theorem tree_t {U : St} {n c : Nat} {pr a ask : Nat → Nat} (hD : DC U n c pr a ask) : ∀ d k f W T m, k + d = n → Vd pr a c f k → DS U f k W T → T 72 k = -1 → ∃ N T' W', N ≤ sd d ∧ stp (fun q : Int32 × Int32 × St => M_findWays_L76 q.2.2 (nI n) q.1 q.2.1) N (nI m, nI k, T) (nI (m + cn pr a c d k (hc f k)), nI k + (-1), T') ∧ DS U f k W' T' ∧ ∀ e, e < 10 → ∀ b, (W' e).testBit b = true ↔ (W e).testBit b = true ∨ ∃ g, (∀ i, i < k → g i = f i) ∧ Vd pr a c g n ∧ ∃ j, j < n ∧ ask j = e ∧ g j = b := by
  have hn8 := hD.1
  intro d
  induction d with
  | zero =>
    intro k f W T m hk hV hS h72
    have hk : k = n := by omega
    subst hk
    obtain ⟨T', z, W', g1, g2, g3⟩ := leaf_t (x2 := nI m + 1) (x3 := nI k) hD hV hS
    refine ⟨1, T', W', Nat.le_refl _, stp_1 ?_, g2, fun e he b => ?_⟩
    · try dsimp only
      unfold M_findWays_L76 M_findWays_J127
      rw [if_neg (nI_pos (by omega)), if_pos rfl, g1, bnd_ss, nI_1]
      rfl
    · rw [g3 e he b]
      constructor
      · rintro (h | h)
        · exact Or.inl h
        · exact Or.inr ⟨f, fun _ _ => rfl, hV, h⟩
      · rintro (h | ⟨g, h1, h2, j, h3, h4, h5⟩)
        · exact Or.inl h
        · exact Or.inr ⟨j, h3, h4, by rw [← h1 j h3]; exact h5⟩
  | succ d ih =>
    intro k f W T m hk hV hS h72
    have hkn : k < n := by omega
    have key : ∀ R r p, r ≤ R → p + r = 5 → ∀ W T m, ET U f k W T p → ∃ N T' W', N ≤ 1 + r * (1 + sd d) ∧ stp (fun q : Int32 × Int32 × St => M_findWays_L76 q.2.2 (nI n) q.1 q.2.1) N (nI m, nI k, T) (nI (m + tl (fun q => if pr q = a k ∧ hc f k q < c then cn pr a c d (k + 1) (updN (hc f k) q (hc f k q + 1)) else 0) p r), nI k + (-1), T') ∧ DS U f k W' T' ∧ ∀ e, e < 10 → ∀ b, (W' e).testBit b = true ↔ (W e).testBit b = true ∨ ∃ g, (∀ i, i < k → g i = f i) ∧ p ≤ g k ∧ Vd pr a c g n ∧ ∃ j, j < n ∧ ask j = e ∧ g j = b := by
      intro R
      induction R with
      | zero =>
        intro r p hr hpr W T m hE
        rcases iter_t (x2 := nI m) hD hV hkn hE (by omega) with ⟨T', g1, g2, g3⟩ | ⟨q, T', g1, g2, -⟩
        · have hr0 : r = 0 := by omega
          subst hr0
          refine ⟨1, T', W, by omega, stp_1 (by
            try dsimp only
            rw [g1]
            rfl), g2, fun e he b => ⟨fun h => Or.inl h, ?_⟩⟩
          rintro (h | ⟨g, h1, h2, h3, -⟩)
          · exact h
          · have := (h3 k hkn).1
            omega
        · omega
      | succ R ihR =>
        intro r p hr hpr W T m hE
        rcases iter_t (x2 := nI m) hD hV hkn hE (by omega) with ⟨T', g1, g2, g3⟩ | ⟨q, T1, g1, g2, g3, g4, g5, g6, g7⟩
        · have hz : tl (fun q => if pr q = a k ∧ hc f k q < c then cn pr a c d (k + 1) (updN (hc f k) q (hc f k q + 1)) else 0) p r = 0 := by
            rw [← Nat.add_zero r, tl_skip r p 0 (fun i hi => if_neg (g3 (p + i) (by omega) (by omega)))]
            rfl
          refine ⟨1, T', W, Nat.le_add_right _ _, stp_1 (by
            try dsimp only
            rw [g1, hz]
            rfl), g2, fun e he b => ⟨fun h => Or.inl h, ?_⟩⟩
          rintro (h | ⟨g, h1, h2, h3, -⟩)
          · exact h
          · obtain ⟨v1, v2, v3⟩ := h3 k hkn
            rw [hc_congr h1] at v3
            exact absurd ⟨v2, v3⟩ (g3 (g k) h2 v1)
        · obtain ⟨NA, TA, WA, n1, n2, n3, n4⟩ := ih (k + 1) (updN f k q) W T1 m (by omega) (Vd_ext hV g2 g3.1 g3.2) g6 g7
          rw [pk_m1] at n2
          obtain ⟨r', hr'⟩ : ∃ r', q + 1 + r' = 5 := ⟨5 - (q + 1), by omega⟩
          obtain ⟨NB, TB, WB, b1, b2, b3, b4⟩ := ihR r' (q + 1) (by omega) hr' WA TA (m + cn pr a c d (k + 1) (hc (updN f k q) (k + 1))) (ET_s g2 n3)
          have hr1 : (r' + 1) * (1 + sd d) ≤ r * (1 + sd d) := Nat.mul_le_mul_right _ (by omega)
          rw [Nat.succ_mul] at hr1
          refine ⟨1 + NA + NB, TB, WB, by omega, ?_, b3, fun e he b => ?_⟩
          · have s1 : stp (fun q : Int32 × Int32 × St => M_findWays_L76 q.2.2 (nI n) q.1 q.2.1) 1 (nI m, nI k, T) (nI m, nI (k + 1), T1) := stp_1 g5
            have hsum : m + tl (fun q => if pr q = a k ∧ hc f k q < c then cn pr a c d (k + 1) (updN (hc f k) q (hc f k q + 1)) else 0) p r = m + cn pr a c d (k + 1) (hc (updN f k q) (k + 1)) + tl (fun q => if pr q = a k ∧ hc f k q < c then cn pr a c d (k + 1) (updN (hc f k) q (hc f k q + 1)) else 0) (q + 1) r' := by
              rw [show r = (q - p) + (r' + 1) by omega, tl_skip (q - p) p (r' + 1) (fun i hi => if_neg (g4 (p + i) (by omega) (by omega))), show p + (q - p) = q by omega]
              have e1 : tl (fun q => if pr q = a k ∧ hc f k q < c then cn pr a c d (k + 1) (updN (hc f k) q (hc f k q + 1)) else 0) q (r' + 1) = (if pr q = a k ∧ hc f k q < c then cn pr a c d (k + 1) (updN (hc f k) q (hc f k q + 1)) else 0) + tl (fun q => if pr q = a k ∧ hc f k q < c then cn pr a c d (k + 1) (updN (hc f k) q (hc f k q + 1)) else 0) (q + 1) r' := rfl
              rw [e1, if_pos g3, hc_ext]
              omega
            rw [hsum]
            exact stp_tr (stp_tr s1 n2) b2
          · rw [b4 e he b, n4 e he b]
            constructor
            · rintro ((h | ⟨g, h1, h2, h3⟩) | ⟨g, h1, h2, h3⟩)
              · exact Or.inl h
              · refine Or.inr ⟨g, fun i hi => by rw [h1 i (by omega), updN_n (by omega)], ?_, h2, h3⟩
                rw [h1 k (by omega), updN_s]; exact g1
              · exact Or.inr ⟨g, h1, by omega, h3⟩
            · rintro (h | ⟨g, h1, h2, h3, h4⟩)
              · exact Or.inl (Or.inl h)
              · obtain ⟨v1, v2, v3⟩ := h3 k hkn
                rw [hc_congr h1] at v3
                have hge : q ≤ g k := by
                  rcases Nat.lt_or_ge (g k) q with x | x
                  · exact absurd ⟨v2, v3⟩ (g4 (g k) h2 x)
                  · exact x
                by_cases ge : g k = q
                · refine Or.inl (Or.inr ⟨g, fun i hi => ?_, h3, h4⟩)
                  by_cases ei : i = k
                  · rw [ei, updN_s, ge]
                  · rw [updN_n ei]; exact h1 i (by omega)
                · exact Or.inr ⟨g, h1, by omega, h3, h4⟩
    obtain ⟨N, T', W', h1, h2, h3, h4⟩ := key 5 5 0 (Nat.le_refl _) rfl W T m (ET_0 hS h72)
    refine ⟨N, T', W', h1, ?_, h3, fun e he b => ?_⟩
    · rw [tl_5] at h2
      exact h2
    · rw [h4 e he b]
      constructor
      · rintro (h | ⟨g, x1, -, x3⟩)
        · exact Or.inl h
        · exact Or.inr ⟨g, x1, x3⟩
      · rintro (h | ⟨g, x1, x3⟩)
        · exact Or.inl h
        · exact Or.inr ⟨g, x1, Nat.zero_le _, x3⟩
