/-! ===== meet: the cheapest evenings, one by one, are the cheapest together ===== -/
theorem smE_pt {f g : Nat → Nat} {c : Nat} : ∀ n, c < n → (∀ e, e < n → e ≠ c → f e = g e) → smE f n + g c = smE g n + f c := by
  intro n
  induction n with
  | zero => intro h; exact absurd h (Nat.not_lt_zero c)
  | succ n ih =>
    intro hc h
    show smE f n + f n + g c = smE g n + g n + f c
    by_cases hcn : c = n
    · subst hcn
      rw [smE_congr c (fun e he => h e (by omega) (by omega))]
      omega
    · have h1 := ih (by omega) (fun e he hne => h e (by omega) hne)
      have h2 := h n (by omega) (Ne.symm hcn)
      omega
theorem or_bit {g c e : Nat} : (g ||| 2 ^ c).testBit e = true ↔ g.testBit e = true ∨ e = c := by
  rw [Nat.testBit_or, Nat.testBit_two_pow, Bool.or_eq_true, decide_eq_true_eq]
  exact ⟨fun h => h.elim Or.inl (fun q => Or.inr q.symm), fun h => h.elim Or.inl (fun q => Or.inr q.symm)⟩
/-- of the evenings X, all h together -/
def msm (h : Nat → Nat) (X : Nat) : Nat := smE (fun e => if X.testBit e = true then h e else 0) 10
theorem msm_add {h : Nat → Nat} {g c : Nat} (hc : c < 10) (hg : ¬ g.testBit c = true) : msm h (g ||| 2 ^ c) = msm h g + h c := by
  have := smE_pt (f := fun e => if (g ||| 2 ^ c).testBit e = true then h e else 0) (g := fun e => if g.testBit e = true then h e else 0) 10 hc (fun e _ hne => by
    try dsimp only
    by_cases t : g.testBit e = true
    · rw [if_pos t, if_pos (or_bit.mpr (Or.inl t))]
    · rw [if_neg t, if_neg (fun q => (or_bit.mp q).elim t hne)])
  try dsimp only at this
  rw [if_neg hg, if_pos (or_bit.mpr (Or.inr rfl))] at this
  exact this
theorem pcN_eq (X : Nat) : pcN X = msm (fun _ => 1) X := rfl
theorem xor_or {X e : Nat} (h : X.testBit e = true) : (X ^^^ 2 ^ e) ||| 2 ^ e = X ∧ ¬ (X ^^^ 2 ^ e).testBit e = true := by
  constructor
  · apply Nat.eq_of_testBit_eq
    intro j
    rw [Nat.testBit_or, Nat.testBit_xor, Nat.testBit_two_pow]
    by_cases c : e = j
    · subst c
      rw [h]
      simp
    · simp [c]
  · rw [Nat.testBit_xor, Nat.testBit_two_pow, h]
    simp
theorem bits_sum : ∀ X : Fin 1024, msm (fun e => 2 ^ e) X.val = X.val := by decide +kernel
def wgt (cs : Nat → Nat) (X : Nat) : Nat := msm (fun e => 1024 * cs e + 2 ^ e) X
theorem msm_lin (a b : Nat → Nat) (X : Nat) : msm (fun e => 1024 * a e + b e) X = 1024 * msm a X + msm b X := by
  unfold msm
  have : ∀ n, smE (fun e => if X.testBit e = true then 1024 * a e + b e else 0) n = 1024 * smE (fun e => if X.testBit e = true then a e else 0) n + smE (fun e => if X.testBit e = true then b e else 0) n := by
    intro n
    induction n with
    | zero => rfl
    | succ n ih =>
      show smE (fun e => if X.testBit e = true then 1024 * a e + b e else 0) n + (if X.testBit n = true then 1024 * a n + b n else 0) = 1024 * (smE (fun e => if X.testBit e = true then a e else 0) n + (if X.testBit n = true then a n else 0)) + (smE (fun e => if X.testBit e = true then b e else 0) n + (if X.testBit n = true then b n else 0))
      rw [ih]
      by_cases c : X.testBit n = true
      · rw [if_pos c, if_pos c, if_pos c]; omega
      · rw [if_neg c, if_neg c, if_neg c]; omega
  exact this 10
theorem wgt_eq {cs : Nat → Nat} {X : Nat} (h : X < 1024) : wgt cs X = 1024 * msm cs X + X := by
  unfold wgt
  rw [msm_lin]
  have : msm (fun e => 2 ^ e) X = X := bits_sum ⟨X, h⟩
  rw [this]
theorem more_el {X g : Nat} (hp : pcN g < pcN X) : ∃ e, e < 10 ∧ X.testBit e = true ∧ ¬ g.testBit e = true := by
  refine Classical.byContradiction fun hn => ?_
  have : pcN X ≤ pcN g := smE_mono 10 (fun e he => by
    try dsimp only
    by_cases t : X.testBit e = true
    · by_cases u : g.testBit e = true
      · rw [if_pos t, if_pos u]
        exact Nat.le_refl _
      · exact absurd ⟨e, he, t, u⟩ hn
    · rw [if_neg t]
      exact Nat.zero_le _)
  omega
theorem dsj {X bm e : Nat} (h : X &&& bm = 0) (hX : X.testBit e = true) : ¬ bm.testBit e = true := by
  intro hb
  have h2 : (X &&& bm).testBit e = true := by rw [Nat.testBit_and, hX, hb]; rfl
  rw [h, Nat.zero_testBit] at h2
  cases h2
theorem dsj_of {X bm : Nat} (hX : X < 1024) (h : ∀ e, e < 10 → X.testBit e = true → ¬ bm.testBit e = true) : X &&& bm = 0 := by
  apply Nat.eq_of_testBit_eq
  intro e
  rw [Nat.testBit_and, Nat.zero_testBit]
  by_cases he : e < 10
  · cases hx : X.testBit e with
    | false => rfl
    | true =>
      cases hb : bm.testBit e with
      | false => rfl
      | true => exact absurd hb (h e he hx)
  · rw [Nat.testBit_lt_two_pow (Nat.lt_of_lt_of_le hX (Nat.pow_le_pow_right (n := 2) (by omega) (show 10 ≤ e by omega)))]
    rfl
theorem greedy_step {cs : Nat → Nat} {bm g c j : Nat} (hg : g < 1024) (hc : c < 10) (hgc : ¬ g.testBit c = true) (hbc : ¬ bm.testBit c = true) (hp : pcN g = j) (hd : g &&& bm = 0) (hmin : ∀ e, e < 10 → ¬ g.testBit e = true → ¬ bm.testBit e = true → cs c < cs e ∨ (cs c = cs e ∧ c ≤ e)) (ho : ∀ X, X < 1024 → pcN X = j → X &&& bm = 0 → wgt cs g ≤ wgt cs X) : (g ||| 2 ^ c) < 1024 ∧ pcN (g ||| 2 ^ c) = j + 1 ∧ (g ||| 2 ^ c) &&& bm = 0 ∧ msm cs (g ||| 2 ^ c) = msm cs g + cs c ∧ ∀ X, X < 1024 → pcN X = j + 1 → X &&& bm = 0 → wgt cs (g ||| 2 ^ c) ≤ wgt cs X := by
  have h2c : 2 ^ c < 2 ^ 10 := Nat.pow_lt_pow_right (by omega) hc
  have hlt : (g ||| 2 ^ c) < 1024 := Nat.or_lt_two_pow (n := 10) hg h2c
  refine ⟨hlt, ?_, dsj_of hlt (fun e he ht => ?_), msm_add hc hgc, fun X hX hpX hdX => ?_⟩
  · rw [pcN_eq, msm_add hc hgc, ← pcN_eq, hp]
  · rcases or_bit.mp ht with t | rfl
    · exact dsj hd t
    · exact hbc
  · obtain ⟨e, he, x1, x2⟩ := more_el (X := X) (g := g) (by omega)
    obtain ⟨y1, y2⟩ := xor_or x1
    have hX' : X ^^^ 2 ^ e < 1024 := Nat.xor_lt_two_pow (n := 10) hX (Nat.pow_lt_pow_right (by omega) he)
    have p1 : pcN X = pcN (X ^^^ 2 ^ e) + 1 := by
      conv => lhs; rw [← y1]
      rw [pcN_eq, msm_add he y2]
      rfl
    have p2 : wgt cs X = wgt cs (X ^^^ 2 ^ e) + (1024 * cs e + 2 ^ e) := by
      conv => lhs; rw [← y1]
      unfold wgt
      rw [msm_add he y2]
    have hd' : (X ^^^ 2 ^ e) &&& bm = 0 := dsj_of hX' (fun q _ ht => by
      refine dsj hdX ?_
      rw [← y1]
      exact or_bit.mpr (Or.inl ht))
    have h1 := ho _ hX' (by omega) hd'
    have h3 : wgt cs (g ||| 2 ^ c) = wgt cs g + (1024 * cs c + 2 ^ c) := by
      unfold wgt
      rw [msm_add hc hgc]
    have h4 : 1024 * cs c + 2 ^ c ≤ 1024 * cs e + 2 ^ e := by
      rcases hmin e he x2 (dsj hdX x1) with q | ⟨q, q2⟩
      · have h5 : 2 ^ c < 1024 := h2c
        have h6 : 0 < 2 ^ e := Nat.two_pow_pos e
        generalize 2 ^ c = p at h5 ⊢
        generalize 2 ^ e = r at h6 ⊢
        omega
      · have : 2 ^ c ≤ 2 ^ e := Nat.pow_le_pow_right (by omega) q2
        omega
    omega
/-- the reference's best below m, and 1; 0: none -/
def mtB (cs : Nat → Nat) (bm k : Nat) : Nat → Nat
  | 0 => 0
  | m + 1 => if pcN m = k ∧ m &&& bm = 0 then (if mtB cs bm k m = 0 then m + 1 else if msm cs (mtB cs bm k m - 1) ≤ msm cs m then mtB cs bm k m else m + 1) else mtB cs bm k m
theorem mtB_spec (cs : Nat → Nat) (bm k : Nat) : ∀ m, (mtB cs bm k m = 0 → ∀ X, X < m → ¬ (pcN X = k ∧ X &&& bm = 0)) ∧ (mtB cs bm k m ≠ 0 → mtB cs bm k m ≤ m ∧ (pcN (mtB cs bm k m - 1) = k ∧ (mtB cs bm k m - 1) &&& bm = 0) ∧ ∀ X, X < m → pcN X = k → X &&& bm = 0 → msm cs (mtB cs bm k m - 1) < msm cs X ∨ (msm cs (mtB cs bm k m - 1) = msm cs X ∧ mtB cs bm k m - 1 ≤ X)) := by
  intro m
  induction m with
  | zero => exact ⟨fun _ X hX => absurd hX (Nat.not_lt_zero X), fun h => absurd rfl h⟩
  | succ m ih =>
    obtain ⟨i1, i2⟩ := ih
    have e : mtB cs bm k (m + 1) = if pcN m = k ∧ m &&& bm = 0 then (if mtB cs bm k m = 0 then m + 1 else if msm cs (mtB cs bm k m - 1) ≤ msm cs m then mtB cs bm k m else m + 1) else mtB cs bm k m := rfl
    generalize hB : mtB cs bm k m = B at i1 i2 e
    by_cases f : pcN m = k ∧ m &&& bm = 0
    · rw [if_pos f] at e
      by_cases b0 : B = 0
      · rw [if_pos b0] at e
        rw [e]
        refine ⟨fun q => absurd q (Nat.succ_ne_zero m), fun _ => ⟨Nat.le_refl _, f, fun X hX h1 h2 => ?_⟩⟩
        by_cases hXm : X = m
        · rw [hXm]; exact Or.inr ⟨rfl, Nat.le_refl _⟩
        · exact absurd ⟨h1, h2⟩ (i1 b0 X (by omega))
      · rw [if_neg b0] at e
        obtain ⟨j1, j2, j3⟩ := i2 b0
        by_cases le : msm cs (B - 1) ≤ msm cs m
        · rw [if_pos le] at e
          rw [e]
          refine ⟨fun q => absurd q b0, fun _ => ⟨by omega, j2, fun X hX h1 h2 => ?_⟩⟩
          by_cases hXm : X = m
          · rw [hXm]; omega
          · exact j3 X (by omega) h1 h2
        · rw [if_neg le] at e
          rw [e]
          refine ⟨fun q => absurd q (Nat.succ_ne_zero m), fun _ => ⟨Nat.le_refl _, f, fun X hX h1 h2 => ?_⟩⟩
          by_cases hXm : X = m
          · rw [hXm]; exact Or.inr ⟨rfl, Nat.le_refl _⟩
          · have := j3 X (by omega) h1 h2
            left
            show msm cs m < msm cs X
            omega
    · rw [if_neg f] at e
      rw [e]
      refine ⟨fun q X hX g => ?_, fun q => ?_⟩
      · by_cases hXm : X = m
        · rw [hXm] at g; exact f g
        · exact i1 q X (by omega) g
      · obtain ⟨j1, j2, j3⟩ := i2 q
        refine ⟨by omega, j2, fun X hX h1 h2 => ?_⟩
        by_cases hXm : X = m
        · rw [hXm] at h1 h2; exact absurd ⟨h1, h2⟩ f
        · exact j3 X (by omega) h1 h2
/-- the greedy choice is the reference's best -/
theorem mtB_of {cs : Nat → Nat} {bm k g : Nat} (hg : g < 1024) (hp : pcN g = k) (hd : g &&& bm = 0) (ho : ∀ X, X < 1024 → pcN X = k → X &&& bm = 0 → wgt cs g ≤ wgt cs X) : mtB cs bm k 1024 = g + 1 := by
  obtain ⟨i1, i2⟩ := mtB_spec cs bm k 1024
  by_cases b0 : mtB cs bm k 1024 = 0
  · exact absurd ⟨hp, hd⟩ (i1 b0 g hg)
  · obtain ⟨j1, ⟨j2, j3⟩, j4⟩ := i2 b0
    have h1 := ho _ (show mtB cs bm k 1024 - 1 < 1024 by omega) j2 j3
    rw [wgt_eq hg, wgt_eq (show mtB cs bm k 1024 - 1 < 1024 by omega)] at h1
    have h2 := j4 g hg hp hd
    generalize mtB cs bm k 1024 = B at *
    omega
/-! costs and busy evenings -/
noncomputable def csX (S : St) (x e : Nat) : Nat := if lX S e = 0 then max (rX S e) 1 else if x.testBit (bdk (tX S) (lX S e - 1)) = true then 0 else amX (tX S) (lX S) e + sX S
theorem csX_le {w : gw} {S : St} {i x e : Nat} (h : Inv w S i) (he : e < 10) : csX S x e ≤ 119 := by
  obtain ⟨p1, -, -⟩ := Inv_pn h
  have h1 := (p1.2.1 e he).2
  have h2 := amX_le S e (Inv_tx h).1
  have h3 := p1.2.2.2
  unfold csX
  split
  · rw [Nat.max_def]; split <;> omega
  · split <;> omega
theorem cost_t {w : gw} {T : St} {i x e : Nat} (hI : Inv w T i) (hO : OcOK T) (hx : x < 32) (he : e < 10) : OC_costToMeet T (nI x) (nI e) = some (nI (csX T x e)) := by
  obtain ⟨t1, -⟩ := Inv_tx hI
  obtain ⟨-, p2, -⟩ := Inv_pn hI
  have h30 : T 30 e = nI (amX (tX T) (lX T) e) := (hO.2.2.1 e he).2.1
  have hr := p2.2.1 e he
  unfold OC_costToMeet OC_costToMeet_J40 csX
  rw [chk_t (inb_nI he (by decide)), ix_nI (by omega), Oc29 hO he]
  rcases ldX_c t1 e with ⟨c, d⟩ | ⟨c, q, q1, q2, d⟩
  · rw [d, if_pos (show mI = -1 from rfl), if_pos c, chk_t (inb_nI he (by decide)), hr.1, n_1, mx_nI (by omega) (by omega)]
  · rw [d, if_neg (by rw [m_1]; try simp (disch := omega) only [↓m_1, n_0, n_1, n_2, n_3, n_4, n_5, n_6, n_7, n_8, n_9, n_10, n_16, n_20, n_24, n_31, n_32, n_48, n_52, n_57, n_59, n_60, n_64, n_100, n_1024, nI_add, pk_mul, pk_sub, leI_t, leI_f, ltI_t, ltI_f, eqI_t, eqI_f, geM_t, eqM_f, eqM_g, ltM_f, ltM_t, leM_f, inb_nI, ix_nI, chk_tt, bnd_ss, up_ne, up_self, up_oth, if_true, if_false, reduceCtorEq, Nat.succ_ne_zero]; exact fun g => g), if_neg c, shr_t (by omega) (by omega), q2]
    by_cases c2 : x.testBit q = true
    · rw [if_pos c2, if_pos (show nI 1 = 1 from rfl), if_neg n10, if_pos c2]
      rfl
    · rw [if_neg c2, if_neg (show ¬ nI 0 = 1 by decide), if_pos rfl, if_neg c2, chk_t (inb_nI he (by decide)), h30, p2.2.2.1, nI_add]
theorem buying_t {w : gw} {T U : St} {i x e : Nat} (hI : Inv w T i) (hJ : JM (tX T) (nX T) U (lX T)) (h60 : U 60 = T 60) (h62 : U 62 = T 62) (hx : x < 32) (he : e < 10) : M_buyingOf U (nI x) (nI e) = some (nI (csX T x e)) := by
  obtain ⟨t1, -⟩ := Inv_tx hI
  obtain ⟨p1, -, -⟩ := Inv_pn hI
  have hr := p1.2.1 e he
  unfold M_buyingOf csX
  rw [chk_t (inb_nI he (by decide)), ix_nI (by omega), hJ.2.2.1 e he, ownerOf_t hJ he, bnd_ss, amountOf_t hJ he, bnd_ss, h60, h62, hr.1, p1.2.2.1]
  unfold ldM
  rcases ldX_c t1 e with ⟨c, d⟩ | ⟨c, q, q1, q2, d⟩
  · rw [if_pos c, if_pos (show mI = -1 from rfl), if_pos c, chk_t (inb_nI he (by decide)), chk_t (inb_nI he (by decide)), n_1]
    by_cases c2 : rX T e ≤ 1
    · rw [if_pos ((nI_leI (by omega) (by omega)).mpr c2), Nat.max_eq_right c2]
    · rw [if_neg (fun g => c2 ((nI_leI (by omega) (by omega)).mp g)), Nat.max_eq_left (by omega)]
  · have hl1 := (lX_bid T t1 c).1
    rw [if_neg c, if_neg (by rw [m_1]; try simp (disch := omega) only [↓m_1, n_0, n_1, n_2, n_3, n_4, n_5, n_6, n_7, n_8, n_9, n_10, n_16, n_20, n_24, n_31, n_32, n_48, n_52, n_57, n_59, n_60, n_64, n_100, n_1024, nI_add, pk_mul, pk_sub, leI_t, leI_f, ltI_t, ltI_f, eqI_t, eqI_f, geM_t, eqM_f, eqM_g, ltM_f, ltM_t, leM_f, inb_nI, ix_nI, chk_tt, bnd_ss, up_ne, up_self, up_oth, if_true, if_false, reduceCtorEq, Nat.succ_ne_zero]; exact fun g => g), if_neg c, d, isIn_t (by omega) (by omega), q2]
    by_cases c2 : x.testBit q = true
    · rw [if_pos c2, if_neg (show ¬ nI 1 = 0 by decide), if_pos c2]
      rfl
    · rw [if_neg c2, if_pos (show nI 0 = 0 from rfl), if_neg c2, nI_add]
/-- when somebody of x is busy -/
def bmk (S : St) (x : Nat) : Nat → Nat
  | 0 => 0
  | b + 1 => if x.testBit b = true then bmk S x b ||| ix (S 63 b) else bmk S x b
theorem bmk_bit {S : St} {x e : Nat} : ∀ n, (bmk S x n).testBit e = true ↔ ∃ b, b < n ∧ x.testBit b = true ∧ (ix (S 63 b)).testBit e = true := by
  intro n
  induction n with
  | zero =>
    show Nat.testBit 0 e = true ↔ _
    rw [Nat.zero_testBit]
    exact ⟨fun h => (by cases h), fun ⟨b, hb, _⟩ => absurd hb (Nat.not_lt_zero b)⟩
  | succ n ih =>
    unfold bmk
    by_cases c : x.testBit n = true
    · rw [if_pos c, Nat.testBit_or, Bool.or_eq_true, ih]
      constructor
      · rintro (⟨b, h1, h2⟩ | h)
        · exact ⟨b, by omega, h2⟩
        · exact ⟨n, by omega, c, h⟩
      · rintro ⟨b, h1, h2, h3⟩
        by_cases hb : b = n
        · rw [hb] at h3; exact Or.inr h3
        · exact Or.inl ⟨b, by omega, h2, h3⟩
    · rw [if_neg c, ih]
      constructor
      · rintro ⟨b, h1, h2⟩
        exact ⟨b, by omega, h2⟩
      · rintro ⟨b, h1, h2, h3⟩
        by_cases hb : b = n
        · rw [hb] at h2; exact absurd h2 c
        · exact ⟨b, by omega, h2, h3⟩
theorem Inv_bz {w : gw} {S : St} {i b : Nat} (h : Inv w S i) (hb : b < 5) : S 63 b = nI (ix (S 63 b)) ∧ ix (S 63 b) < 1024 ∧ ∀ e, e < 10 → S (17 + b) e = nI (if (ix (S 63 b)).testBit e = true then 1 else 0) := by
  obtain ⟨B, h1, h2, h3⟩ := h.2.1.2.2.2.2.1 b hb
  have h2 : S 63 b = nI B := h2
  have e : ix (S 63 b) = B := by rw [h2, ix_nI (by omega)]
  rw [e]
  refine ⟨h2, h1, fun q hq => ?_⟩
  have := h3 q hq
  rw [mk_row S (by omega)] at this
  rw [this, ← Nat.toNat_testBit]
  cases B.testBit q <;> rfl
theorem bmk_lt {w : gw} {S : St} {i x : Nat} (h : Inv w S i) : ∀ n, n ≤ 5 → bmk S x n < 1024 := by
  intro n
  induction n with
  | zero => intro _; show 0 < 1024; omega
  | succ n ih =>
    intro hn
    have h1 := ih (by omega)
    have h2 := (Inv_bz h (show n < 5 by omega)).2.1
    unfold bmk
    split
    · exact Nat.or_lt_two_pow (n := 10) h1 h2
    · exact h1
theorem anyBusy_t {w : gw} {T : St} {i x e : Nat} (hI : Inv w T i) (hx : x < 32) (he : e < 10) : TW_isAnyBusy T (nI x) (nI e) = some (if (bmk T x 5).testBit e = true then 1 else 0) := by
  obtain ⟨P, hP⟩ : ∃ P : Nat → Bool, P = fun b => x.testBit b && (ix (T 63 b)).testBit e := ⟨_, rfl⟩
  have hle := fe_le P 5
  unfold TW_isAnyBusy
  have step : ∀ j, j < 5 → TW_isAnyBusy_L2 T (nI x) (nI e) (nI j) = if P j = true then some (nI j, 1) else some (nI (j + 1), 0) := by
    intro j hj
    have hb := (Inv_bz hI hj).2.2 e he
    unfold TW_isAnyBusy_L2
    rw [if_neg (by rw [n_5]; try simp (disch := omega) only [↓m_1, n_0, n_1, n_2, n_3, n_4, n_5, n_6, n_7, n_8, n_9, n_10, n_16, n_20, n_24, n_31, n_32, n_48, n_52, n_57, n_59, n_60, n_64, n_100, n_1024, nI_add, pk_mul, pk_sub, leI_t, leI_f, ltI_t, ltI_f, eqI_t, eqI_f, geM_t, eqM_f, eqM_g, ltM_f, ltM_t, leM_f, inb_nI, ix_nI, chk_tt, bnd_ss, up_ne, up_self, up_oth, if_true, if_false, reduceCtorEq, Nat.succ_ne_zero]; exact fun g => g), shr_t (by omega) (by omega), chk_t (inb_nI hj (by decide)), chk_t (inb_nI he (by decide)), ix_nI (by omega), ix_nI (by omega), hb, nI_1, hP]
    try dsimp only
    by_cases c : x.testBit j = true
    · rw [if_pos c, if_pos (show nI 1 = 1 from rfl)]
      by_cases d : (ix (T 63 j)).testBit e = true
      · rw [if_pos d, if_pos (show nI 1 = 1 from rfl), if_pos (by rw [c, d]; rfl)]
      · rw [if_neg d, if_neg (show ¬ nI 0 = 1 by decide), if_neg (fun g => d (Bool.and_eq_true _ _ |>.mp g).2)]
    · rw [if_neg c, if_neg (show ¬ nI 0 = 1 by decide), if_neg (fun g => c (Bool.and_eq_true _ _ |>.mp g).1)]
  have hbit := bmk_bit (S := T) (x := x) (e := e) 5
  by_cases hf : fe P 5 < 5
  · have hy := fe_yes P 5 hf
    have hl : lp (σ := Int32) (fun q => TW_isAnyBusy_L2 T (nI x) (nI e) q) FZ 0 = some (nI (fe P 5), 1) := by
      refine lp_1 (fun j => nI j) (fe P 5) rfl ?_ ?_ (by omega)
      · intro j hj
        try dsimp only
        rw [step j (by omega), if_neg (fe_no P 5 j hj)]
      · try dsimp only
        rw [step _ hf, if_pos hy]
    rw [hl, bnd_ss, if_pos rfl, if_pos]
    · rfl
    · rw [hP] at hy hf
      have := Bool.and_eq_true _ _ |>.mp hy
      exact hbit.mpr ⟨_, hf, this⟩
  · have hl : lp (σ := Int32) (fun q => TW_isAnyBusy_L2 T (nI x) (nI e) q) FZ 0 = some (nI 5, 2) := by
      refine lp_go (fun j => nI j) 5 rfl ?_ ?_ (by decide) (by decide)
      · intro j hj
        try dsimp only
        rw [step j hj, if_neg (fe_no P 5 j (by omega))]
      · try dsimp only
        unfold TW_isAnyBusy_L2
        rw [if_pos (by decide)]
    rw [hl, bnd_ss, if_neg (by decide), if_neg]
    · rfl
    · intro g
      obtain ⟨b, h1, h2, h3⟩ := hbit.mp g
      refine fe_no P 5 b (by omega) ?_
      rw [hP]
      try dsimp only
      rw [h2, h3]
      rfl
/-- an evening that can still be had -/
def avl (g bm e : Nat) : Prop := ¬ g.testBit e = true ∧ ¬ bm.testBit e = true
theorem cheapest_t {w : gw} {T : St} {i x g : Nat} (hI : Inv w T i) (hO : OcOK T) (hx : x < 32) (hg : g < 1024) : ∃ r, X_cheapestToMeet T (nI x) (nI g) = some r ∧ ((r = mI ∧ ∀ e, e < 10 → ¬ avl g (bmk T x 5) e) ∨ ∃ c, c < 10 ∧ avl g (bmk T x 5) c ∧ r = nI c ∧ ∀ e, e < 10 → avl g (bmk T x 5) e → csX T x c < csX T x e ∨ (csX T x c = csX T x e ∧ c ≤ e)) := by
  obtain ⟨q, hq, h1, h2⟩ := lp_cnt (st := fun q : Int32 × Int32 × Int32 => X_cheapestToMeet_L9 T (nI x) (nI g) q.1 q.2.1 q.2.2) (fun j q => q.2.2 = nI j ∧ ((q.1 = mI ∧ ∀ e, e < j → ¬ avl g (bmk T x 5) e) ∨ ∃ c, c < j ∧ avl g (bmk T x 5) c ∧ q.1 = nI c ∧ q.2.1 = nI (csX T x c) ∧ ∀ e, e < j → avl g (bmk T x 5) e → csX T x c < csX T x e ∨ (csX T x c = csX T x e ∧ c ≤ e))) 10 (by decide) (q0 := (-1, 0, 0)) ⟨rfl, Or.inl ⟨rfl, fun e he => absurd he (Nat.not_lt_zero e)⟩⟩ (fun j q hj h => by
    obtain ⟨x4, x5, x6⟩ := q
    obtain ⟨h1, h2⟩ := h
    have h1 : x6 = nI j := h1
    subst h1
    try dsimp only at h2 ⊢
    have hcs := csX_le (x := x) hI hj
    unfold X_cheapestToMeet_L9 X_cheapestToMeet_J42 X_cheapestToMeet_J43
    rw [if_neg (by rw [n_10]; try simp (disch := omega) only [↓m_1, n_0, n_1, n_2, n_3, n_4, n_5, n_6, n_7, n_8, n_9, n_10, n_16, n_20, n_24, n_31, n_32, n_48, n_52, n_57, n_59, n_60, n_64, n_100, n_1024, nI_add, pk_mul, pk_sub, leI_t, leI_f, ltI_t, ltI_f, eqI_t, eqI_f, geM_t, eqM_f, eqM_g, ltM_f, ltM_t, leM_f, inb_nI, ix_nI, chk_tt, bnd_ss, up_ne, up_self, up_oth, if_true, if_false, reduceCtorEq, Nat.succ_ne_zero]; exact fun g => g), shr_t (by omega) (by omega), anyBusy_t hI hx hj, bnd_ss, cost_t hI hO hx hj, bnd_ss, nI_1]
    by_cases a : avl g (bmk T x 5) j
    · rw [if_neg a.1, if_pos (show nI 0 = 0 from rfl), if_neg a.2, if_pos rfl, if_neg n10]
      rcases h2 with ⟨c1, c2⟩ | ⟨c, c1, c2, c3, c4, c5⟩
      · rw [c1, if_pos (show mI = -1 from rfl)]
        refine ⟨_, rfl, rfl, Or.inr ⟨j, by omega, a, rfl, rfl, fun e he ha => ?_⟩⟩
        by_cases hej : e = j
        · rw [hej]; exact Or.inr ⟨rfl, Nat.le_refl _⟩
        · exact absurd ha (c2 e (by omega))
      · have hcs2 := csX_le (x := x) hI (show c < 10 by omega)
        rw [c3, c4, if_neg (by rw [m_1]; try simp (disch := omega) only [↓m_1, n_0, n_1, n_2, n_3, n_4, n_5, n_6, n_7, n_8, n_9, n_10, n_16, n_20, n_24, n_31, n_32, n_48, n_52, n_57, n_59, n_60, n_64, n_100, n_1024, nI_add, pk_mul, pk_sub, leI_t, leI_f, ltI_t, ltI_f, eqI_t, eqI_f, geM_t, eqM_f, eqM_g, ltM_f, ltM_t, leM_f, inb_nI, ix_nI, chk_tt, bnd_ss, up_ne, up_self, up_oth, if_true, if_false, reduceCtorEq, Nat.succ_ne_zero]; exact fun g => g)]
        by_cases le : csX T x c ≤ csX T x j
        · rw [if_pos ((nI_leI (by omega) (by omega)).mpr le)]
          refine ⟨_, rfl, rfl, Or.inr ⟨c, by omega, c2, rfl, rfl, fun e he ha => ?_⟩⟩
          by_cases hej : e = j
          · rw [hej]; omega
          · exact c5 e (by omega) ha
        · rw [if_neg (fun q => le ((nI_leI (by omega) (by omega)).mp q))]
          refine ⟨_, rfl, rfl, Or.inr ⟨j, by omega, a, rfl, rfl, fun e he ha => ?_⟩⟩
          by_cases hej : e = j
          · rw [hej]; exact Or.inr ⟨rfl, Nat.le_refl _⟩
          · have := c5 e (by omega) ha
            omega
    · have hsame : ∃ r, some ((x4, x5, nI (j + 1)), 0) = some (r, 0) ∧ r.2.2 = nI (j + 1) ∧ ((r.1 = mI ∧ ∀ e, e < j + 1 → ¬ avl g (bmk T x 5) e) ∨ ∃ c, c < j + 1 ∧ avl g (bmk T x 5) c ∧ r.1 = nI c ∧ r.2.1 = nI (csX T x c) ∧ ∀ e, e < j + 1 → avl g (bmk T x 5) e → csX T x c < csX T x e ∨ (csX T x c = csX T x e ∧ c ≤ e)) := by
        refine ⟨_, rfl, rfl, ?_⟩
        rcases h2 with ⟨c1, c2⟩ | ⟨c, c1, c2, c3, c4, c5⟩
        · refine Or.inl ⟨c1, fun e he ha => ?_⟩
          by_cases hej : e = j
          · rw [hej] at ha; exact a ha
          · exact c2 e (by omega) ha
        · refine Or.inr ⟨c, by omega, c2, c3, c4, fun e he ha => ?_⟩
          by_cases hej : e = j
          · rw [hej] at ha; exact absurd ha a
          · exact c5 e (by omega) ha
      by_cases a1 : g.testBit j = true
      · rw [if_pos a1, if_neg (show ¬ nI 1 = 0 by decide), if_pos rfl]
        exact hsame
      · have a2 : (bmk T x 5).testBit j = true := Classical.byContradiction fun q => a ⟨a1, q⟩
        rw [if_neg a1, if_pos (show nI 0 = 0 from rfl), if_pos a2, if_neg n10, if_pos rfl]
        exact hsame) (fun q h => by
    obtain ⟨x4, x5, x6⟩ := q
    obtain ⟨h1, h2⟩ := h
    have h1 : x6 = nI 10 := h1
    subst h1
    try dsimp only
    unfold X_cheapestToMeet_L9
    rw [if_pos (by decide)])
  unfold X_cheapestToMeet X_cheapestToMeet_J90
  rw [hq, bnd_ss]
  refine ⟨_, rfl, ?_⟩
  rcases h2 with ⟨c1, c2⟩ | ⟨c, c1, c2, c3, c4, c5⟩
  · exact Or.inl ⟨c1, c2⟩
  · exact Or.inr ⟨c, c1, c2, c3, c5⟩
noncomputable def mtX (S : St) (x k : Nat) (x3 : Int32) : Int32 := if mtB (csX S x) (bmk S x 5) k 1024 = 0 then -1 else if x3 = 0 then nI (msm (csX S x) (mtB (csX S x) (bmk S x 5) k 1024 - 1)) else nI (mtB (csX S x) (bmk S x 5) k 1024 - 1)
theorem xMeet {w : gw} {S T : St} {i x k : Nat} (hT : X_judgedOutcome S = some T) (hI : Inv w T i) (hO : OcOK T) (hx : 1 ≤ x ∧ x < 32) (hk : 1 ≤ k ∧ k ≤ 4) {x3 : Int32} (h3 : sm x3 1) : X_meet S (nI x) (nI k) x3 = some (mtX T x k x3, T) := by
  unfold X_meet
  rw [if_neg (by rw [n_1, n_31, xw_n (by omega) (by omega) (by omega), if_pos (by omega)]; exact n10), if_neg (by rw [n_1, n_4, xw_n (by omega) (by omega) (by omega), if_pos (by omega)]; exact n10), if_neg (by rw [show X_within x3 0 1 = 1 from xw_t h3 (by decide)]; exact n10), hT, bnd_ss]
  obtain ⟨r, hr, hP⟩ := lp_inv (st := fun q : Int32 × Int32 × Int32 => X_meet_L46 T (nI x) (nI k) x3 q.1 q.2.1 q.2.2) (fun j q => j ≤ k ∧ q.2.2 = nI j ∧ ∃ g, g < 1024 ∧ q.2.1 = nI g ∧ q.1 = nI (msm (csX T x) g) ∧ pcN g = j ∧ g &&& bmk T x 5 = 0 ∧ ∀ X, X < 1024 → pcN X = j → X &&& bmk T x 5 = 0 → wgt (csX T x) g ≤ wgt (csX T x) X) k (fun r => (r.2 = 1 ∧ mtB (csX T x) (bmk T x 5) k 1024 = 0) ∨ (r.2 = 2 ∧ ∃ g, mtB (csX T x) (bmk T x 5) k 1024 = g + 1 ∧ r.1.1 = nI (msm (csX T x) g) ∧ r.1.2.1 = nI g)) (by omega) (fun j q h => by
    obtain ⟨x5, x6, x7⟩ := q
    obtain ⟨hjk, h1, g, g1, g2, g3, g4, g5, g6⟩ := h
    have h1 : x7 = nI j := h1
    have g2 : x6 = nI g := g2
    have g3 : x5 = nI (msm (csX T x) g) := g3
    subst h1
    subst g2
    subst g3
    try dsimp only
    unfold X_meet_L46
    by_cases hj : j = k
    · subst hj
      rw [if_pos (nI_le (Nat.le_refl _) (by omega))]
      exact ⟨_, rfl, Or.inr ⟨Nat.succ_ne_zero _, Or.inr ⟨rfl, g, mtB_of g1 g4 g5 g6, rfl, rfl⟩⟩⟩
    · rw [if_neg (fun q => hj (by rw [nI_leI (by omega) (by omega)] at q; omega))]
      obtain ⟨r, hr, hc⟩ := cheapest_t hI hO hx.2 g1
      rw [hr, bnd_ss]
      rcases hc with ⟨c1, c2⟩ | ⟨c, c1, c2, c3, c4⟩
      · rw [c1, if_pos (show mI = -1 from rfl)]
        refine ⟨_, rfl, Or.inr ⟨Nat.succ_ne_zero _, Or.inl ⟨rfl, ?_⟩⟩⟩
        refine Classical.byContradiction fun b0 => ?_
        obtain ⟨j1, ⟨j2, j3⟩, j4⟩ := (mtB_spec (csX T x) (bmk T x 5) k 1024).2 b0
        obtain ⟨e, e1, e2, e3⟩ := more_el (X := mtB (csX T x) (bmk T x 5) k 1024 - 1) (g := g) (by omega)
        exact c2 e e1 ⟨e3, dsj j3 e2⟩
      · rw [c3, if_neg (by rw [m_1]; try simp (disch := omega) only [↓m_1, n_0, n_1, n_2, n_3, n_4, n_5, n_6, n_7, n_8, n_9, n_10, n_16, n_20, n_24, n_31, n_32, n_48, n_52, n_57, n_59, n_60, n_64, n_100, n_1024, nI_add, pk_mul, pk_sub, leI_t, leI_f, ltI_t, ltI_f, eqI_t, eqI_f, geM_t, eqM_f, eqM_g, ltM_f, ltM_t, leM_f, inb_nI, ix_nI, chk_tt, bnd_ss, up_ne, up_self, up_oth, if_true, if_false, reduceCtorEq, Nat.succ_ne_zero]; exact fun g => g), cost_t hI hO hx.2 c1, bnd_ss, show (1 : Int32) <<< (nI c &&& 31) = nI (2 ^ c) from shl_nI (by omega), or_nI, nI_add, nI_1]
        obtain ⟨s1, s2, s3, s4, s5⟩ := greedy_step g1 c1 c2.1 c2.2 g4 g5 (fun e he a b => c4 e he ⟨a, b⟩) g6
        exact ⟨_, rfl, Or.inl ⟨rfl, by omega, by omega, rfl, _, s1, rfl, by rw [s4], s2, s3, s5⟩⟩) (q0 := (0, 0, 0)) ⟨by omega, rfl, 0, by omega, rfl, rfl, rfl, Nat.zero_and _, fun X hX hp hd => by
      have : wgt (csX T x) 0 = 0 := by rw [wgt_eq (by omega)]; rfl
      omega⟩
  rw [hr, bnd_ss]
  unfold mtX X_meet_J69 X_meet_J103
  rcases hP with ⟨p1, p2⟩ | ⟨p1, g, p2, p3, p4⟩
  · rw [p1, if_pos rfl, if_pos p2]
  · rw [p1, if_neg (by decide), p2, if_neg (Nat.succ_ne_zero g), Nat.add_sub_cancel, p3, p4]
    split <;> rfl
theorem and_nI (a b : Nat) : nI a &&& nI b = nI (a &&& b) := by
  apply Int32.toBitVec_inj.mp
  show BitVec.ofNat 32 a &&& BitVec.ofNat 32 b = BitVec.ofNat 32 (a &&& b)
  exact BitVec.ofNat_and.symm
theorem msm_le {w : gw} {S : St} {i x X : Nat} (h : Inv w S i) : msm (csX S x) X ≤ 1190 := by
  have := smE_bd (f := fun e => if X.testBit e = true then csX S x e else 0) (m := 119) 10 (fun e he => by
    try dsimp only
    split
    · exact csX_le h he
    · omega)
  exact this
theorem mBusy_t {w : gw} {T U : St} {i x : Nat} (hI : Inv w T i) (h63 : U 63 = T 63) (hx : x < 32) (x2 x3 : Int32) : lp (σ := Int32 × Int32) (fun q => M_meetOf_L6 U (nI x) x2 x3 q.1 q.2) FZ (0, 0) = some ((nI (bmk T x 5), nI 5), 1) := by
  refine lp_1 (fun j => (nI (bmk T x j), nI j)) 5 rfl ?_ ?_ (by decide)
  · intro j hj
    try dsimp only
    have hb := (Inv_bz hI hj).1
    unfold M_meetOf_L6
    rw [if_neg (by rw [n_5]; try simp (disch := omega) only [↓m_1, n_0, n_1, n_2, n_3, n_4, n_5, n_6, n_7, n_8, n_9, n_10, n_16, n_20, n_24, n_31, n_32, n_48, n_52, n_57, n_59, n_60, n_64, n_100, n_1024, nI_add, pk_mul, pk_sub, leI_t, leI_f, ltI_t, ltI_f, eqI_t, eqI_f, geM_t, eqM_f, eqM_g, ltM_f, ltM_t, leM_f, inb_nI, ix_nI, chk_tt, bnd_ss, up_ne, up_self, up_oth, if_true, if_false, reduceCtorEq, Nat.succ_ne_zero]; exact fun g => g), isIn_t (by omega) (by omega), chk_t (inb_nI hj (by decide)), ix_nI (by omega), h63, nI_1]
    show _ = some ((nI (if x.testBit j = true then bmk T x j ||| ix (T 63 j) else bmk T x j), nI (j + 1)), 0)
    by_cases c : x.testBit j = true
    · rw [if_pos c, if_neg (show ¬ nI 1 = 0 by decide), if_pos c, ← or_nI, ← hb]
    · rw [if_neg c, if_pos (show nI 0 = 0 from rfl), if_neg c, n_0, or_nI, Nat.or_zero]
  · try dsimp only
    unfold M_meetOf_L6
    rw [if_pos (by decide)]
theorem meetOf_t {w : gw} {T U : St} {i x k : Nat} (hI : Inv w T i) (hJ : JM (tX T) (nX T) U (lX T)) (h60 : U 60 = T 60) (h62 : U 62 = T 62) (h63 : U 63 = T 63) (hx : x < 32) (hk : k ≤ 4) {x3 : Int32} (h3 : sm x3 1) : M_meetOf U (nI x) (nI k) x3 = some (mtX T x k x3) := by
  unfold M_meetOf
  rw [mBusy_t hI h63 hx, bnd_ss]
  try dsimp only
  unfold M_meetOf_J43
  have hbm := bmk_lt (x := x) hI 5 (Nat.le_refl _)
  have hB1024 : ∀ m, m ≤ 1024 → mtB (csX T x) (bmk T x 5) k m ≤ m := fun m hm => by
    by_cases b0 : mtB (csX T x) (bmk T x 5) k m = 0
    · omega
    · exact ((mtB_spec (csX T x) (bmk T x 5) k m).2 b0).1
  have hl : lp (σ := Int32 × Int32 × Int32) (fun q => M_meetOf_L52 U (nI x) (nI k) x3 (nI (bmk T x 5)) q.1 q.2.1 q.2.2) FZ (-1, 0, 0) = some ((if mtB (csX T x) (bmk T x 5) k 1024 = 0 then -1 else nI (mtB (csX T x) (bmk T x 5) k 1024 - 1), if mtB (csX T x) (bmk T x 5) k 1024 = 0 then 0 else nI (msm (csX T x) (mtB (csX T x) (bmk T x 5) k 1024 - 1)), nI 1024), 1) := by
    refine lp_1 (fun m => (if mtB (csX T x) (bmk T x 5) k m = 0 then -1 else nI (mtB (csX T x) (bmk T x 5) k m - 1), if mtB (csX T x) (bmk T x 5) k m = 0 then 0 else nI (msm (csX T x) (mtB (csX T x) (bmk T x 5) k m - 1)), nI m)) 1024 rfl ?_ ?_ (by decide)
    · intro m hm
      try dsimp only
      have hBm := hB1024 m (by omega)
      have hp10 : pcN m ≤ 10 := by
        have := smE_bd (f := fun e => if m.testBit e = true then 1 else 0) (m := 1) 10 (fun e _ => by (try dsimp only); split <;> omega)
        exact this
      unfold M_meetOf_L52
      rw [if_neg (by rw [n_1024]; try simp (disch := omega) only [↓m_1, n_0, n_1, n_2, n_3, n_4, n_5, n_6, n_7, n_8, n_9, n_10, n_16, n_20, n_24, n_31, n_32, n_48, n_52, n_57, n_59, n_60, n_64, n_100, n_1024, nI_add, pk_mul, pk_sub, leI_t, leI_f, ltI_t, ltI_f, eqI_t, eqI_f, geM_t, eqM_f, eqM_g, ltM_f, ltM_t, leM_f, inb_nI, ix_nI, chk_tt, bnd_ss, up_ne, up_self, up_oth, if_true, if_false, reduceCtorEq, Nat.succ_ne_zero]; exact fun g => g), ones_t hm, bnd_ss, and_nI]
      have hin : ∀ a b c : Int32, lp (σ := Int32 × Int32) (fun q => M_meetOf_L83 U (nI x) a b c (if mtB (csX T x) (bmk T x 5) k m = 0 then -1 else nI (mtB (csX T x) (bmk T x 5) k m - 1)) (if mtB (csX T x) (bmk T x 5) k m = 0 then 0 else nI (msm (csX T x) (mtB (csX T x) (bmk T x 5) k m - 1))) (nI m) q.1 q.2) FZ (0, 0) = some ((nI (msm (csX T x) m), nI 10), 1) := by
        intro a b c
        refine lp_1 (fun j => (nI (smE (fun e => if m.testBit e = true then csX T x e else 0) j), nI j)) 10 rfl ?_ ?_ (by decide)
        · intro j hj
          try dsimp only
          unfold M_meetOf_L83
          rw [if_neg (by rw [n_10]; try simp (disch := omega) only [↓m_1, n_0, n_1, n_2, n_3, n_4, n_5, n_6, n_7, n_8, n_9, n_10, n_16, n_20, n_24, n_31, n_32, n_48, n_52, n_57, n_59, n_60, n_64, n_100, n_1024, nI_add, pk_mul, pk_sub, leI_t, leI_f, ltI_t, ltI_f, eqI_t, eqI_f, geM_t, eqM_f, eqM_g, ltM_f, ltM_t, leM_f, inb_nI, ix_nI, chk_tt, bnd_ss, up_ne, up_self, up_oth, if_true, if_false, reduceCtorEq, Nat.succ_ne_zero]; exact fun g => g), isIn_t (by omega) (by omega), buying_t hI hJ h60 h62 hx hj, bnd_ss, nI_1]
          show _ = some ((nI (smE (fun e => if m.testBit e = true then csX T x e else 0) j + (if m.testBit j = true then csX T x j else 0)), nI (j + 1)), 0)
          by_cases c : m.testBit j = true
          · rw [if_pos c, if_neg (show ¬ nI 1 = 0 by decide), if_pos c, nI_add]
          · rw [if_neg c, if_pos (show nI 0 = 0 from rfl), if_neg c, n_0, nI_add]
        · try dsimp only
          unfold M_meetOf_L83
          rw [if_pos (by decide)]
          rfl
      rw [hin, bnd_ss]
      try dsimp only
      unfold M_meetOf_J122
      rw [nI_1]
      have e : mtB (csX T x) (bmk T x 5) k (m + 1) = if pcN m = k ∧ m &&& bmk T x 5 = 0 then (if mtB (csX T x) (bmk T x 5) k m = 0 then m + 1 else if msm (csX T x) (mtB (csX T x) (bmk T x 5) k m - 1) ≤ msm (csX T x) m then mtB (csX T x) (bmk T x 5) k m else m + 1) else mtB (csX T x) (bmk T x 5) k m := rfl
      rw [e]
      have hc1 := msm_le (x := x) (X := m) hI
      have hc2 := msm_le (x := x) (X := mtB (csX T x) (bmk T x 5) k m - 1) hI
      generalize mtB (csX T x) (bmk T x 5) k m = B at hBm hc2 ⊢
      by_cases f1 : pcN m = k
      · rw [if_pos (by rw [f1])]
        by_cases f2 : m &&& bmk T x 5 = 0
        · rw [if_pos (show nI (m &&& bmk T x 5) = 0 by rw [f2]; rfl), if_pos (show pcN m = k ∧ m &&& bmk T x 5 = 0 from ⟨f1, f2⟩)]
          by_cases b0 : B = 0
          · rw [if_pos b0, if_pos rfl, if_pos b0, if_neg (Nat.succ_ne_zero m), if_neg (Nat.succ_ne_zero m), Nat.add_sub_cancel]
          · rw [if_neg b0, if_neg (by rw [m_1]; try simp (disch := omega) only [↓m_1, n_0, n_1, n_2, n_3, n_4, n_5, n_6, n_7, n_8, n_9, n_10, n_16, n_20, n_24, n_31, n_32, n_48, n_52, n_57, n_59, n_60, n_64, n_100, n_1024, nI_add, pk_mul, pk_sub, leI_t, leI_f, ltI_t, ltI_f, eqI_t, eqI_f, geM_t, eqM_f, eqM_g, ltM_f, ltM_t, leM_f, inb_nI, ix_nI, chk_tt, bnd_ss, up_ne, up_self, up_oth, if_true, if_false, reduceCtorEq, Nat.succ_ne_zero]; exact fun g => g), if_neg b0, if_neg b0]
            by_cases le : msm (csX T x) (B - 1) ≤ msm (csX T x) m
            · rw [if_pos ((nI_leI (by omega) (by omega)).mpr le), if_pos le, if_neg b0, if_neg b0]
            · rw [if_neg (fun q => le ((nI_leI (by omega) (by omega)).mp q)), if_neg le, if_neg (Nat.succ_ne_zero m), if_neg (Nat.succ_ne_zero m), Nat.add_sub_cancel]
        · have hle : m &&& bmk T x 5 ≤ m := Nat.and_le_left
          rw [if_neg (nI_ne0 (by omega) (by omega)), if_neg (show ¬ (pcN m = k ∧ m &&& bmk T x 5 = 0) from fun q => f2 q.2)]
      · rw [if_neg (by rw [nI_eq (by omega) (by omega)]; exact f1), if_neg (show ¬ (pcN m = k ∧ m &&& bmk T x 5 = 0) from fun q => f1 q.1)]
    · try dsimp only
      unfold M_meetOf_L52
      rw [if_pos (by decide)]
  rw [hl, bnd_ss]
  try dsimp only
  unfold M_meetOf_J149 mtX
  have hB := hB1024 1024 (Nat.le_refl _)
  generalize mtB (csX T x) (bmk T x 5) k 1024 = B at hB ⊢
  by_cases b0 : B = 0
  · rw [if_pos b0, if_pos rfl, if_pos b0]
  · rw [if_neg b0, if_neg (by rw [m_1]; try simp (disch := omega) only [↓m_1, n_0, n_1, n_2, n_3, n_4, n_5, n_6, n_7, n_8, n_9, n_10, n_16, n_20, n_24, n_31, n_32, n_48, n_52, n_57, n_59, n_60, n_64, n_100, n_1024, nI_add, pk_mul, pk_sub, leI_t, leI_f, ltI_t, ltI_f, eqI_t, eqI_f, geM_t, eqM_f, eqM_g, ltM_f, ltM_t, leM_f, inb_nI, ix_nI, chk_tt, bnd_ss, up_ne, up_self, up_oth, if_true, if_false, reduceCtorEq, Nat.succ_ne_zero]; exact fun g => g), if_neg b0, if_neg b0]
    obtain ⟨v, hv, rfl⟩ := h3
    match v, hv with
    | 0, _ => rw [if_neg (show ¬ nI 0 = 1 by decide), if_pos (show nI 0 = 0 from rfl)]
    | 1, _ => rw [if_pos (show nI 1 = 1 from rfl), if_neg (show ¬ nI 1 = 0 by decide)]
    | v + 2, hv => exact absurd hv (by omega)
/-- a number of 1 to hi, or not -/
theorem one_in {x : Int32} {hi : Nat} (hh : hi < 2147483648) : ((∃ k, (1 ≤ k ∧ k ≤ hi) ∧ x = nI k) → X_within x 1 (nI hi) = 1 ∧ M_in x.toInt64 1 (lN hi) = 1) ∧ (¬ (∃ k, (1 ≤ k ∧ k ≤ hi) ∧ x = nI k) → X_within x 1 (nI hi) = 0 ∧ M_in x.toInt64 1 (lN hi) = 0) := by
  have key : (1 ≤ x.toInt ∧ x.toInt ≤ hi) ↔ ∃ k, (1 ≤ k ∧ k ≤ hi) ∧ x = nI k := by
    constructor
    · rintro ⟨h1, h2⟩
      have h0 : ¬ x < 0 := fun g => by
        rw [Int32.lt_iff_toInt_lt] at g
        have e : (0 : Int32).toInt = 0 := rfl
        omega
      obtain ⟨j, hj, rfl⟩ := nI_of h0
      rw [nI_toInt hj] at h1 h2
      exact ⟨j, ⟨by omega, by omega⟩, rfl⟩
    · rintro ⟨k, ⟨h1, h2⟩, rfl⟩
      rw [nI_toInt (by omega)]
      omega
  have e1 : (1 : Int32).toInt = 1 := rfl
  have e2 : (1 : Int64).toInt = 1 := rfl
  constructor
  · intro c
    have := key.mpr c
    refine ⟨?_, ?_⟩
    · unfold X_within
      rw [if_neg, if_neg]
      · rw [Int32.lt_iff_toInt_lt, nI_toInt (by omega)]; omega
      · rw [Int32.lt_iff_toInt_lt]; omega
    · rw [mi_iff, if_pos]
      rw [Int64.le_iff_toInt_le, Int64.le_iff_toInt_le, wide_toInt, lN_toInt (by omega)]
      omega
  · intro c
    refine ⟨?_, ?_⟩
    · unfold X_within
      by_cases c2 : x < 1
      · rw [if_pos c2]
      · rw [if_neg c2, if_pos]
        rw [Int32.lt_iff_toInt_lt, nI_toInt (by omega)]
        rw [Int32.lt_iff_toInt_lt] at c2
        exact Classical.byContradiction fun q => c (key.mp (by omega))
    · rw [mi_iff, if_neg]
      rw [Int64.le_iff_toInt_le, Int64.le_iff_toInt_le, wide_toInt, lN_toInt (by omega)]
      intro q
      exact c (key.mp (by omega))
theorem op_meet {w : gw} {S : St} {i : Nat} (h : Inv w S i) (hi : i < 512) (a1 : Int32) (a2 : Int32) (a3 : Int32) : ∃ z1 z2, X_meet S a1 a2 a3 = some z1 ∧ M_meet z1.2 a1 a2 a3 = some z2 ∧ z1.1 = z2.1 ∧ Inv w z2.2 (i + 1) := by
  obtain ⟨p1, q1⟩ := one_in (x := a1) (hi := 31) (by decide)
  obtain ⟨p2, q2⟩ := one_in (x := a2) (hi := 4) (by decide)
  have hbad : (¬ (∃ k, (1 ≤ k ∧ k ≤ 31) ∧ a1 = nI k) ∨ ¬ (∃ k, (1 ≤ k ∧ k ≤ 4) ∧ a2 = nI k) ∨ ¬ sm a3 1) → ∃ z1 z2, X_meet S a1 a2 a3 = some z1 ∧ M_meet z1.2 a1 a2 a3 = some z2 ∧ z1.1 = z2.1 ∧ Inv w z2.2 (i + 1) := by
    intro hb
    obtain ⟨U, hU, hI, -⟩ := MF h
    refine ⟨(-2, S), (-2, U), ?_, ?_, rfl, Inv_next hI⟩
    · unfold X_meet
      by_cases g1 : X_within a1 1 31 = 0
      · rw [if_pos g1]
      · rw [if_neg g1]
        by_cases g2 : X_within a2 1 4 = 0
        · rw [if_pos g2]
        · rw [if_neg g2, if_pos]
          rcases hb with hb | hb | hb
          · exact absurd (q1 hb).1 g1
          · exact absurd (q2 hb).1 g2
          · exact xw_f hb (by decide)
    · show M_meet S _ _ _ = _
      unfold M_meet M_isTwo
      rw [hU, bnd_ss]
      by_cases g1 : M_in a1.toInt64 1 31 = 0
      · rw [if_pos g1]
      · rw [if_neg g1]
        by_cases g2 : M_in a2.toInt64 1 4 = 0
        · rw [if_pos g2]
        · rw [if_neg g2, if_pos]
          rcases hb with hb | hb | hb
          · exact absurd (q1 hb).2 g1
          · exact absurd (q2 hb).2 g2
          · exact mi_f hb (by decide)
  by_cases h1 : ∃ k, (1 ≤ k ∧ k ≤ 31) ∧ a1 = nI k
  · by_cases h2 : ∃ k, (1 ≤ k ∧ k ≤ 4) ∧ a2 = nI k
    · rcases sm_or a3 1 with h3 | h3
      · have m1 : M_in a1.toInt64 1 31 = 1 := (p1 h1).2
        have m2 : M_in a2.toInt64 1 4 = 1 := (p2 h2).2
        obtain ⟨x, hx, rfl⟩ := h1
        obtain ⟨k, hk, rfl⟩ := h2
        obtain ⟨T, U, hT, hU, hI, hI2, hO, hM⟩ := XMf h hi
        refine ⟨_, (mtX T x k a3, U), xMeet hT hI hO ⟨hx.1, by omega⟩ hk h3, ?_, rfl, hI2⟩
        show M_meet T _ _ _ = _
        unfold M_meet M_isTwo
        rw [hU, bnd_ss, m1, m2, if_neg n10, if_neg n10, if_neg (by rw [show M_in a3.toInt64 0 1 = 1 from mi_t h3 (by decide)]; exact n10), meetOf_t hI hM.2.2.1 (hM.1.1 60 (by decide) (by decide) (by decide) (by decide)) (hM.1.1 62 (by decide) (by decide) (by decide) (by decide)) (hM.1.1 63 (by decide) (by decide) (by decide) (by decide)) (by omega) hk.2 h3, bnd_ss]
      · exact hbad (Or.inr (Or.inr h3))
    · exact hbad (Or.inr (Or.inl h2))
  · exact hbad (Or.inl h1)
