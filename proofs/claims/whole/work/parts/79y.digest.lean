/-! ===== digest ===== -/
noncomputable def dC (S : St) : Nat → Int64
  | 0 => 17
  | j + 1 => (31 * dC S j) + (ctX S (nI j)).toInt64
noncomputable def dB (S : St) (h : Int64) : Nat → Int64
  | 0 => h
  | k + 1 => (31 * ((31 * dB S h k) + (hoX S k).toInt64)) + (wiX S k).toInt64
noncomputable def dQ (S : St) (h : Int64) (e : Nat) : Int64 := (31 * ((31 * ((31 * ((31 * h) + (ldX (tX S) (lX S) e).toInt64)) + (pcX S e).toInt64)) + (hrX S e).toInt64)) + (nI (whX S e)).toInt64
noncomputable def dW (S : St) (e : Nat) (h : Int64) : Nat → Int64
  | 0 => h
  | j + 1 => (31 * dW S e h j) + woX S 1 e (nI j)
noncomputable def dV (S : St) (h : Int64) : Nat → Int64
  | 0 => h
  | e + 1 => dW S e (dQ S (dV S h e) e) 2
noncomputable def dH (S : St) (b : Nat) (h : Int64) : Nat → Int64
  | 0 => h
  | j + 1 => (31 * dH S b h j) + (hsX S b (nI j)).toInt64
noncomputable def dP (S : St) (b : Nat) (h : Int64) : Int64 := (31 * ((31 * ((31 * ((31 * ((31 * h) + (hpX S b).toInt64)) + (wtX S b 7).toInt64)) + (gnX S b).toInt64)) + (eaX (vR (S 58)) b).toInt64)) + (paX (vR (S 58)) b).toInt64
noncomputable def dR (S : St) (b : Nat) (h : Int64) : Nat → Int64
  | 0 => h
  | j + 1 => (31 * dR S b h j) + srX S b (nI j)
noncomputable def dD (S : St) (h : Int64) : Nat → Int64
  | 0 => h
  | b + 1 => dR S b (dP S b (dH S b (dD S h b) 3)) 2
noncomputable def dF (S : St) (h : Int64) : Int64 := (31 * ((31 * ((31 * ((31 * ((31 * ((31 * h) + (nI (mo (vR (S 58)) 5 5 0)).toInt64)) + (mtX S 3 2 0).toInt64)) + (mtX S 3 2 1).toInt64)) + (nI (cw (vR (S 58)) (rX S) 31)).toInt64)) + (nI (wyX S)).toInt64)) + (swX S 0 1).toInt64
noncomputable def dgX (S : St) : Int64 := dF S (dD S (dV S (dB S ((31 * ((31 * dC S 8) + (flt (tX S) (nX S)).toInt64)) + (fjX S).toInt64) (NX S)) 10) 5)
/-! the class -/
theorem xdC {w : gw} {S T : St} {i : Nat} (h : GX w S i T) (hi : i < 513) : ∃ V a, lp (σ := Int64 × Int32 × St) (fun q => X_digest_L6 q.2.2 q.1 q.2.1) FZ (17, 0, T) = some ((dC S 8, a, V), 1) ∧ GX w S i V := by
  obtain ⟨q, hq, h1, h2, h3⟩ := lp_cnt (st := fun q : Int64 × Int32 × St => X_digest_L6 q.2.2 q.1 q.2.1) (fun j q => q.1 = dC S j ∧ q.2.1 = nI j ∧ GX w S i q.2.2) 8 (by decide) (q0 := (17, 0, T)) ⟨rfl, rfl, h⟩ (fun j q hj hq => by
    obtain ⟨x, y, Z⟩ := q
    obtain ⟨h1, h2, h3⟩ := hq
    have h1 : x = dC S j := h1
    have h2 : y = nI j := h2
    subst h1
    subst h2
    obtain ⟨V, hV, hG⟩ := G_count h3 hi (nI j)
    try dsimp only
    unfold X_digest_L6
    rw [if_neg (by rw [n_7]; exact nI_nlt (by omega) (by omega)), hV, bnd_ss, nI_1]
    exact ⟨_, rfl, rfl, rfl, hG⟩) (fun q hq => by
    obtain ⟨x, y, Z⟩ := q
    obtain ⟨h1, h2, h3⟩ := hq
    have h2 : y = nI 8 := h2
    subst h2
    try dsimp only
    unfold X_digest_L6
    rw [if_pos (by decide)])
  obtain ⟨x, y, V⟩ := q
  have h1 : x = dC S 8 := h1
  subst h1
  exact ⟨V, y, hq, h3⟩
theorem xdB {w : gw} {S T : St} {i : Nat} (h : GX w S i T) (hi : i < 513) (x0 : Int64) : ∃ V, X_digestOfBids T x0 = some (dB S x0 (NX S), V) ∧ GX w S i V := by
  have hN : NX S ≤ 20 := by rw [← K_N h.2]; exact nb_le (Inv_tx h.1).1
  obtain ⟨V0, hV0, hG0⟩ := G_count h hi 0
  have e0 : ctX S 0 = nI (NX S) := if_pos rfl
  unfold X_digestOfBids X_digestOfBids_J54
  rw [hV0, bnd_ss, e0]
  obtain ⟨q, hq, h1, h2, h3⟩ := lp_cnt (st := fun q : Int64 × Int32 × St => X_digestOfBids_L12 q.2.2 q.1 (nI (NX S)) q.2.1) (fun j q => q.1 = dB S x0 j ∧ q.2.1 = nI j ∧ GX w S i q.2.2) (NX S) (by omega) (q0 := (x0, 0, V0)) ⟨rfl, rfl, hG0⟩ (fun j q hj hq => by
    obtain ⟨x, y, Z⟩ := q
    obtain ⟨h1, h2, h3⟩ := hq
    have h1 : x = dB S x0 j := h1
    have h2 : y = nI j := h2
    subst h1
    subst h2
    obtain ⟨V, hV, hG⟩ := G_holds h3 hi hj
    obtain ⟨V', hV', hG'⟩ := G_without hG hi hj
    try dsimp only
    unfold X_digestOfBids_L12
    rw [if_neg (nI_ge hj (by omega)), hV, bnd_ss]
    try dsimp only
    rw [hV', bnd_ss, nI_1]
    exact ⟨_, rfl, rfl, rfl, hG'⟩) (fun q hq => by
    obtain ⟨x, y, Z⟩ := q
    obtain ⟨h1, h2, h3⟩ := hq
    have h2 : y = nI (NX S) := h2
    subst h2
    try dsimp only
    unfold X_digestOfBids_L12
    rw [if_pos (nI_le (Nat.le_refl _) (by omega))])
  obtain ⟨x, y, V⟩ := q
  have h1 : x = dB S x0 (NX S) := h1
  subst h1
  rw [hq, bnd_ss]
  exact ⟨V, rfl, h3⟩
theorem sm1_0 : sm 0 1 := ⟨0, by omega, rfl⟩
theorem sm1_1 : sm 1 1 := ⟨1, by omega, rfl⟩
theorem xdV {w : gw} {S T : St} {i : Nat} (h : GX w S i T) (hi : i < 513) (x0 : Int64) : ∃ V, X_digestOfEvenings T x0 = some (dV S x0 10, V) ∧ GX w S i V := by
  unfold X_digestOfEvenings X_digestOfEvenings_J104
  obtain ⟨q, hq, h1, h2, h3⟩ := lp_cnt (st := fun q : Int64 × Int32 × St => X_digestOfEvenings_L5 q.2.2 q.1 q.2.1) (fun j q => q.1 = dV S x0 j ∧ q.2.1 = nI j ∧ GX w S i q.2.2) 10 (by decide) (q0 := (x0, 0, T)) ⟨rfl, rfl, h⟩ (fun j q hj hq => by
    obtain ⟨x, y, Z⟩ := q
    obtain ⟨h1, h2, h3⟩ := hq
    have h1 : x = dV S x0 j := h1
    have h2 : y = nI j := h2
    subst h1
    subst h2
    obtain ⟨V1, e1, k1⟩ := G_owner h3 hi hj
    obtain ⟨V2, e2, k2⟩ := G_price k1 hi hj
    obtain ⟨V3, e3, k3⟩ := G_harm k2 hi hj
    obtain ⟨V4, e4, k4⟩ := G_owners k3 hj
    have e5 := G_worth (x := 0) k4 (show 1 < 5 by omega) hj sm1_0
    have e6 := G_worth (x := 1) k4 (show 1 < 5 by omega) hj sm1_1
    have e5 : X_worth V4 1 (nI j) 0 = some (woX S 1 j 0) := e5
    have e6 : X_worth V4 1 (nI j) 1 = some (woX S 1 j 1) := e6
    try dsimp only
    unfold X_digestOfEvenings_L5
    rw [if_neg (by rw [n_10]; try simp (disch := omega) only [↓m_1, n_0, n_1, n_2, n_3, n_4, n_5, n_6, n_7, n_8, n_9, n_10, n_16, n_20, n_24, n_31, n_32, n_48, n_52, n_57, n_59, n_60, n_64, n_100, n_1024, nI_add, pk_mul, pk_sub, leI_t, leI_f, ltI_t, ltI_f, eqI_t, eqI_f, geM_t, eqM_f, eqM_g, ltM_f, ltM_t, leM_f, inb_nI, ix_nI, chk_tt, bnd_ss, up_ne, up_self, up_oth, if_true, if_false, reduceCtorEq, Nat.succ_ne_zero]; exact fun g => g), e1, bnd_ss]
    try dsimp only
    rw [e2, bnd_ss]
    try dsimp only
    rw [e3, bnd_ss]
    try dsimp only
    rw [e4, bnd_ss]
    try dsimp only
    rw [e5, bnd_ss, e6, bnd_ss, nI_1]
    exact ⟨_, rfl, rfl, rfl, k4⟩) (fun q hq => by
    obtain ⟨x, y, Z⟩ := q
    obtain ⟨h1, h2, h3⟩ := hq
    have h2 : y = nI 10 := h2
    subst h2
    try dsimp only
    unfold X_digestOfEvenings_L5
    rw [if_pos (by decide)])
  obtain ⟨x, y, V⟩ := q
  have h1 : x = dV S x0 10 := h1
  subst h1
  rw [hq, bnd_ss]
  exact ⟨V, rfl, h3⟩
theorem xdH {w : gw} {S T : St} {i b : Nat} (h : GX w S i T) (hi : i < 513) (hb : b < 5) (x0 : Int64) : ∃ V a, lp (σ := Int64 × Int32 × St) (fun q => X_digestOfBidders_L14 q.2.2 q.1 (nI b) q.2.1) FZ (x0, 0, T) = some ((dH S b x0 3, a, V), 1) ∧ GX w S i V := by
  obtain ⟨q, hq, h1, h2, h3⟩ := lp_cnt (st := fun q : Int64 × Int32 × St => X_digestOfBidders_L14 q.2.2 q.1 (nI b) q.2.1) (fun j q => q.1 = dH S b x0 j ∧ q.2.1 = nI j ∧ GX w S i q.2.2) 3 (by decide) (q0 := (x0, 0, T)) ⟨rfl, rfl, h⟩ (fun j q hj hq => by
    obtain ⟨x, y, Z⟩ := q
    obtain ⟨h1, h2, h3⟩ := hq
    have h1 : x = dH S b x0 j := h1
    have h2 : y = nI j := h2
    subst h1
    subst h2
    obtain ⟨V, hV, hG⟩ := G_has (x := nI j) h3 hi hb ⟨j, by omega, rfl⟩
    try dsimp only
    unfold X_digestOfBidders_L14
    rw [if_neg (by rw [n_2]; exact nI_nlt (by omega) (by omega)), hV, bnd_ss, nI_1]
    exact ⟨_, rfl, rfl, rfl, hG⟩) (fun q hq => by
    obtain ⟨x, y, Z⟩ := q
    obtain ⟨h1, h2, h3⟩ := hq
    have h2 : y = nI 3 := h2
    subst h2
    try dsimp only
    unfold X_digestOfBidders_L14
    rw [if_pos (by decide)])
  obtain ⟨x, y, V⟩ := q
  have h1 : x = dH S b x0 3 := h1
  subst h1
  exact ⟨V, y, hq, h3⟩
theorem xdD {w : gw} {S T : St} {i : Nat} (h : GX w S i T) (hi : i < 513) (x0 : Int64) : ∃ V, X_digestOfBidders T x0 = some (dD S x0 5, V) ∧ GX w S i V := by
  unfold X_digestOfBidders X_digestOfBidders_J148
  obtain ⟨q, hq, h1, h2, h3⟩ := lp_cnt (st := fun q : Int64 × Int32 × St => X_digestOfBidders_L5 q.2.2 q.1 q.2.1) (fun j q => q.1 = dD S x0 j ∧ q.2.1 = nI j ∧ GX w S i q.2.2) 5 (by decide) (q0 := (x0, 0, T)) ⟨rfl, rfl, h⟩ (fun j q hj hq => by
    obtain ⟨x, y, Z⟩ := q
    obtain ⟨h1, h2, h3⟩ := hq
    have h1 : x = dD S x0 j := h1
    have h2 : y = nI j := h2
    subst h1
    subst h2
    obtain ⟨V0, a0, e0, k0⟩ := xdH h3 hi hj (dD S x0 j)
    obtain ⟨V1, e1, k1⟩ := G_happy k0 hi hj
    obtain ⟨V2, e2, k2⟩ := G_wet (x := 7) k1 hi hj
    obtain ⟨V3, e3, k3⟩ := G_gain k2 hi hj
    obtain ⟨V4, e4, k4⟩ := G_each k3 hi hj
    obtain ⟨V5, e5, k5⟩ := G_pays k4 hi hj
    obtain ⟨V6, e6, k6⟩ := G_share (x := 0) k5 hi hj sm1_0
    obtain ⟨V7, e7, k7⟩ := G_share (x := 1) k6 hi hj sm1_1
    try dsimp only
    unfold X_digestOfBidders_L5
    rw [if_neg (by rw [n_5]; try simp (disch := omega) only [↓m_1, n_0, n_1, n_2, n_3, n_4, n_5, n_6, n_7, n_8, n_9, n_10, n_16, n_20, n_24, n_31, n_32, n_48, n_52, n_57, n_59, n_60, n_64, n_100, n_1024, nI_add, pk_mul, pk_sub, leI_t, leI_f, ltI_t, ltI_f, eqI_t, eqI_f, geM_t, eqM_f, eqM_g, ltM_f, ltM_t, leM_f, inb_nI, ix_nI, chk_tt, bnd_ss, up_ne, up_self, up_oth, if_true, if_false, reduceCtorEq, Nat.succ_ne_zero]; exact fun g => g), e0, bnd_ss]
    try dsimp only
    unfold X_digestOfBidders_J42
    rw [e1, bnd_ss]
    try dsimp only
    rw [e2, bnd_ss]
    try dsimp only
    rw [e3, bnd_ss]
    try dsimp only
    rw [e4, bnd_ss]
    try dsimp only
    rw [e5, bnd_ss]
    try dsimp only
    rw [e6, bnd_ss]
    try dsimp only
    rw [e7, bnd_ss, nI_1]
    exact ⟨_, rfl, rfl, rfl, k7⟩) (fun q hq => by
    obtain ⟨x, y, Z⟩ := q
    obtain ⟨h1, h2, h3⟩ := hq
    have h2 : y = nI 5 := h2
    subst h2
    try dsimp only
    unfold X_digestOfBidders_L5
    rw [if_pos (by decide)])
  obtain ⟨x, y, V⟩ := q
  have h1 : x = dD S x0 5 := h1
  subst h1
  rw [hq, bnd_ss]
  exact ⟨V, rfl, h3⟩
theorem xDigest {w : gw} {S : St} {i : Nat} (h : Inv w S i) (hi : i < 513) : ∃ T, X_digest S = some (dgX S, T) ∧ GX w S i T := by
  obtain ⟨V0, a0, e0, k0⟩ := xdC (T := S) ⟨h, Kq_rfl⟩ hi
  obtain ⟨V1, e1, k1⟩ := G_fault k0 hi
  obtain ⟨V2, e2, k2⟩ := G_judged k1 hi
  obtain ⟨V3, e3, k3⟩ := xdB k2 hi ((31 * ((31 * dC S 8) + (flt (tX S) (nX S)).toInt64)) + (fjX S).toInt64)
  obtain ⟨V4, e4, k4⟩ := xdV k3 hi (dB S ((31 * ((31 * dC S 8) + (flt (tX S) (nX S)).toInt64)) + (fjX S).toInt64) (NX S))
  obtain ⟨V5, e5, k5⟩ := xdD k4 hi (dV S (dB S ((31 * ((31 * dC S 8) + (flt (tX S) (nX S)).toInt64)) + (fjX S).toInt64) (NX S)) 10)
  obtain ⟨V6, e6, k6⟩ := G_eachN k5 hi
  obtain ⟨V7, e7, k7⟩ := G_meet (x := 0) k6 hi sm1_0
  obtain ⟨V8, e8, k8⟩ := G_meet (x := 1) k7 hi sm1_1
  obtain ⟨V9, e9, k9⟩ := G_club k8 hi
  obtain ⟨V10, e10, k10⟩ := G_ownersN k9
  obtain ⟨V11, e11, k11⟩ := G_swap k10 hi
  refine ⟨V11, ?_, k11⟩
  unfold X_digest
  rw [e0, bnd_ss]
  try dsimp only
  unfold X_digest_J31
  rw [e1, bnd_ss]
  try dsimp only
  rw [e2, bnd_ss]
  try dsimp only
  rw [e3, bnd_ss]
  try dsimp only
  rw [e4, bnd_ss]
  try dsimp only
  rw [e5, bnd_ss]
  try dsimp only
  rw [e6, bnd_ss]
  try dsimp only
  rw [e7, bnd_ss]
  try dsimp only
  rw [e8, bnd_ss]
  try dsimp only
  rw [e9, bnd_ss]
  try dsimp only
  rw [e10, bnd_ss]
  try dsimp only
  rw [e11, bnd_ss]
  rfl
/-! the reference -/
/-- a state that was found, by itself -/
def GF (w : gw) (S : St) (i : Nat) (Y : St) : Prop := Inv w Y i ∧ Kq S Y ∧ MFs Y Y
theorem MFs_self {T U Y : St} (hM : MFs T U) (hK : Kq T Y) (h8 : Y 49 8 = U 49 8) (h20 : Y 49 20 = U 49 20) (h55 : Y 55 = U 55) (h64 : Y 64 = U 64) (h65 : Y 65 = U 65) : MFs Y Y := by
  obtain ⟨m1, m2, ⟨j1, j2, j3, j4⟩, m4, m5⟩ := hM
  refine ⟨⟨fun _ _ _ _ _ => rfl, fun _ _ _ _ => rfl⟩, ?_, ⟨?_, ?_, ?_, ?_⟩, ?_, ?_⟩
  · rw [h8, K_N hK]; exact m2
  · rw [K_n hK]; exact j1
  · rw [h55, K_t hK, K_n hK]; exact j2
  · rw [h64, K_l hK]; exact j3
  · rw [K_l hK, K_t hK, K_n hK]; exact j4
  · rw [h65, K_N hK, K_t hK, K_p hK, K_r hK, K_s hK]; exact m4
  · rw [h20, K_N hK, K_t hK, K_p hK, K_r hK, K_s hK]; exact m5
theorem GF_66 {w : gw} {S Y Z : St} {i : Nat} (h : GF w S i Y) (hF : ∀ r, r ≠ 66 → Z r = Y r) : GF w S i Z :=
  ⟨Fr66_inv hF h.1, Kq_tr h.2.1 (Fr1_K rfl (by decide) hF), MFs_self h.2.2 (Fr1_K rfl (by decide) hF) (by rw [hF 49 (by decide)]) (by rw [hF 49 (by decide)]) (hF 55 (by decide)) (hF 64 (by decide)) (hF 65 (by decide))⟩
theorem mdC {w : gw} {S T : St} {i : Nat} (h : GX w S i T) : ∃ V a, lp (σ := Int64 × Int32 × St) (fun q => M_digest_L6 q.2.2 q.1 q.2.1) FZ (17, 0, T) = some ((dC S 8, a, V), 1) ∧ GX w S i V ∧ V 49 20 = fjX S := by
  obtain ⟨q, hq, h1, h2, h3, h4⟩ := lp_cnt (st := fun q : Int64 × Int32 × St => M_digest_L6 q.2.2 q.1 q.2.1) (fun j q => q.1 = dC S j ∧ q.2.1 = nI j ∧ GX w S i q.2.2 ∧ (j ≠ 0 → q.2.2 49 20 = fjX S)) 8 (by decide) (q0 := (17, 0, T)) ⟨rfl, rfl, h, fun g => absurd rfl g⟩ (fun j q hj hq => by
    obtain ⟨x, y, Z⟩ := q
    obtain ⟨h1, h2, h3, -⟩ := hq
    have h1 : x = dC S j := h1
    have h2 : y = nI j := h2
    subst h1
    subst h2
    have h3 : GX w S i Z := h3
    obtain ⟨U, hU, hI, hM⟩ := MF h3.1
    try dsimp only
    unfold M_digest_L6
    rw [if_neg (by rw [n_8]; exact nI_ge (by omega) (by omega)), mCount h3.1 hU hM (nI j), bnd_ss, nI_1, K_ct h3.2]
    refine ⟨_, rfl, rfl, rfl, ⟨hI, Kq_tr h3.2 (FrM_K hM.1)⟩, fun _ => ?_⟩
    show U 49 20 = _
    rw [← K_fj h3.2]
    exact hM.2.2.2.2) (fun q hq => by
    obtain ⟨x, y, Z⟩ := q
    obtain ⟨h1, h2, h3⟩ := hq
    have h2 : y = nI 8 := h2
    subst h2
    try dsimp only
    unfold M_digest_L6
    rw [if_pos (by decide)])
  obtain ⟨x, y, V⟩ := q
  have h1 : x = dC S 8 := h1
  subst h1
  exact ⟨V, y, hq, h3, h4 (by decide)⟩
theorem mdB {w : gw} {S B V0 : St} {i : Nat} (h : GX w S i B) (hF : FrM B V0) (h8 : V0 49 8 = nI (NX B)) (h55 : ent (tX B) (V0 55) (NX B)) (x0 : Int64) : ∃ V a, lp (σ := Int64 × Int32 × St) (fun q => M_digest_L57 q.2.2 q.1 q.2.1) FZ (x0, 0, V0) = some ((dB S x0 (NX S), a, V), 1) ∧ FrM B V := by
  obtain ⟨t1, t2, t3, t4, t5⟩ := Inv_tx h.1
  obtain ⟨p1, p2, p3⟩ := Inv_pn h.1
  have hN : NX B ≤ 20 := nb_le t1
  have eN := K_N h.2
  obtain ⟨q, hq, h1, h2, h3, h4, h5⟩ := lp_cnt (st := fun q : Int64 × Int32 × St => M_digest_L57 q.2.2 q.1 q.2.1) (fun j q => q.1 = dB S x0 j ∧ q.2.1 = nI j ∧ FrM B q.2.2 ∧ q.2.2 49 8 = nI (NX B) ∧ ent (tX B) (q.2.2 55) (NX B)) (NX S) (by omega) (q0 := (x0, 0, V0)) ⟨rfl, rfl, hF, h8, h55⟩ (fun j q hj hq => by
    obtain ⟨x, y, Z⟩ := q
    obtain ⟨h1, h2, h3, h4, h5⟩ := hq
    have h1 : x = dB S x0 j := h1
    have h2 : y = nI j := h2
    subst h1
    subst h2
    have h3 : FrM B Z := h3
    have h4 : Z 49 8 = nI (NX B) := h4
    have h5 : ent (tX B) (Z 55) (NX B) := h5
    have hpZ : PN Z (pX B) (rX B) (sX B) := PN_of p1 (h3.1 56 (by decide) (by decide) (by decide) (by decide)) (h3.1 60 (by decide) (by decide) (by decide) (by decide)) (h3.1 62 (by decide) (by decide) (by decide) (by decide))
    obtain ⟨U, hU, ⟨l1, l2⟩, l3, l4, l5⟩ := looks_t (S := Z) (tx := tX B) (pu := pX B) (rs := rX B) (st := sX B) (ex := 1000) (n := nX B) t1 h5 hpZ h4 (x1 := -1) (fun k hk => by
      have hk : k < NX B := hk
      rw [m_1, eqM_f (by omega)]
      exact ⟨fun g => g.elim, fun g => by omega⟩)
    have hFU : FrM B U := ⟨fun r a b c d => by rw [l1 r a c d, h3.1 r a b c d], fun j a b c => by rw [l2 j c, h3.2 j a b c]⟩
    obtain ⟨W, hW, w1, w2, w3⟩ := MW h.1 hFU (by rw [l2 8 (by decide)]; exact h4) (by rw [l1 55 (by decide) (by decide) (by decide)]; exact h5) (k := j) (e := 0) (by rw [eN]; exact hj) (by omega)
    have hW : M_withoutOf U (nI j) 0 = some (wiX B j, W) := hW
    have hJ : ∀ (t0 : Int64) (t1 : Int32), M_digest_J89 U (nI j) t0 t1 = some (((31 * (t0 + t1.toInt64)) + (wiX S j).toInt64, nI (j + 1), W), 0) := fun t0 t1 => by
      unfold M_digest_J89
      rw [hW, bnd_ss, K_wi h.2, nI_1]
    have e65 : U 65 j = if hld (tX B) (pX B) (rX B) (sX B) 1000 j = true then 1 else 0 := l4 j (by show j < NX B; omega)
    try dsimp only
    unfold M_digest_L57
    rw [h4, if_neg (nI_ge (by omega) (by omega)), hU, bnd_ss, chk_t (inb_nI (show j < 20 by omega) (by decide)), ix_nI (by omega), e65, hJ, hJ]
    have hhd : hoX S j = if hld (tX B) (pX B) (rX B) (sX B) 1000 j = true then 1 else 0 := by rw [← K_ho h.2]; rfl
    have hdb : dB S x0 (j + 1) = (31 * ((31 * dB S x0 j) + (hoX S j).toInt64)) + (wiX S j).toInt64 := rfl
    rw [hdb, hhd]
    by_cases d : hld (tX B) (pX B) (rX B) (sX B) 1000 j = true
    · rw [if_pos d, if_neg n10]
      exact ⟨_, rfl, rfl, rfl, w1, w2, w3⟩
    · rw [if_neg d, if_pos rfl]
      exact ⟨_, rfl, rfl, rfl, w1, w2, w3⟩) (fun q hq => by
    obtain ⟨x, y, Z⟩ := q
    obtain ⟨h1, h2, h3, h4, h5⟩ := hq
    have h2 : y = nI (NX S) := h2
    subst h2
    have h4 : Z 49 8 = nI (NX B) := h4
    try dsimp only
    unfold M_digest_L57
    rw [h4, eN, if_pos (nI_le (Nat.le_refl _) (by omega))])
  obtain ⟨x, y, V⟩ := q
  have h1 : x = dB S x0 (NX S) := h1
  subst h1
  exact ⟨V, y, hq, h3⟩
theorem mdV {w : gw} {S Y : St} {i : Nat} (h : GF w S i Y) (h69 : ∀ e, e < 10 → Y 69 e = nI (whX S e)) (x0 : Int64) (x3 : Int32) : lp (σ := Int64 × Int32) (fun q => M_digest_L124 Y q.1 x3 q.2) FZ (x0, 0) = some ((dV S x0 10, nI 10), 1) := by
  obtain ⟨hI, hK, hM⟩ := h
  refine lp_1 (fun e => (dV S x0 e, nI e)) 10 rfl ?_ ?_ (by decide)
  · intro e he
    try dsimp only
    have hin : ∀ z, lp (σ := Int64 × Int32) (fun q => M_digest_L191 Y q.1 x3 (nI e) q.2) FZ (z, 0) = some ((dW S e z 2, nI 2), 1) := fun z => by
      refine lp_1 (fun j => (dW S e z j, nI j)) 2 rfl ?_ ?_ (by decide)
      · intro j hj
        try dsimp only
        unfold M_digest_L191
        have hw : M_worthOf Y 1 (nI e) (nI j) = some (woX Y 1 e (nI j)) := worthOf_t (b := 1) hI rfl rfl (by omega) he (nI j)
        rw [if_neg (by rw [n_2]; exact nI_ge hj (by omega)), hw, bnd_ss, nI_1, K_wo hK]
        rfl
      · try dsimp only
        unfold M_digest_L191
        rw [if_pos (by decide)]
    unfold M_digest_L124
    rw [if_neg (by rw [n_10]; try simp (disch := omega) only [↓m_1, n_0, n_1, n_2, n_3, n_4, n_5, n_6, n_7, n_8, n_9, n_10, n_16, n_20, n_24, n_31, n_32, n_48, n_52, n_57, n_59, n_60, n_64, n_100, n_1024, nI_add, pk_mul, pk_sub, leI_t, leI_f, ltI_t, ltI_f, eqI_t, eqI_f, geM_t, eqM_f, eqM_g, ltM_f, ltM_t, leM_f, inb_nI, ix_nI, chk_tt, bnd_ss, up_ne, up_self, up_oth, if_true, if_false, reduceCtorEq, Nat.succ_ne_zero]; exact fun g => g), ownerOf_t hM.2.2.1 he, bnd_ss, mPrice_t hI hM he, bnd_ss, harmOf_t hI hM he, bnd_ss, chk_t (inb_nI he (by decide)), ix_nI (by omega), h69 e he, hin, bnd_ss, K_t hK, K_l hK, K_hr hK, K_pr hK]
    try dsimp only
    unfold M_digest_J219
    rw [nI_1]
    rfl
  · try dsimp only
    unfold M_digest_L124
    rw [if_pos (by decide)]
theorem mdD {w : gw} {S Y : St} {i : Nat} (h : GF w S i Y) (x0 : Int64) (x3 : Int32) : ∃ V a, lp (σ := Int64 × Int32 × St) (fun q => M_digest_L228 q.2.2 q.1 x3 q.2.1) FZ (x0, 0, Y) = some ((dD S x0 5, a, V), 1) ∧ GF w S i V := by
  obtain ⟨q, hq, h1, h2, h3⟩ := lp_cnt (st := fun q : Int64 × Int32 × St => M_digest_L228 q.2.2 q.1 x3 q.2.1) (fun j q => q.1 = dD S x0 j ∧ q.2.1 = nI j ∧ GF w S i q.2.2) 5 (by decide) (q0 := (x0, 0, Y)) ⟨rfl, rfl, h⟩ (fun b q hb hq => by
    obtain ⟨x, y, Z⟩ := q
    obtain ⟨h1, h2, h3⟩ := hq
    have h1 : x = dD S x0 b := h1
    have h2 : y = nI b := h2
    subst h1
    subst h2
    have h3 : GF w S i Z := h3
    obtain ⟨hI, hK, hM⟩ := id h3
    obtain ⟨v1, v2, v3, v4⟩ := Inv_vv hI
    have hH : lp (σ := Int64 × Int32) (fun q => M_digest_L237 Z q.1 x3 (nI b) q.2) FZ (dD S x0 b, 0) = some ((dH S b (dD S x0 b) 3, nI 3), 1) := by
      refine lp_1 (fun j => (dH S b (dD S x0 b) j, nI j)) 3 rfl ?_ ?_ (by decide)
      · intro j hj
        try dsimp only
        unfold M_digest_L237
        have hw : M_hasOf Z (nI b) (nI j) = some (hsX Z b (nI j)) := hasOf_t hI hM hb (nI j)
        rw [if_neg (by rw [n_3]; exact nI_ge hj (by omega)), hw, bnd_ss, nI_1, K_hs hK]
        rfl
      · try dsimp only
        unfold M_digest_L237
        rw [if_pos (by decide)]
    have hHp : M_happyOf Z (nI b) 0 = some (hpX S b) := by
      have e : M_happyOf Z (nI b) 0 = some (nI (smE (fun e => if Nat.testBit 0 e = true then 0 else jyE Z b e) 10)) := happyOf_t (B := 0) hI hM hb (by omega)
      rw [e, smE_congr 10 (g := jyE Z b) (fun e _ => by rw [if_neg (by rw [Nat.zero_testBit]; decide)]), ← K_hp hK]
      rfl
    have hmk := rmk_lt Z 7 10 (Nat.le_refl _)
    have hWt : M_happyOf Z (nI b) (nI (rmk Z 7 10)) = some (wtX S b 7) := by
      rw [happyOf_t hI hM hb (by omega), ← K_wt hK]
      rfl
    have hGn : M_gainOf Z (nI b) = some (gnX S b) := by
      rw [gainOf_t hI hM hb, ← K_gn hK]
      rfl
    obtain ⟨Z1, hZ1, z1, -⟩ := eachOf_b v2 hb
    have G1 := GF_66 h3 z1
    obtain ⟨u1, u2, u3, u4⟩ := Inv_vv G1.1
    obtain ⟨Z2, hZ2, z2⟩ := paysOf_t u2 hb
    have G2 := GF_66 G1 z2
    obtain ⟨r1, r2, r3, r4⟩ := Inv_vv G2.1
    have hSh : ∀ z, lp (σ := Int64 × Int32) (fun q => M_digest_L345 Z2 q.1 x3 (nI b) q.2) FZ (z, 0) = some ((dR S b z 2, nI 2), 1) := fun z => by
      refine lp_1 (fun j => (dR S b z j, nI j)) 2 rfl ?_ ?_ (by decide)
      · intro j hj
        try dsimp only
        unfold M_digest_L345
        have hw : M_shareOf Z2 (nI b) (nI j) = some (srX Z2 b (nI j)) := shareOf_t r2 r4 hb (nI j)
        rw [if_neg (by rw [n_2]; exact nI_ge hj (by omega)), hw, bnd_ss, nI_1, K_sr G2.2.1]
        rfl
      · try dsimp only
        unfold M_digest_L345
        rw [if_pos (by decide)]
    try dsimp only
    unfold M_digest_L228
    rw [if_neg (by rw [n_5]; try simp (disch := omega) only [↓m_1, n_0, n_1, n_2, n_3, n_4, n_5, n_6, n_7, n_8, n_9, n_10, n_16, n_20, n_24, n_31, n_32, n_48, n_52, n_57, n_59, n_60, n_64, n_100, n_1024, nI_add, pk_mul, pk_sub, leI_t, leI_f, ltI_t, ltI_f, eqI_t, eqI_f, geM_t, eqM_f, eqM_g, ltM_f, ltM_t, leM_f, inb_nI, ix_nI, chk_tt, bnd_ss, up_ne, up_self, up_oth, if_true, if_false, reduceCtorEq, Nat.succ_ne_zero]; exact fun g => g), hH, bnd_ss]
    try dsimp only
    unfold M_digest_J265
    rw [hHp, bnd_ss, refusedBy_t hI hM 7, bnd_ss, hWt, bnd_ss, hGn, bnd_ss, hZ1, bnd_ss]
    try dsimp only
    rw [hZ2, bnd_ss]
    try dsimp only
    rw [hSh, bnd_ss, K_va hK, K_va G1.2.1]
    try dsimp only
    unfold M_digest_J372
    rw [nI_1]
    exact ⟨_, rfl, rfl, rfl, G2⟩) (fun q hq => by
    obtain ⟨x, y, Z⟩ := q
    obtain ⟨h1, h2, h3⟩ := hq
    have h2 : y = nI 5 := h2
    subst h2
    try dsimp only
    unfold M_digest_L228
    rw [if_pos (by decide)])
  obtain ⟨x, y, V⟩ := q
  have h1 : x = dD S x0 5 := h1
  subst h1
  exact ⟨V, y, hq, h3⟩
theorem mDigest {w : gw} {S T : St} {i : Nat} (h : GX w S i T) : ∃ V, M_digest T = some (dgX S, V) ∧ Inv w V i := by
  obtain ⟨B, a0, e0, k0, f0⟩ := mdC h
  obtain ⟨z, hz, z1, z2, z3, z4⟩ := MR k0.1
  have hFz : FrM B z.2 := ⟨fun r a b _ _ => z2.1 r a b, fun j a b _ => z2.2 j a b⟩
  have z20 : z.2 49 20 = fjX S := by rw [z2.2 20 (by decide) (by decide)]; exact f0
  obtain ⟨V1, a1, e1, k1⟩ := mdB k0 hFz z3 z4 ((31 * ((31 * dC S 8) + (flt (tX S) (nX S)).toInt64)) + (fjX S).toInt64)
  have hI1 : Inv w V1 i := FrM_inv k1 k0.1
  have hK1 : Kq S V1 := Kq_tr k0.2 (FrM_K k1)
  obtain ⟨U, hU, hIU, hM⟩ := MF hI1
  have hKU : Kq S U := Kq_tr hK1 (FrM_K hM.1)
  obtain ⟨Y, hY, y1, y2⟩ := findWays_t hIU
  have hKY : Kq V1 Y := Kq_tr (FrM_K hM.1) (FrW_K y1)
  have r49 := y1 49 (by decide) (by decide) (by decide) (by decide) (by decide)
  have hGF : GF w S i Y := ⟨FrW_inv y1 hIU, Kq_tr hK1 hKY, MFs_self hM hKY (by rw [r49]) (by rw [r49]) (y1 55 (by decide) (by decide) (by decide) (by decide) (by decide)) (y1 64 (by decide) (by decide) (by decide) (by decide) (by decide)) (y1 65 (by decide) (by decide) (by decide) (by decide) (by decide))⟩
  have e2 := mdV hGF (fun e he => by rw [y2 e he, (K_wy hKU).2 e]) (dB S ((31 * ((31 * dC S 8) + (flt (tX S) (nX S)).toInt64)) + (fjX S).toInt64) (NX S)) (nI (wyX S))
  obtain ⟨V3, a3, e3, k3⟩ := mdD hGF (dV S (dB S ((31 * ((31 * dC S 8) + (flt (tX S) (nX S)).toInt64)) + (fjX S).toInt64) (NX S)) 10) (nI (wyX S))
  obtain ⟨v1, v2, v3, v4⟩ := Inv_vv k3.1
  obtain ⟨V4, e4, k4⟩ := eachOf_n v2
  have G4 := GF_66 k3 k4
  obtain ⟨u1, u2, u3, u4⟩ := Inv_vv G4.1
  have m0 : M_meetOf V4 3 2 0 = some (mtX S 3 2 0) := by
    have := meetOf_t (x := 3) (k := 2) (x3 := 0) G4.1 G4.2.2.2.2.1 rfl rfl rfl (by omega) (by omega) sm1_0
    rw [K_mt G4.2.1] at this
    exact this
  have m1 : M_meetOf V4 3 2 1 = some (mtX S 3 2 1) := by
    have := meetOf_t (x := 3) (k := 2) (x3 := 1) G4.1 G4.2.2.2.2.1 rfl rfl rfl (by omega) (by omega) sm1_1
    rw [K_mt G4.2.1] at this
    exact this
  have mc : M_clubOf V4 31 = some (nI (cw (vR (S 58)) (rX S) 31)) := by
    have := clubOf_t (x := 31) u2 u4 (by omega)
    rw [K_va G4.2.1, K_r G4.2.1] at this
    exact this
  have ms : M_swapOf V4 0 1 = some (swX S 0 1) := by
    have := swapOf_t (a := 0) (b := 1) G4.1 G4.2.2.2.2.1 rfl (by omega) (by omega)
    rw [K_sw G4.2.1] at this
    exact this
  refine ⟨V4, ?_, G4.1⟩
  unfold M_digest
  rw [e0, bnd_ss]
  try dsimp only
  unfold M_digest_J31
  rw [hz, bnd_ss, z20, z1, K_t k0.2, K_n k0.2, e1, bnd_ss]
  try dsimp only
  unfold M_digest_J112
  rw [hU, bnd_ss, hY, bnd_ss, (K_wy hKU).1]
  try dsimp only
  rw [e2, bnd_ss]
  try dsimp only
  unfold M_digest_J225
  rw [e3, bnd_ss]
  try dsimp only
  unfold M_digest_J378
  rw [e4, bnd_ss, K_va k3.2.1]
  try dsimp only
  rw [m0, bnd_ss, m1, bnd_ss, mc, bnd_ss, ms, bnd_ss]
  rfl
theorem op_digest {w : gw} {S : St} {i : Nat} (h : Inv w S i) (hi : i < 512) : ∃ z1 z2, X_digest S = some z1 ∧ M_digest z1.2 = some z2 ∧ z1.1 = z2.1 ∧ Inv w z2.2 (i + 1) := by
  obtain ⟨T, hT, hG⟩ := xDigest h (by omega)
  obtain ⟨V, hV, hI⟩ := mDigest hG
  exact ⟨_, _, hT, hV, rfl, Inv_next hI⟩
