/-! ===== text, rules ===== -/
theorem op_type {w : gw} {S : St} {i : Nat} (h : Inv w S i) (hi : i < 512) (a1 : Int32) : ∃ z1 z2, X_type S a1 = some z1 ∧ M_type z1.2 a1 = some z2 ∧ z1.1 = z2.1 ∧ Inv w z2.2 (i + 1) := by
  obtain ⟨n, hn, e1, e2, hby⟩ := h.2.2.1
  have e1 : S 25 1 = nI n := e1
  have e2 : S 49 6 = nI n := e2
  rcases sm_or a1 255 with h1 | h1
  · have gx : ¬ X_within a1 0 255 = 0 := by rw [show X_within a1 0 255 = 1 from xw_t h1 (by decide)]; exact n10
    have gm : ¬ M_in a1.toInt64 0 255 = 0 := by rw [show M_in a1.toInt64 0 255 = 1 from mi_t h1 (by decide)]; exact n10
    by_cases hf : n = 100
    · refine ⟨(-4, S), (-4, S), ?_, ?_, rfl, Inv_next h⟩
      · unfold X_type
        rw [if_neg gx, if_neg]
        rw [e1, hf]
        decide
      · show M_type S a1 = _
        unfold M_type
        rw [if_neg gm, if_pos]
        rw [e2, hf]
        rfl
    · have hlt : n < 100 := by omega
      have s1 : ∀ (T : St), T = up (up (up S 26 n a1) 25 1 (nI n + 1)) 0 9 (S 0 9 + 1) → T 49 6 = nI n := fun T hT => by
        rw [hT, up_ne (show 49 ≠ 0 by decide), up_ne (show 49 ≠ 25 by decide), up_ne (show 49 ≠ 26 by decide)]; exact e2
      refine ⟨(nI n + 1, up (up (up S 26 n a1) 25 1 (nI n + 1)) 0 9 (S 0 9 + 1)), (nI n + 1, up (up (up (up (up S 26 n a1) 25 1 (nI n + 1)) 0 9 (S 0 9 + 1)) 54 n a1) 49 6 (nI n + 1)), ?_, ?_, rfl, ?_⟩
      · unfold X_type BT_append
        rw [if_neg gx, if_pos (by rw [e1]; exact nI_lt (b := 100) hlt (by decide)), e1, chk_t (inb_nI hlt (by decide)), ix_nI (by omega)]
        have e3 : (up S 26 n a1) 25 1 = nI n := by rw [up_ne (show 25 ≠ 26 by decide)]; exact e1
        rw [e3]
        show some ((up (up (up S 26 n a1) 25 1 (nI n + 1)) 0 9 ((up (up S 26 n a1) 25 1 (nI n + 1)) 0 9 + 1)) 25 1, up (up (up S 26 n a1) 25 1 (nI n + 1)) 0 9 ((up (up S 26 n a1) 25 1 (nI n + 1)) 0 9 + 1)) = _
        have e4 : (up (up S 26 n a1) 25 1 (nI n + 1)) 0 9 = S 0 9 := by rw [up_ne (show 0 ≠ 25 by decide), up_ne (show 0 ≠ 26 by decide)]
        rw [e4, up_ne (show 25 ≠ 0 by decide), up_self]
      · show M_type (up (up (up S 26 n a1) 25 1 (nI n + 1)) 0 9 (S 0 9 + 1)) a1 = _
        generalize hT : up (up (up S 26 n a1) 25 1 (nI n + 1)) 0 9 (S 0 9 + 1) = T
        have e3 := s1 T hT.symm
        unfold M_type
        rw [if_neg gm, e3, if_neg (by rw [show (100 : Int32) = nI 100 from rfl, nI_eq (by omega) (by decide)]; exact hf), chk_t (inb_nI hlt (by decide)), ix_nI (by omega)]
        have e4 : (up T 54 n a1) 49 6 = nI n := by rw [up_ne (show 49 ≠ 54 by decide)]; exact e3
        rw [e4, up_self]
      · unfold Inv
        have e : msk (up (up (up (up (up S 26 n a1) 25 1 (nI n + 1)) 0 9 (S 0 9 + 1)) 54 n a1) 49 6 (nI n + 1)) = up (up (up (up (up (msk S) 26 n a1) 25 1 (nI n + 1)) 0 9 (S 0 9 + 1)) 54 n a1) 49 6 (nI n + 1) := by
          rw [msk_up49n (by decide), msk_upn (by decide) (by omega), msk_upn (by decide) (by omega), msk_upn (by decide) (by omega), msk_upn (by decide) (by omega)]
        rw [e]
        obtain ⟨h0, h1', h2, h3, h4, h5, h6⟩ := h
        have hne : ∀ k, k ≠ 26 → k ≠ 25 → k ≠ 0 → k ≠ 54 → k ≠ 49 → (up (up (up (up (up (msk S) 26 n a1) 25 1 (nI n + 1)) 0 9 (S 0 9 + 1)) 54 n a1) 49 6 (nI n + 1)) k = msk S k := fun k b1 b2 b3 b4 b5 => by
          rw [up_ne b5, up_ne b4, up_ne b3, up_ne b2, up_ne b1]
        have h49 : ∀ j, j ≠ 6 → (up (up (up (up (up (msk S) 26 n a1) 25 1 (nI n + 1)) 0 9 (S 0 9 + 1)) 54 n a1) 49 6 (nI n + 1)) 49 j = msk S 49 j := fun j hj => by
          rw [up_oth hj, up_ne (by omega), up_ne (by omega), up_ne (by omega), up_ne (by omega)]
        refine ⟨w48_of h0 (hne 48 (by omega) (by omega) (by omega) (by omega) (by omega)), Cf_of' h1' (fun k hk hk0 => hne k (by omega) (by omega) (by omega) (by omega) (by omega)) (fun k hk hk2 => hne k (by omega) (by omega) (by omega) (by omega) (by omega)), ?_, Sg_of h3 (by rw [hne 45 (by omega) (by omega) (by omega) (by omega) (by omega)]) (h49 22 (by omega)) (hne 46 (by omega) (by omega) (by omega) (by omega) (by omega)) (hne 67 (by omega) (by omega) (by omega) (by omega) (by omega)) (by rw [hne 45 (by omega) (by omega) (by omega) (by omega) (by omega)]), Sh_of h4 (hne 48 (by omega) (by omega) (by omega) (by omega) (by omega)) (hne 50 (by omega) (by omega) (by omega) (by omega) (by omega)) (hne 51 (by omega) (by omega) (by omega) (by omega) (by omega)) (hne 52 (by omega) (by omega) (by omega) (by omega) (by omega)) (fun k hk => hne k (by omega) (by omega) (by omega) (by omega) (by omega)), ?_, ?_⟩
        · refine ⟨n + 1, by omega, ?_, ?_, fun j hj => ?_⟩
          · rw [up_ne (by omega), up_ne (by omega), up_ne (by omega), up_self, nI_1]
          · rw [up_self, nI_1]
          · rw [up_ne (show 26 ≠ 49 by omega), up_ne (show 26 ≠ 54 by omega), up_ne (show 26 ≠ 0 by omega), up_ne (show 26 ≠ 25 by omega), up_ne (show 54 ≠ 49 by omega)]
            by_cases hjn : j = n
            · subst hjn
              rw [up_self, up_self]
              exact ⟨rfl, h1⟩
            · rw [up_oth hjn, up_oth hjn, up_ne (show 54 ≠ 0 by omega), up_ne (show 54 ≠ 25 by omega), up_ne (show 54 ≠ 26 by omega)]
              exact hby j (by omega)
        · rw [h49 4 (by omega), up_ne (show 0 ≠ 49 by omega), up_ne (show 0 ≠ 54 by omega), up_oth (show 8 ≠ 9 by omega), up_ne (show 0 ≠ 25 by omega), up_ne (show 0 ≠ 26 by omega)]
          exact h5
        · refine Ed_up (d := 1) h6 hi ⟨by omega, by omega⟩ ?_ (by rw [hne 27 (by omega) (by omega) (by omega) (by omega) (by omega)]) (by rw [hne 39 (by omega) (by omega) (by omega) (by omega) (by omega)]) (by rw [hne 43 (by omega) (by omega) (by omega) (by omega) (by omega)])
          rw [up_ne (by omega), up_ne (by omega), up_self]
          rfl
  · refine ⟨(-2, S), (-2, S), ?_, ?_, rfl, Inv_next h⟩
    · unfold X_type
      rw [if_pos (show X_within a1 0 255 = 0 from xw_f h1 (by decide))]
    · show M_type S a1 = _
      unfold M_type
      rw [if_pos (show M_in a1.toInt64 0 255 = 0 from mi_f h1 (by decide))]
/-! a range that begins above 0 -/
def smr (x : Int32) (lo hi : Nat) : Prop := ∃ v, lo ≤ v ∧ v ≤ hi ∧ x = nI v
theorem smr_iff {x : Int32} {lo hi : Nat} (h : hi < 2 ^ 31) : smr x lo hi ↔ (lo : Int) ≤ x.toInt ∧ x.toInt ≤ hi := by
  constructor
  · rintro ⟨v, hl, hv, rfl⟩
    rw [nI_toInt (by omega)]
    omega
  · rintro ⟨h1, h2⟩
    obtain ⟨v, hv, rfl⟩ := (sm_iff h).mpr ⟨by omega, h2⟩
    rw [nI_toInt (by omega)] at h1
    exact ⟨v, by omega, hv, rfl⟩
theorem xwr {x : Int32} {lo hi : Nat} (hh : hi < 2 ^ 31) (hl : lo ≤ hi) : X_within x (nI lo) (nI hi) = 0 ↔ ¬ smr x lo hi := by
  rw [smr_iff hh]
  unfold X_within
  by_cases g1 : x < nI lo
  · rw [if_pos g1]
    rw [Int32.lt_iff_toInt_lt, nI_toInt (by omega)] at g1
    exact ⟨fun _ => by omega, fun _ => rfl⟩
  · rw [if_neg g1]
    rw [Int32.lt_iff_toInt_lt, nI_toInt (by omega)] at g1
    by_cases g2 : nI hi < x
    · rw [if_pos g2]
      rw [Int32.lt_iff_toInt_lt, nI_toInt (by omega)] at g2
      exact ⟨fun _ => by omega, fun _ => rfl⟩
    · rw [if_neg g2]
      rw [Int32.lt_iff_toInt_lt, nI_toInt (by omega)] at g2
      exact ⟨fun q => absurd q n10, fun q => absurd (by omega) q⟩
theorem mir {x : Int32} {lo hi : Nat} (hh : hi < 2 ^ 31) (hl : lo ≤ hi) : M_in x.toInt64 (nI lo).toInt64 (nI hi).toInt64 = 0 ↔ ¬ smr x lo hi := by
  have key : ((nI lo).toInt64 ≤ x.toInt64 ∧ x.toInt64 ≤ (nI hi).toInt64) ↔ ((lo : Int) ≤ x.toInt ∧ x.toInt ≤ hi) := by
    rw [Int64.le_iff_toInt_le, Int64.le_iff_toInt_le, wide_toInt, wide_toInt, wide_toInt, nI_toInt (by omega), nI_toInt hh]
  rw [smr_iff hh, mi_iff]
  by_cases g : (lo : Int) ≤ x.toInt ∧ x.toInt ≤ hi
  · rw [if_pos (key.mpr g)]
    exact ⟨fun q => absurd q n10, fun q => absurd g q⟩
  · rw [if_neg (fun q => g (key.mp q))]
    exact ⟨fun _ => g, fun _ => rfl⟩
theorem Cf_rule {T : St} {k lo hi : Nat} {v : Int32} (h : Cf T) (hk : (k = 0 ∧ lo = 1 ∧ hi = 20) ∨ (k = 1 ∧ lo = 0 ∧ hi = 1) ∨ (k = 2 ∧ lo = 1 ∧ hi = 10)) (hv : smr v lo hi) : Cf (up (up T 24 k v) 62 k v) := by
  obtain ⟨h1, h2, h3, h4, h5, h6, h7, h8, h9, h10⟩ := h
  have r1 : (up (up T 24 k v) 62 k v) 24 = upd (T 24) k v := by rw [up_ne (by omega), up_eq]
  have r2 : (up (up T 24 k v) 62 k v) 62 = upd (T 62) k v := by rw [up_eq, up_ne (by omega)]
  refine ⟨pr_oth h1 (by decide) (by decide) (by decide) (by decide), pr_oth h2 (by decide) (by decide) (by decide) (by decide), gr_oth h3 (fun b hb => by omega) (fun b hb => by omega) (by decide) (by decide), gr_oth h4 (fun b hb => by omega) (fun b hb => by omega) (by decide) (by decide), bu_oth h5 (fun b hb => by omega) (fun b hb => by omega) (by decide) (by decide), pr_oth h6 (by decide) (by decide) (by decide) (by decide), pr_oth h7 (by decide) (by decide) (by decide) (by decide), ?_, ?_, ?_⟩
  · rw [r1, r2]
    rcases hk with ⟨rfl, rfl, rfl⟩ | ⟨rfl, rfl, rfl⟩ | ⟨rfl, rfl, rfl⟩
    · rw [pk_us, pk_us]
      exact ⟨rfl, hv⟩
    · rw [pk_un (by decide), pk_un (by decide)]; exact h8
    · rw [pk_un (by decide), pk_un (by decide)]; exact h8
  · rw [r1, r2]
    rcases hk with ⟨rfl, rfl, rfl⟩ | ⟨rfl, rfl, rfl⟩ | ⟨rfl, rfl, rfl⟩
    · rw [pk_un (by decide), pk_un (by decide)]; exact h9
    · rw [pk_us, pk_us]
      obtain ⟨u, -, hu, rfl⟩ := hv
      exact ⟨rfl, u, hu, rfl⟩
    · rw [pk_un (by decide), pk_un (by decide)]; exact h9
  · rw [r1, r2]
    rcases hk with ⟨rfl, rfl, rfl⟩ | ⟨rfl, rfl, rfl⟩ | ⟨rfl, rfl, rfl⟩
    · rw [pk_un (by decide), pk_un (by decide)]; exact h10
    · rw [pk_un (by decide), pk_un (by decide)]; exact h10
    · rw [pk_us, pk_us]
      exact ⟨rfl, hv⟩
theorem ru_eq {T : St} (h : Cf T) {k : Nat} (hk : k < 3) : T 24 k = T 62 k := by
  obtain ⟨-, -, -, -, -, -, -, h8, h9, h10⟩ := h
  match k, hk with
  | 0, _ => exact h8.1
  | 1, _ => exact h9.1
  | 2, _ => exact h10.1
  | k + 3, hk => exact absurd hk (by omega)
theorem op_set {w : gw} {S : St} {i : Nat} (h : Inv w S i) (hi : i < 512) (a1 : Int32) (a2 : Int32) : ∃ z1 z2, X_set S a1 a2 = some z1 ∧ M_set z1.2 a1 a2 = some z2 ∧ z1.1 = z2.1 ∧ Inv w z2.2 (i + 1) := by
  rcases sm_or a1 2 with h1 | h1
  · obtain ⟨k, hk, rfl⟩ := id h1
    have gx : ¬ X_within (nI k) 0 2 = 0 := by rw [show X_within (nI k) 0 2 = 1 from xw_t h1 (by decide)]; exact n10
    have gm : ¬ M_in (nI k).toInt64 0 2 = 0 := by rw [show M_in (nI k).toInt64 0 2 = 1 from mi_t h1 (by decide)]; exact n10
    have key : ∀ (lo hi' : Nat), ((k = 0 ∧ lo = 1 ∧ hi' = 20) ∨ (k = 1 ∧ lo = 0 ∧ hi' = 1) ∨ (k = 2 ∧ lo = 1 ∧ hi' = 10)) → tb1 k = nI lo → tb2 k = nI hi' → (∀ T : St, M_set T (nI k) a2 = M_set_J31 T (nI k) a2 (nI lo) (nI hi')) → hi' < 2 ^ 31 → lo ≤ hi' → ∃ z1 z2, X_set S (nI k) a2 = some z1 ∧ M_set z1.2 (nI k) a2 = some z2 ∧ z1.1 = z2.1 ∧ Inv w z2.2 (i + 1) := by
      intro lo hi' hc t1 t2 hM hb hl
      by_cases hv : smr a2 lo hi'
      · refine ⟨(S 24 k, up (up S 24 k a2) 0 9 (S 0 9 + 1)), (S 62 k, up (up (up S 24 k a2) 0 9 (S 0 9 + 1)) 62 k a2), ?_, ?_, ?_, ?_⟩
        · unfold X_set
          rw [if_neg gx, chk_t (inb_nI (by omega) (by decide)), chk_t (inb_nI (by omega) (by decide)), ix_nI (by omega), t1, t2, if_neg (fun q => (xwr hb hl).mp q hv), bnd_t (rep_t rfl (by omega) (by decide) (by omega))]
        · show M_set (up (up S 24 k a2) 0 9 (S 0 9 + 1)) _ _ = _
          rw [hM]
          unfold M_set_J31
          rw [if_neg gm, if_neg (fun q => (mir hb hl).mp q hv), bnd_t (tel_t (j := k) rfl (by omega) (by decide))]
          rw [up_ne (show 62 ≠ 0 by decide), up_ne (show 62 ≠ 24 by decide)]
        · exact ru_eq h.2.1 (by omega)
        · exact set_inv h hi ⟨by omega, by omega⟩ ⟨by decide, by decide⟩ (Cf_rule h.2.1 hc hv)
      · refine ⟨(-2, S), (-2, S), ?_, ?_, rfl, Inv_next h⟩
        · unfold X_set
          rw [if_neg gx, chk_t (inb_nI (by omega) (by decide)), chk_t (inb_nI (by omega) (by decide)), ix_nI (by omega), t1, t2, if_pos ((xwr hb hl).mpr hv)]
        · show M_set S _ _ = _
          rw [hM]
          unfold M_set_J31
          rw [if_neg gm, if_pos ((mir hb hl).mpr hv)]
    rcases (show k = 0 ∨ k = 1 ∨ k = 2 by omega) with rfl | rfl | rfl
    · exact key 1 20 (Or.inl ⟨rfl, rfl, rfl⟩) rfl rfl (fun T => by unfold M_set M_set_J10; rw [if_neg (by decide), if_pos (by decide)]; rfl) (by decide) (by decide)
    · exact key 0 1 (Or.inr (Or.inl ⟨rfl, rfl, rfl⟩)) rfl rfl (fun T => by unfold M_set M_set_J10; rw [if_pos (by decide), if_neg (by decide), if_pos (by decide)]; rfl) (by decide) (by decide)
    · exact key 1 10 (Or.inr (Or.inr ⟨rfl, rfl, rfl⟩)) rfl rfl (fun T => by unfold M_set M_set_J10; rw [if_neg (by decide), if_neg (by decide), if_neg (by decide)]; rfl) (by decide) (by decide)
  · refine ⟨(-2, S), (-2, S), ?_, ?_, rfl, Inv_next h⟩
    · unfold X_set
      rw [if_pos (show X_within a1 0 2 = 0 from xw_f h1 (by decide))]
    · show M_set S a1 a2 = _
      have hj : ∀ x y z, M_set_J31 S a1 x y z = some (-2, S) := by
        intro x y z
        unfold M_set_J31
        rw [if_pos (show M_in a1.toInt64 0 2 = 0 from mi_f h1 (by decide))]
      unfold M_set M_set_J10
      rw [hj, hj, hj, hj, hj, hj]
      split <;> split <;> first | rfl | (split <;> rfl)
