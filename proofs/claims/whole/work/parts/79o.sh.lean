/-! ===== sheets ===== -/
theorem Sh_msk {w : gw} {S : St} (h : Sh w S) : Sh w (msk S) := Sh_of h rfl rfl rfl rfl (fun k hk => mk_dyn S hk)
theorem Sh_un {w : gw} {S : St} (h : Sh w (msk S)) : Sh w S := Sh_of h rfl rfl rfl rfl (fun k hk => (mk_dyn S hk).symm)
theorem sh_get {w : gw} {S : St} {i s : Nat} (h : Inv w S i) (hs : s < 4) : (S 48 s = -1 ∧ S 50 s = -1) ∨ ∃ k n f, S 48 s = nI k ∧ shO w k ∧ k < 2147483648 ∧ gln w (k + 1) = n ∧ n ≤ 60 ∧ f ≤ 2 ∧ S 50 s = nI f ∧ S k 0 = nI f ∧ S 51 s = nI n ∧ ∀ j, j < n → S (k + 1) j = S 52 (60 * s + j) := by
  obtain ⟨h0, h1, -⟩ := Sh_un h.2.2.2.2.1
  rcases h1 s hs with g | ⟨g1, g2, ⟨f, hf, g3⟩, g4, g5, g6, g7⟩
  · exact Or.inl g
  · obtain ⟨k, hk, e⟩ := nI_of g1
    have e2 : ix (S 48 s) = k := by rw [e, ix_nI hk]
    rw [e2] at g2 g4 g5 g6 g7
    exact Or.inr ⟨k, _, f, e, g2, by omega, rfl, g5, hf, g3, by rw [g4, g3], g6, g7⟩
theorem shB_t {w : gw} {k : Nat} (h : shO w k) (hk : k < 2147483648) : shB w (nI k) = true := by
  unfold shB
  rw [decide_eq_true_eq, ix_nI (by omega)]
  exact h
theorem isS_t {s : Nat} (h : s < 4) : ¬ X_isSheet (nI s) = 0 ∧ ¬ M_isSheet (nI s) = 0 := by
  have h1 : sm (nI s) 3 := ⟨s, by omega, rfl⟩
  exact ⟨by rw [show X_isSheet (nI s) = 1 from xw_t h1 (by decide)]; exact n10, by rw [show M_isSheet (nI s) = 1 from mi_t h1 (by decide)]; exact n10⟩
/-- what is neither a sheet nor worked on stays -/
theorem sh_inv {w w' : gw} {S S' : St} {i : Nat} (h : Inv w S i) (hr : ∀ r, r < 73 → r ≠ 48 → r ≠ 50 → r ≠ 51 → r ≠ 52 → scr r = false → r ≠ 49 → S' r = S r) (h49 : ∀ j, j ≠ 7 → j ≠ 8 → j ≠ 20 → S' 49 j = S 49 j) (hS : Sh w' S') : Inv w' S' (i + 1) := by
  obtain ⟨h0, h1, h2, h3, h4, h5, h7⟩ := Inv_next h
  have hm49 : msk S' 49 = msk S 49 := by
    funext j
    show cond (Nat.beq j 7 || Nat.beq j 8 || Nat.beq j 20) 0 (S' 49 j) = cond (Nat.beq j 7 || Nat.beq j 8 || Nat.beq j 20) 0 (S 49 j)
    by_cases c : (Nat.beq j 7 || Nat.beq j 8 || Nat.beq j 20) = true
    · rw [c]; rfl
    · rw [h49 j (fun g => c (by rw [g]; rfl)) (fun g => c (by rw [g]; rfl)) (fun g => c (by rw [g]; rfl))]
  have hm : ∀ r, r < 73 → r ≠ 48 → r ≠ 50 → r ≠ 51 → r ≠ 52 → msk S' r = msk S r := by
    intro r r73 a b c d
    by_cases e : r = 49
    · rw [e, hm49]
    · cases hs : scr r with
      | true =>
        unfold msk
        rw [hs]
        rfl
      | false => rw [msk_at hs e, msk_at hs e, hr r r73 a b c d hs e]
  have hx : ∀ r, r < 48 ∨ (53 ≤ r ∧ r < 73) ∨ r = 49 → msk S' r = msk S r := fun r g => hm r (by omega) (by omega) (by omega) (by omega) (by omega)
  have hS' := Sh_msk hS
  refine ⟨hS'.1, Cf_of h1 (fun k hk => hx k (by omega)) (fun k a b => hx k (by omega)), Tx_of h2 (by rw [hx 25 (by omega)]) (by rw [hm49]) (hx 26 (by omega)) (hx 54 (by omega)), Sg_of h3 (by rw [hx 45 (by omega)]) (by rw [hm49]) (hx 46 (by omega)) (hx 67 (by omega)) (by rw [hx 45 (by omega)]), hS', ?_, Ed_of h7 (by rw [hx 0 (by omega)]) (fun k hk => hx k (by omega)) (by rw [hm49])⟩
  rw [hx 0 (by omega), hm49]
  exact h5
theorem fnd_inv {w : gw} {S : St} {i : Nat} {v : Int32} (h : Inv w S i) : Inv w (up (up S 0 8 v) 49 4 v) (i + 1) := by
  unfold Inv
  rw [msk_up49n (by decide), msk_upn (by decide) (by decide)]
  obtain ⟨h0, h1, h2, h3, h4, h5, h7⟩ := Inv_next h
  generalize hU : (up (up (msk S) 0 8 v) 49 4 v : St) = U
  have hne : ∀ r, r ≠ 0 → r ≠ 49 → U r = msk S r := fun r a b => by rw [← hU, up_ne b, up_ne a]
  have h49 : ∀ j, j ≠ 4 → U 49 j = msk S 49 j := fun j hj => by rw [← hU, up_oth hj, up_ne (by decide)]
  have h0j : ∀ j, j ≠ 8 → U 0 j = msk S 0 j := fun j hj => by rw [← hU, up_ne (by decide), up_oth hj]
  refine ⟨w48_of h0 (hne 48 (by decide) (by decide)), Cf_of2 h1 (fun k a b => hne k (by omega) (by omega)) (fun k a b => hne k (by omega) (by omega)), Tx_of h2 (by rw [hne 25 (by decide) (by decide)]) (h49 6 (by decide)) (hne 26 (by decide) (by decide)) (hne 54 (by decide) (by decide)), Sg_of h3 (by rw [hne 45 (by decide) (by decide)]) (h49 22 (by decide)) (hne 46 (by decide) (by decide)) (hne 67 (by decide) (by decide)) (by rw [hne 45 (by decide) (by decide)]), Sh_of h4 (hne 48 (by decide) (by decide)) (hne 50 (by decide) (by decide)) (hne 51 (by decide) (by decide)) (hne 52 (by decide) (by decide)) (fun k hk => hne k (by omega) (by omega)), ?_, Ed_of h7 (h0j 9 (by decide)) (fun k hk => hne k (by omega) (by omega)) (h49 6 (by decide))⟩
  rw [← hU, up_self, up_ne (by decide), up_self]
/-- one slot changes -/
theorem Sh_slot {w w' : gw} {S S' : St} {s : Nat} (h : Sh w S) (hw : w48 w' S') (hext : ∀ k, shO w k → shO w' k ∧ gln w' (k + 1) = gln w (k + 1)) (hsl : ∀ t, t < 4 → t ≠ s → S' 48 t = S 48 t ∧ S' 50 t = S 50 t ∧ S' 51 t = S 51 t ∧ ∀ j, j < 60 → S' 52 (60 * t + j) = S 52 (60 * t + j)) (hc : ∀ t, t < 4 → t ≠ s → ¬ S 48 t < 0 → S' (ix (S 48 t)) = S (ix (S 48 t)) ∧ S' (ix (S 48 t) + 1) = S (ix (S 48 t) + 1)) (hn : (S' 48 s = -1 ∧ S' 50 s = -1) ∨ (¬ S' 48 s < 0 ∧ shO w' (ix (S' 48 s)) ∧ sm (S' 50 s) 2 ∧ S' (ix (S' 48 s)) 0 = S' 50 s ∧ gln w' (ix (S' 48 s) + 1) ≤ 60 ∧ S' 51 s = nI (gln w' (ix (S' 48 s) + 1)) ∧ ∀ j, j < gln w' (ix (S' 48 s) + 1) → S' (ix (S' 48 s) + 1) j = S' 52 (60 * s + j))) (hd : ∀ t, t < 4 → t ≠ s → ¬ S' 48 s < 0 → S' 48 s ≠ S' 48 t) : Sh w' S' := by
  obtain ⟨a, b, c⟩ := h
  refine ⟨hw, fun t ht => ?_, fun t u ht hu htu hneg => ?_⟩
  · by_cases e : t = s
    · rw [e]; exact hn
    · obtain ⟨e48, e50, e51, e52⟩ := hsl t ht e
      rw [e48, e50, e51]
      rcases b t ht with g | ⟨g1, g2, g3, g4, g5, g6, g7⟩
      · exact Or.inl g
      · obtain ⟨c1, c2⟩ := hc t ht e g1
        obtain ⟨x1, x2⟩ := hext _ g2
        rw [x2, c1, c2]
        exact Or.inr ⟨g1, x1, g3, g4, g5, g6, fun j hj => by rw [e52 j (by omega)]; exact g7 j hj⟩
  · by_cases e : t = s
    · subst e; exact hd u hu (fun g => htu g.symm) hneg
    · by_cases e2 : u = s
      · subst e2
        intro g
        exact hd t ht e (by rw [← g]; exact hneg) g.symm
      · rw [(hsl t ht e).1, (hsl u hu e2).1]
        rw [(hsl t ht e).1] at hneg
        exact c t u ht hu htu hneg
/-- the items of one sheet change -/
theorem Sh_items {w : gw} {S S' : St} {s k : Nat} (h : Sh w S) (hs : s < 4) (h48 : S 48 s = nI k) (hk : k < 2147483648) (e48 : S' 48 = S 48) (e50 : S' 50 = S 50) (e51 : S' 51 = S 51) (e52 : ∀ t j, t < 4 → t ≠ s → j < 60 → S' 52 (60 * t + j) = S 52 (60 * t + j)) (hr : ∀ r, 73 ≤ r → r ≠ k + 1 → S' r = S r) (hi : ∀ j, j < gln w (k + 1) → S' (k + 1) j = S' 52 (60 * s + j)) : Sh w S' := by
  obtain ⟨a, b, c⟩ := id h
  have hix : ix (S 48 s) = k := by rw [h48, ix_nI (by omega)]
  have hpos : ¬ S 48 s < 0 := by rw [h48]; exact nI_pos (by omega)
  have hsO : shO w k := by
    rcases b s hs with g | ⟨g1, g2, -⟩
    · rw [g.1] at hpos; exact absurd (by decide) hpos
    · rw [hix] at g2; exact g2
  refine Sh_slot (s := s) h (w48_of a e48) (fun k hk => ⟨hk, rfl⟩) (fun t ht e => ⟨by rw [e48], by rw [e50], by rw [e51], fun j hj => e52 t j ht e hj⟩) (fun t ht e hn => ?_) ?_ (fun t ht e hn => ?_)
  · rcases b t ht with g | ⟨g1, g2, -⟩
    · rw [g.1] at hn; exact absurd (by decide) hn
    · have hne : ix (S 48 t) ≠ k := fun g => by
        obtain ⟨q, hq, eq⟩ := nI_of g1
        have e3 : ix (S 48 t) = q := by rw [eq, ix_nI hq]
        exact c s t hs ht (fun g => e g.symm) hpos (by rw [h48, eq, ← e3, g])
      have p1 := g2.2.1
      have p2 := hsO.2.1
      have p3 := g2.1
      have p4 := hsO.1
      exact ⟨hr _ g2.1 (by omega), hr _ (by omega) (by omega)⟩
  · rw [e48, e50, e51]
    rcases b s hs with g | ⟨g1, g2, g3, g4, g5, g6, g7⟩
    · exact Or.inl g
    · refine Or.inr ⟨g1, g2, g3, ?_, g5, g6, fun j hj => ?_⟩
      · rw [hix] at g4 ⊢
        rw [hr k hsO.1 (by omega)]; exact g4
      · rw [hix] at hj ⊢
        exact hi j hj
  · rw [e48] at hn ⊢
    exact c s t hs ht (fun g => e g.symm) hn
theorem neg1_lt : (-1 : Int32) < 0 := by decide
theorem neg1_ge : ¬ (0 : Int32) ≤ -1 := by decide
/-- a finding, of both -/
theorem op_lose {w : gw} {S : St} {i : Nat} (h : Inv w S i) (hi : i < 512) (a1 : Int32) : ∃ z1 z2, X_lose w S a1 = some z1 ∧ M_lose z1.2 a1 = some z2 ∧ z1.1 = z2.1 ∧ Inv w z2.2 (i + 1) := by
  rcases sm_or a1 3 with h1 | h1
  · obtain ⟨s, hs, rfl⟩ := h1
    obtain ⟨gx, gm⟩ := isS_t (s := s) (by omega)
    rcases sh_get h (s := s) (by omega) with ⟨g1, g2⟩ | ⟨k, n, f, g1, g2, g3, g4, g5, g6, g7, g8, g9, g10⟩
    · refine ⟨(-10 - 1, up S 0 8 1), (-10 - 1, up (up S 0 8 1) 49 4 1), ?_, ?_, rfl, fnd_inv h⟩
      · unfold X_lose X_finding
        rw [if_neg gx, chk_t (inb_nI (by omega) (by decide)), ix_nI (by omega), g1, if_pos neg1_lt, bnd_ss]
      · show M_lose (up S 0 8 1) _ = _
        unfold M_lose M_met
        rw [if_neg gm, chk_t (inb_nI (by omega) (by decide)), ix_nI (by omega), up_ne (by decide), g2, if_neg neg1_ge, bnd_ss]
    · refine ⟨(nI n, up S 48 s (-1)), (nI n, up (up S 48 s (-1)) 50 s (-1)), ?_, ?_, rfl, ?_⟩
      · unfold X_lose
        rw [if_neg gx, chk_t (inb_nI (by omega) (by decide)), ix_nI (by omega), g1, if_neg (nI_pos (by omega)), chk_t (shB_t g2 g3), chk_t (inb_nI (by omega) (by decide)), ix_nI (by omega), g4]
        rfl
      · show M_lose (up S 48 s (-1)) _ = _
        unfold M_lose
        rw [if_neg gm, chk_t (inb_nI (by omega) (by decide)), ix_nI (by omega), up_ne (by decide), g7, if_pos (nI_pos' (by omega)), chk_t (inb_nI (by omega) (by decide)), chk_t (inb_nI (by omega) (by decide)), up_ne (show 51 ≠ 50 by decide), up_ne (show 51 ≠ 48 by decide), g9]
      · have hS := Sh_un h.2.2.2.2.1
        show Inv w (up (up S 48 s (-1)) 50 s (-1)) (i + 1)
        refine sh_inv h (fun r _ a b _ _ _ _ => by rw [up_ne b, up_ne a]) (fun j _ _ _ => by rw [up_ne (by decide), up_ne (by decide)]) (Sh_slot (s := s) hS ?_ (fun k hk => ⟨hk, rfl⟩) (fun t ht e => ?_) (fun t ht e hn => ?_) (Or.inl ⟨?_, up_self⟩) (fun t ht e hn => ?_))
        · obtain ⟨q1, q2, q3, q4⟩ := hS.1
          refine ⟨q1, q2, q3, fun j => ?_⟩
          rw [up_ne (by decide)]
          by_cases c : j = s
          · rw [c, up_self]; exact Or.inl neg1_lt
          · rw [up_oth c]; exact q4 j
        · exact ⟨by rw [up_ne (by decide), up_oth e], by rw [up_oth e, up_ne (by decide)], by rw [up_ne (by decide), up_ne (by decide)], fun j hj => by rw [up_ne (by decide), up_ne (by decide)]⟩
        · rcases hS.2.1 t ht with g | ⟨-, g, -⟩
          · rw [g.1] at hn; exact absurd neg1_lt hn
          · have := g.1
            exact ⟨by rw [up_ne (by omega), up_ne (by omega)], by rw [up_ne (by omega), up_ne (by omega)]⟩
        · rw [up_ne (by decide), up_self]
        · rw [up_ne (by decide), up_self] at hn; exact absurd neg1_lt hn
  · refine ⟨(-2, S), (-2, S), ?_, ?_, rfl, Inv_next h⟩
    · unfold X_lose
      rw [if_pos (show X_isSheet a1 = 0 from xw_f h1 (by decide))]
    · show M_lose S _ = _
      unfold M_lose
      rw [if_pos (show M_isSheet a1 = 0 from mi_f h1 (by decide))]
/-! ===== lay, get ===== -/
/-- an item's number, or not -/
theorem itemNo {x : Int32} {n : Nat} (hn : n ≤ 60) : (M_in x.toInt64 0 ((nI n - 1).toInt64) = (if ∃ k, k < n ∧ x = nI k then 1 else 0)) := by
  by_cases hz : n = 0
  · subst hz
    rw [if_neg (fun ⟨k, hk, _⟩ => by omega), mi_iff, if_neg]
    rintro ⟨g1, g2⟩
    rw [Int64.le_iff_toInt_le] at g1 g2
    have e1 : ((nI 0 - 1 : Int32).toInt64).toInt = -1 := by decide
    have e2 : (0 : Int64).toInt = 0 := rfl
    omega
  · obtain ⟨M, rfl⟩ : ∃ M, n = M + 1 := ⟨n - 1, by omega⟩
    rw [nI_pred, nI_l (by omega)]
    by_cases c : sm x M
    · rw [if_pos (by obtain ⟨v, h1, h2⟩ := c; exact ⟨v, by omega, h2⟩)]
      exact mi_t c (by omega)
    · rw [if_neg (by rintro ⟨v, h1, h2⟩; exact c ⟨v, by omega, h2⟩)]
      exact mi_f c (by omega)
noncomputable def hIt (n : Nat) (x y : Int32) : Int32 := @ite _ (∃ a b, x = nI a ∧ y = nI b ∧ a + b ≤ n) (Classical.propDecidable _) 1 0
theorem hIt_t {n : Nat} {x y : Int32} (h : ∃ a b, x = nI a ∧ y = nI b ∧ a + b ≤ n) : hIt n x y = 1 := if_pos h
theorem hIt_f {n : Nat} {x y : Int32} (h : ¬ ∃ a b, x = nI a ∧ y = nI b ∧ a + b ≤ n) : hIt n x y = 0 := if_neg h
theorem hasItems_t {w : gw} {S : St} {k n : Nat} (hn : n ≤ 60) (hg : gln w (k + 1) = n) (x y : Int32) : SH_hasItems w S k x y = some (hIt n x y) := by
  unfold SH_hasItems
  rw [hg, show Int32.ofNat n = nI n from rfl]
  by_cases c1 : x < 0
  · rw [if_pos c1, hIt_f]
    rintro ⟨a, b, rfl, -, h⟩
    exact nI_pos (by omega) c1
  · rw [if_neg c1]
    obtain ⟨a, ha, rfl⟩ := nI_of c1
    by_cases c2 : y < 0
    · rw [if_pos c2, hIt_f]
      rintro ⟨a, b, -, rfl, h⟩
      exact nI_pos (by omega) c2
    · rw [if_neg c2]
      obtain ⟨b, hb, rfl⟩ := nI_of c2
      by_cases c3 : n < b
      · rw [if_pos ((nI_ltI (by omega) (by omega)).mpr c3), hIt_f]
        rintro ⟨a', b', e1, e2, h⟩
        have := (nI_eq (by omega) (by omega)).mp e2
        omega
      · rw [if_neg (fun g => c3 ((nI_ltI (by omega) (by omega)).mp g)), pk_sub (by omega)]
        by_cases c4 : n - b < a
        · rw [if_pos ((nI_ltI (by omega) (by omega)).mpr c4), hIt_f]
          rintro ⟨a', b', e1, e2, h⟩
          have := (nI_eq (by omega) (by omega)).mp e1
          have := (nI_eq (by omega) (by omega)).mp e2
          omega
        · rw [if_neg (fun g => c4 ((nI_ltI (by omega) (by omega)).mp g)), hIt_t ⟨a, b, rfl, rfl, by omega⟩]
theorem has1_t {w : gw} {S : St} {k n : Nat} (hn : n ≤ 60) (hg : gln w (k + 1) = n) (x : Int32) : SH_hasItems w S k x 1 = some (if ∃ j, j < n ∧ x = nI j then 1 else 0) := by
  rw [hasItems_t hn hg]
  by_cases c : ∃ j, j < n ∧ x = nI j
  · obtain ⟨j, hj, rfl⟩ := c
    rw [hIt_t (n := n) (x := nI j) (y := 1) ⟨j, 1, rfl, rfl, by omega⟩, if_pos ⟨j, hj, rfl⟩]
  · rw [if_neg c, hIt_f]
    rintro ⟨a, b, e1, e2, h⟩
    have : (1 : Int32) = nI 1 := rfl
    rw [this] at e2
    have := (nI_eq (by omega) (by omega)).mp e2
    exact c ⟨a, by omega, e1⟩
theorem put_t {w : gw} {S : St} {k n f j : Nat} (hn : n ≤ 60) (hg : gln w (k + 1) = n) (hf : S k 0 = nI f) (hj : j < n) (v : Int32) : SH_put w S k (nI j) v = some (up S (k + 1) j (M_cut (nI f) v)) := by
  unfold SH_put M_cut
  rw [hg, hf, chk_t (inb_nI hj (by omega)), chk_t (inb_nI hj (by omega)), chk_t (inb_nI hj (by omega)), ix_nI (by omega)]
  split
  · rfl
  · split <;> rfl
theorem lacks_t {U : St} {s n f : Nat} (hs : s < 4) (hn : n ≤ 60) (h50 : U 50 s = nI f) (hf : f ≤ 2) (h51 : U 51 s = nI n) (x2 x3 : Int32) : M_lacks U (nI s) x2 x3 = if nI f = x2 then (if ∃ j, j < n ∧ x3 = nI j then some (0, U) else some (-10 - 2, up U 49 4 2)) else some (-10 - 3, up U 49 4 3) := by
  unfold M_lacks M_met
  rw [chk_t (inb_nI hs (by decide)), ix_nI (by omega), h50, if_pos (nI_pos' (by omega)), chk_t (inb_nI hs (by decide)), chk_t (inb_nI hs (by decide)), h51, itemNo hn]
  by_cases c : nI f = x2
  · rw [if_pos c, if_pos c]
    by_cases d : ∃ j, j < n ∧ x3 = nI j
    · rw [if_pos d, if_pos d, if_neg n10]
    · rw [if_neg d, if_neg d, if_pos rfl, bnd_ss]
  · rw [if_neg c, if_neg c, bnd_ss]
theorem sixty {s j : Nat} : (60 : Int32) * nI s + nI j = nI (60 * s + j) := by rw [n_60, pk_mul, nI_add]
theorem bad12 : ¬ (-10 - 2 : Int32) = 0 := by decide
theorem bad13 : ¬ (-10 - 3 : Int32) = 0 := by decide
theorem bad11 : ¬ (-10 - 1 : Int32) = 0 := by decide
theorem op_lay {w : gw} {S : St} {i : Nat} (h : Inv w S i) (hi : i < 512) (a1 : Int32) (a2 : Int32) (a3 : Int32) (a4 : Int32) : ∃ z1 z2, X_lay w S a1 a2 a3 a4 = some z1 ∧ M_lay z1.2 a1 a2 a3 a4 = some z2 ∧ z1.1 = z2.1 ∧ Inv w z2.2 (i + 1) := by
  rcases sm_or a1 3 with h1 | h1
  · obtain ⟨s, hs, rfl⟩ := h1
    obtain ⟨gx, gm⟩ := isS_t (s := s) (by omega)
    rcases sm_or a2 2 with h2 | h2
    · have gx2 : ¬ X_isForm a2 = 0 := by rw [show X_isForm a2 = 1 from xw_t h2 (by decide)]; exact n10
      have gm2 : ¬ M_in a2.toInt64 0 2 = 0 := by rw [show M_in a2.toInt64 0 2 = 1 from mi_t h2 (by decide)]; exact n10
      rcases sh_get h (s := s) (by omega) with ⟨g1, g2⟩ | ⟨k, n, f, g1, g2, g3, g4, g5, g6, g7, g8, g9, g10⟩
      · refine ⟨(-10 - 1, up S 0 8 1), (-10 - 1, up (up S 0 8 1) 49 4 1), ?_, ?_, rfl, fnd_inv h⟩
        · unfold X_lay X_findingAt_n X_lay_J44 X_finding
          rw [if_neg gx, if_neg gx2, chk_t (inb_nI (by omega) (by decide)), ix_nI (by omega), g1, if_pos neg1_lt, bnd_ss, bnd_ss]
        · show M_lay (up S 0 8 1) _ _ _ _ = _
          unfold M_lay M_lacks M_met
          rw [if_neg gm, if_neg gm2, chk_t (inb_nI (by omega) (by decide)), ix_nI (by omega), up_ne (by decide), g2, if_neg neg1_ge, bnd_ss, bnd_ss, if_neg bad11]
      · have hX : ∀ z3, X_findingAt w S k a2 a3 = some z3 → X_lay w S (nI s) a2 a3 a4 = if z3 = 0 then bnd (SH_put w S k a3 a4) (fun z4 => some (1, z4)) else X_lay_J44 w S z3 := fun z3 e => by
          unfold X_lay
          rw [if_neg gx, if_neg gx2, chk_t (inb_nI (by omega) (by decide)), ix_nI (by omega), g1, if_neg (nI_pos (by omega)), chk_t (shB_t g2 g3), ix_nI (by omega), e, bnd_ss]
        have hfa : X_findingAt w S k a2 a3 = if nI f = a2 then (if ∃ j, j < n ∧ a3 = nI j then some 0 else some 2) else some 3 := by
          unfold X_findingAt
          rw [g8, has1_t g5 g4, bnd_ss]
          by_cases c : nI f = a2
          · rw [if_pos c, if_pos c]
            by_cases d : ∃ j, j < n ∧ a3 = nI j
            · rw [if_pos d, if_pos d, if_neg n10]
            · rw [if_neg d, if_neg d, if_pos rfl]
          · rw [if_neg c, if_neg c]
        by_cases c : nI f = a2
        · by_cases d : ∃ j, j < n ∧ a3 = nI j
          · rw [if_pos c, if_pos d] at hfa
            obtain ⟨j, hj, rfl⟩ := d
            have hX' := hX 0 hfa
            rw [if_pos rfl, put_t g5 g4 g8 hj, bnd_ss] at hX'
            have hsO := g2.1
            refine ⟨_, (1, up (up S (k + 1) j (M_cut (nI f) a4)) 52 (60 * s + j) (M_cut (nI f) a4)), hX', ?_, rfl, ?_⟩
            · show M_lay (up S (k + 1) j (M_cut (nI f) a4)) _ _ _ _ = _
              unfold M_lay
              rw [if_neg gm, if_neg gm2, lacks_t (s := s) (n := n) (f := f) (by omega) g5 (by rw [up_ne (by omega)]; exact g7) g6 (by rw [up_ne (by omega)]; exact g9), if_pos c, if_pos ⟨j, hj, rfl⟩, bnd_ss, if_pos rfl, sixty, chk_t (inb_nI (show 60 * s + j < 240 by omega) (by decide)), ix_nI (by omega), c]
            · have hS := Sh_un h.2.2.2.2.1
              show Inv w (up (up S (k + 1) j (M_cut (nI f) a4)) 52 (60 * s + j) (M_cut (nI f) a4)) (i + 1)
              refine sh_inv h (fun r r73 _ _ _ a _ _ => by rw [up_ne a, up_ne (by omega)]) (fun j' _ _ _ => by rw [up_ne (by decide), up_ne (by omega)]) (Sh_items (s := s) (k := k) hS (by omega) g1 g3 (by rw [up_ne (by decide), up_ne (by omega)]) (by rw [up_ne (by decide), up_ne (by omega)]) (by rw [up_ne (by decide), up_ne (by omega)]) (fun t j' ht e hj' => by rw [up_oth (by omega), up_ne (by omega)]) (fun r hr e => by rw [up_ne (by omega), up_ne e]) (fun j' hj' => ?_))
              rw [g4] at hj'
              rw [up_ne (by omega)]
              by_cases e : j' = j
              · rw [e, up_self, up_self]
              · rw [up_oth e, up_oth (by omega), up_ne (by omega)]
                exact g10 j' hj'
          · rw [if_pos c, if_neg d] at hfa
            have hX' := hX 2 hfa
            rw [if_neg (by decide)] at hX'
            refine ⟨(-10 - 2, up S 0 8 2), (-10 - 2, up (up S 0 8 2) 49 4 2), hX', ?_, rfl, fnd_inv h⟩
            show M_lay (up S 0 8 2) _ _ _ _ = _
            unfold M_lay
            rw [if_neg gm, if_neg gm2, lacks_t (s := s) (n := n) (f := f) (by omega) g5 (by rw [up_ne (by omega)]; exact g7) g6 (by rw [up_ne (by omega)]; exact g9), if_pos c, if_neg d, bnd_ss, if_neg bad12]
        · rw [if_neg c] at hfa
          have hX' := hX 3 hfa
          rw [if_neg (by decide)] at hX'
          refine ⟨(-10 - 3, up S 0 8 3), (-10 - 3, up (up S 0 8 3) 49 4 3), hX', ?_, rfl, fnd_inv h⟩
          show M_lay (up S 0 8 3) _ _ _ _ = _
          unfold M_lay
          rw [if_neg gm, if_neg gm2, lacks_t (s := s) (n := n) (f := f) (by omega) g5 (by rw [up_ne (by omega)]; exact g7) g6 (by rw [up_ne (by omega)]; exact g9), if_neg c, bnd_ss, if_neg bad13]
    · refine ⟨(-2, S), (-2, S), ?_, ?_, rfl, Inv_next h⟩
      · unfold X_lay
        rw [if_neg gx, if_pos (show X_isForm a2 = 0 from xw_f h2 (by decide))]
      · show M_lay S _ _ _ _ = _
        unfold M_lay
        rw [if_neg gm, if_pos (show M_in a2.toInt64 0 2 = 0 from mi_f h2 (by decide))]
  · refine ⟨(-2, S), (-2, S), ?_, ?_, rfl, Inv_next h⟩
    · unfold X_lay
      rw [if_pos (show X_isSheet a1 = 0 from xw_f h1 (by decide))]
    · show M_lay S _ _ _ _ = _
      unfold M_lay
      rw [if_pos (show M_isSheet a1 = 0 from mi_f h1 (by decide))]
theorem op_get {w : gw} {S : St} {i : Nat} (h : Inv w S i) (hi : i < 512) (a1 : Int32) (a2 : Int32) (a3 : Int32) : ∃ z1 z2, X_get w S a1 a2 a3 = some z1 ∧ M_get z1.2 a1 a2 a3 = some z2 ∧ z1.1 = z2.1 ∧ Inv w z2.2 (i + 1) := by
  rcases sm_or a1 3 with h1 | h1
  · obtain ⟨s, hs, rfl⟩ := h1
    obtain ⟨gx, gm⟩ := isS_t (s := s) (by omega)
    rcases sm_or a2 2 with h2 | h2
    · have gx2 : ¬ X_isForm a2 = 0 := by rw [show X_isForm a2 = 1 from xw_t h2 (by decide)]; exact n10
      have gm2 : ¬ M_in a2.toInt64 0 2 = 0 := by rw [show M_in a2.toInt64 0 2 = 1 from mi_t h2 (by decide)]; exact n10
      rcases sh_get h (s := s) (by omega) with ⟨g1, g2⟩ | ⟨k, n, f, g1, g2, g3, g4, g5, g6, g7, g8, g9, g10⟩
      · refine ⟨(-2147483648, up S 0 8 1), (-2147483648, up (up S 0 8 1) 49 4 1), ?_, ?_, rfl, fnd_inv h⟩
        · unfold X_get X_findingAt_n X_get_J45 X_finding
          rw [if_neg gx, if_neg gx2, chk_t (inb_nI (by omega) (by decide)), ix_nI (by omega), g1, if_pos neg1_lt, bnd_ss, bnd_ss]
        · show M_get (up S 0 8 1) _ _ _ = _
          unfold M_get M_lacks M_met
          rw [if_neg gm, if_neg gm2, chk_t (inb_nI (by omega) (by decide)), ix_nI (by omega), up_ne (by decide), g2, if_neg neg1_ge, bnd_ss, bnd_ss, if_neg bad11]
      · have hX : ∀ z3, X_findingAt w S k a2 a3 = some z3 → X_get w S (nI s) a2 a3 = if z3 = 0 then chk (inb a3 n) (some (S (k + 1) (ix a3), S)) else X_get_J45 w S z3 := fun z3 e => by
          unfold X_get
          rw [if_neg gx, if_neg gx2, chk_t (inb_nI (by omega) (by decide)), ix_nI (by omega), g1, if_neg (nI_pos (by omega)), chk_t (shB_t g2 g3), ix_nI (by omega), e, bnd_ss, g4]
        have hfa : X_findingAt w S k a2 a3 = if nI f = a2 then (if ∃ j, j < n ∧ a3 = nI j then some 0 else some 2) else some 3 := by
          unfold X_findingAt
          rw [g8, has1_t g5 g4, bnd_ss]
          by_cases c : nI f = a2
          · rw [if_pos c, if_pos c]
            by_cases d : ∃ j, j < n ∧ a3 = nI j
            · rw [if_pos d, if_pos d, if_neg n10]
            · rw [if_neg d, if_neg d, if_pos rfl]
          · rw [if_neg c, if_neg c]
        by_cases c : nI f = a2
        · by_cases d : ∃ j, j < n ∧ a3 = nI j
          · rw [if_pos c, if_pos d] at hfa
            have d' := d
            obtain ⟨j, hj, rfl⟩ := d
            have hX' := hX 0 hfa
            rw [if_pos rfl, chk_t (inb_nI hj (by omega)), ix_nI (by omega), g10 j hj] at hX'
            refine ⟨_, (S 52 (60 * s + j), S), hX', ?_, rfl, Inv_next h⟩
            show M_get S _ _ _ = _
            unfold M_get
            rw [if_neg gm, if_neg gm2, lacks_t (s := s) (n := n) (f := f) (by omega) g5 g7 g6 g9, if_pos c, if_pos d', bnd_ss, if_pos rfl, sixty, chk_t (inb_nI (show 60 * s + j < 240 by omega) (by decide)), ix_nI (by omega)]
          · rw [if_pos c, if_neg d] at hfa
            have hX' := hX 2 hfa
            rw [if_neg (by decide)] at hX'
            refine ⟨(-2147483648, up S 0 8 2), (-2147483648, up (up S 0 8 2) 49 4 2), hX', ?_, rfl, fnd_inv h⟩
            show M_get (up S 0 8 2) _ _ _ = _
            unfold M_get
            rw [if_neg gm, if_neg gm2, lacks_t (s := s) (n := n) (f := f) (by omega) g5 (by rw [up_ne (by omega)]; exact g7) g6 (by rw [up_ne (by omega)]; exact g9), if_pos c, if_neg d, bnd_ss, if_neg bad12]
        · rw [if_neg c] at hfa
          have hX' := hX 3 hfa
          rw [if_neg (by decide)] at hX'
          refine ⟨(-2147483648, up S 0 8 3), (-2147483648, up (up S 0 8 3) 49 4 3), hX', ?_, rfl, fnd_inv h⟩
          show M_get (up S 0 8 3) _ _ _ = _
          unfold M_get
          rw [if_neg gm, if_neg gm2, lacks_t (s := s) (n := n) (f := f) (by omega) g5 (by rw [up_ne (by omega)]; exact g7) g6 (by rw [up_ne (by omega)]; exact g9), if_neg c, bnd_ss, if_neg bad13]
    · refine ⟨(-2147483648, S), (-2147483648, S), ?_, ?_, rfl, Inv_next h⟩
      · unfold X_get
        rw [if_neg gx, if_pos (show X_isForm a2 = 0 from xw_f h2 (by decide))]
      · show M_get S _ _ _ = _
        unfold M_get
        rw [if_neg gm, if_pos (show M_in a2.toInt64 0 2 = 0 from mi_f h2 (by decide))]
  · refine ⟨(-2147483648, S), (-2147483648, S), ?_, ?_, rfl, Inv_next h⟩
    · unfold X_get
      rw [if_pos (show X_isSheet a1 = 0 from xw_f h1 (by decide))]
    · show M_get S _ _ _ = _
      unfold M_get
      rw [if_pos (show M_isSheet a1 = 0 from mi_f h1 (by decide))]
