/-! ===== seen, forget ===== -/
theorem sgP_up {r : Nat → Int32} {k j : Nat} {v : Int32} (hj : 2 * k ≤ j) : ∀ (m : Nat), m ≤ k → ∀ e, sgP (upd r j v) m e = sgP r m e := by
  intro m
  induction m with
  | zero => intro _ e; rfl
  | succ m ih =>
    intro hm e
    unfold sgP
    rw [pk_un (show 2 * m ≠ j by omega), pk_un (show 2 * m + 1 ≠ j by omega), ih (by omega) e]
theorem sgW_up {r : Nat → Int32} {k j : Nat} {v : Int32} (hj : 2 * k ≤ j) : ∀ (m : Nat), m ≤ k → sgW (upd r j v) m = sgW r m := by
  intro m
  induction m with
  | zero => intro _; rfl
  | succ m ih =>
    intro hm
    unfold sgW
    rw [pk_un (show 2 * m ≠ j by omega), pk_un (show 2 * m + 1 ≠ j by omega), ih (by omega), sgP_up hj m (by omega)]
theorem clear_t (S : St) : SI_clear S = some (up (up (fun k => if k = 46 then (fun e => if e < 10 then -1 else S 46 e) else S k) 45 2 0) 45 3 0) := by
  have hrow : ∀ j, j ≤ 10 → (fun k => if k = 46 then (fun e => if e < j then -1 else S 46 e) else S k : St) = (fun k => if k = 46 then (fun e => if e < j then -1 else S 46 e) else S k) := fun _ _ => rfl
  unfold SI_clear
  have hg : lp (σ := Int32 × St) (fun q => SI_clear_L2 q.2 q.1) FZ (0, S) = some ((nI 10, (fun k => if k = 46 then (fun e => if e < 10 then -1 else S 46 e) else S k)), 1) := by
    refine lp_1 (fun j => (nI j, (fun k => if k = 46 then (fun e => if e < j then -1 else S 46 e) else S k))) 10 ?_ ?_ ?_ (by decide)
    · refine Prod.ext rfl ?_
      funext k
      show S k = if k = 46 then (fun e => if e < 0 then -1 else S 46 e) else S k
      by_cases hk : k = 46
      · subst hk
        rw [if_pos rfl]
        funext e
        rw [if_neg (by omega)]
      · rw [if_neg hk]
    · intro j hj
      show SI_clear_L2 _ (nI j) = _
      unfold SI_clear_L2
      rw [if_neg (by rw [show (10 : Int32) = nI 10 from rfl, nI_leI (by decide) (by omega)]; omega), chk_t (inb_nI hj (by decide)), ix_nI (by omega), nI_1]
      refine congrArg (fun T : St => some ((nI (j + 1), T), 0)) ?_
      funext k
      by_cases hk : k = 46
      · subst hk
        rw [up_eq]
        show upd (if 46 = 46 then (fun e => if e < j then -1 else S 46 e) else S 46) j (-1) = if 46 = 46 then (fun e => if e < j + 1 then -1 else S 46 e) else S 46
        rw [if_pos rfl, if_pos rfl]
        funext e
        by_cases he : e = j
        · subst he
          rw [pk_us, if_pos (by omega)]
        · rw [pk_un he]
          by_cases h2 : e < j
          · rw [if_pos h2, if_pos (by omega)]
          · rw [if_neg h2, if_neg (by omega)]
      · rw [up_ne hk]
        show (if k = 46 then _ else S k) = if k = 46 then _ else S k
        rw [if_neg hk, if_neg hk]
    · show SI_clear_L2 _ (nI 10) = _
      unfold SI_clear_L2
      rw [if_pos (show (10 : Int32) ≤ nI 10 by decide)]
  rw [bnd_t hg]
  rfl
theorem op_forget {w : gw} {S : St} {i : Nat} (h : Inv w S i) (hi : i < 512)  : ∃ z1 z2, X_forget S = some z1 ∧ M_forget z1.2 = some z2 ∧ z1.1 = z2.1 ∧ Inv w z2.2 (i + 1) := by
  generalize hT : (up (up (fun k => if k = 46 then (fun e => if e < 10 then -1 else S 46 e) else S k) 45 2 0) 45 3 0 : St) = T
  have hTne : ∀ k, k ≠ 45 → k ≠ 46 → T k = S k := fun k a1 a2 => by
    rw [← hT, up_ne a1, up_ne a1, if_neg a2]
  refine ⟨(S 45 3, T), (S 49 22, up T 49 22 0), ?_, ?_, ?_, ?_⟩
  · unfold X_forget
    rw [bnd_t (clear_t S), hT]
  · show M_forget T = _
    unfold M_forget
    rw [hTne 49 (by omega) (by omega)]
  · obtain ⟨k, -, e1, e2, -⟩ := h.2.2.2.1
    exact e1.trans e2.symm
  · unfold Inv
    rw [msk_up49n (by decide)]
    obtain ⟨h0, h1, h2, h3, h4, h5, h6⟩ := Inv_next h
    have hm : ∀ k, k ≠ 45 → k ≠ 46 → msk T k = msk S k := fun k a1 a2 => by
      unfold msk
      rw [hTne k a1 a2, hTne 49 (by omega) (by omega)]
    have hne : ∀ k, k ≠ 45 → k ≠ 46 → k ≠ 49 → (up (msk T) 49 22 0) k = msk S k := fun k a1 a2 a3 => by
      rw [up_ne a3, hm k a1 a2]
    have h49 : ∀ j, j ≠ 22 → (up (msk T) 49 22 0) 49 j = msk S 49 j := fun j hj => by
      rw [up_oth hj, hm 49 (by omega) (by omega)]
    refine ⟨w48_of h0 (hne 48 (by omega) (by omega) (by omega)), Cf_of h1 (fun k hk => hne k (by omega) (by omega) (by omega)) (fun k hk hk2 => hne k (by omega) (by omega) (by omega)), Tx_of h2 (by rw [hne 25 (by omega) (by omega) (by omega)]) (h49 6 (by omega)) (hne 26 (by omega) (by omega) (by omega)) (hne 54 (by omega) (by omega) (by omega)), ?_, Sh_of h4 (hne 48 (by omega) (by omega) (by omega)) (hne 50 (by omega) (by omega) (by omega)) (hne 51 (by omega) (by omega) (by omega)) (hne 52 (by omega) (by omega) (by omega)) (fun k hk => hne k (by omega) (by omega) (by omega)), ?_, Ed_of h6 (by rw [hne 0 (by omega) (by omega) (by omega)]) (fun k hk => hne k (by omega) (by omega) (by omega)) (h49 6 (by omega))⟩
    · have e45 : (up (msk T) 49 22 0) 45 = T 45 := by rw [up_ne (by omega)]; rfl
      have e46 : (up (msk T) 49 22 0) 46 = T 46 := by rw [up_ne (by omega)]; rfl
      refine ⟨0, by omega, ?_, by rw [up_self]; rfl, fun j hj => by omega, fun e he => ?_, ?_⟩
      · rw [e45, ← hT, up_self]; rfl
      · rw [e46, ← hT, up_ne (by omega), up_ne (by omega), if_pos rfl]
        show (if e < 10 then (-1 : Int32) else _) = _
        rw [if_pos he]
        rfl
      · rw [e45, ← hT, up_oth (by decide), up_self]
        rfl
    · rw [h49 4 (by omega), hne 0 (by omega) (by omega) (by omega)]
      exact h5
theorem op_seen {w : gw} {S : St} {i : Nat} (h : Inv w S i) (hi : i < 512) (a1 : Int32) (a2 : Int32) : ∃ z1 z2, X_seen S a1 a2 = some z1 ∧ M_seen z1.2 a1 a2 = some z2 ∧ z1.1 = z2.1 ∧ Inv w z2.2 (i + 1) := by
  obtain ⟨k, hk, e1, e2, hr, hP, hF⟩ := h.2.2.2.1
  have e1 : S 45 3 = nI k := e1
  have e2 : S 49 22 = nI k := e2
  have hP : ∀ e, e < 10 → S 46 e = sgP (S 67) k e := hP
  have hF : S 45 2 = (if sgW (S 67) k = true then 0 else 1) := hF
  have hr : ∀ j, j < k → sm (S 67 (2 * j)) 9 ∧ sm (S 67 (2 * j + 1)) 4 := hr
  rcases sm_or a1 9 with h1 | h1
  · have gx : ¬ X_isEvening a1 = 0 := by rw [show X_isEvening a1 = 1 from xw_t h1 (by decide)]; exact n10
    have gm : ¬ M_isEvening a1 = 0 := by rw [show M_isEvening a1 = 1 from mi_t h1 (by decide)]; exact n10
    rcases sm_or a2 4 with h2 | h2
    · have gx2 : ¬ X_isProgramme a2 = 0 := by rw [show X_isProgramme a2 = 1 from xw_t h2 (by decide)]; exact n10
      have gm2 : ¬ M_in a2.toInt64 0 4 = 0 := by rw [show M_in a2.toInt64 0 4 = 1 from mi_t h2 (by decide)]; exact n10
      by_cases hf : k = 8
      · refine ⟨(-4, S), (-4, S), ?_, ?_, rfl, Inv_next h⟩
        · unfold X_seen
          rw [if_neg gx, if_neg gx2, if_neg]
          rw [e1, hf]
          decide
        · show M_seen S a1 a2 = _
          unfold M_seen
          rw [if_neg gm, if_neg gm2, if_pos]
          rw [e2, hf]
          rfl
      · have hk8 : k < 8 := by omega
        obtain ⟨e, he, rfl⟩ := id h1
        obtain ⟨fl, hfl⟩ : ∃ fl : Int32, fl = (if sgW (S 67) k = true ∧ (sgP (S 67) k e = -1 ∨ sgP (S 67) k e = a2) then 0 else 1) := ⟨_, rfl⟩
        have hX : ∃ T : St, X_seen S (nI e) a2 = some (nI (k + 1), T) ∧ (∀ q, q ≠ 45 → q ≠ 46 → T q = S q) ∧ T 45 3 = nI (k + 1) ∧ T 45 2 = fl ∧ T 46 = upd (S 46) e a2 := by
          have hnote : ∀ (T0 : St), T0 45 3 = nI k → T0 46 = S 46 → SI_note_J25 T0 (nI e) a2 = some (up (up T0 46 e a2) 45 3 (nI (k + 1))) := by
            intro T0 q1 q2
            unfold SI_note_J25
            rw [chk_t (inb_nI (by omega) (by decide)), ix_nI (by omega), up_ne (show 45 ≠ 46 by decide), q1, nI_1]
          unfold X_seen SI_note
          rw [if_neg gx, if_neg gx2, if_pos (by rw [e1]; exact nI_lt (b := 8) hk8 (by decide)), chk_t (inb_nI (by omega) (by decide)), ix_nI (by omega), hP e (by omega)]
          have fin : ∀ (T0 : St), T0 45 3 = nI k → (∀ q, q ≠ 45 → T0 q = S q) → T0 45 2 = fl → ∃ T : St, bnd (SI_note_J25 T0 (nI e) a2) (fun z1 => some (z1 45 3, z1)) = some (nI (k + 1), T) ∧ (∀ q, q ≠ 45 → q ≠ 46 → T q = S q) ∧ T 45 3 = nI (k + 1) ∧ T 45 2 = fl ∧ T 46 = upd (S 46) e a2 := by
            intro T0 q1 q2 q3
            refine ⟨up (up T0 46 e a2) 45 3 (nI (k + 1)), ?_, ?_, by rw [up_self], by rw [up_oth (by decide), up_ne (by decide)]; exact q3, by rw [up_ne (by decide), up_eq, q2 46 (by decide)]⟩
            · rw [bnd_t (hnote T0 q1 (q2 46 (by decide))), up_self]
            · intro q b1 b2
              rw [up_ne b1, up_ne b2, q2 q b1]
          by_cases c1 : sgP (S 67) k e = -1
          · rw [if_pos c1]
            refine fin S e1 (fun _ _ => rfl) ?_
            rw [hF, hfl]
            by_cases c3 : sgW (S 67) k = true
            · rw [if_pos c3, if_pos ⟨c3, Or.inl c1⟩]
            · rw [if_neg c3, if_neg (fun q => c3 q.1)]
          · rw [if_neg c1, chk_t (inb_nI (by omega) (by decide))]
            by_cases c2 : sgP (S 67) k e = a2
            · rw [if_pos c2]
              refine fin S e1 (fun _ _ => rfl) ?_
              rw [hF, hfl]
              by_cases c3 : sgW (S 67) k = true
              · rw [if_pos c3, if_pos ⟨c3, Or.inr c2⟩]
              · rw [if_neg c3, if_neg (fun q => c3 q.1)]
            · rw [if_neg c2]
              refine fin (up S 45 2 1) (by rw [up_oth (by decide)]; exact e1) (fun q hq => up_ne hq) ?_
              rw [up_self, hfl, if_neg]
              rintro ⟨-, q | q⟩
              · exact c1 q
              · exact c2 q
        obtain ⟨T, hX1, hTne, hT3, hT2, hT46⟩ := hX
        have hTd : T 49 22 = nI k := by rw [hTne 49 (by omega) (by omega)]; exact e2
        refine ⟨(nI (k + 1), T), (nI (k + 1), up (up (up T 67 (2 * k) (nI e)) 67 (2 * k + 1) a2) 49 22 (nI (k + 1))), hX1, ?_, rfl, ?_⟩
        · show M_seen T (nI e) a2 = _
          unfold M_seen
          rw [if_neg gm, if_neg gm2, hTd, if_neg (by rw [show (8 : Int32) = nI 8 from rfl, nI_eq (by omega) (by decide)]; exact hf), show (2 : Int32) * nI k = nI (2 * k) by rw [show (2 : Int32) = nI 2 from rfl, pk_mul], chk_t (inb_nI (by omega) (by decide)), ix_nI (by omega), up_ne (show 49 ≠ 67 by decide), hTd, show (2 : Int32) * nI k = nI (2 * k) by rw [show (2 : Int32) = nI 2 from rfl, pk_mul], nI_1, chk_t (inb_nI (by omega) (by decide)), ix_nI (by omega), up_ne (show 49 ≠ 67 by decide), up_ne (show 49 ≠ 67 by decide), hTd, nI_1, up_self]
        · unfold Inv
          rw [msk_up49n (by decide), msk_upn (by decide) (by omega), msk_upn (by decide) (by omega)]
          obtain ⟨h0, h1', h2', h3, h4, h5, h6⟩ := Inv_next h
          have hm : ∀ q, q ≠ 45 → q ≠ 46 → msk T q = msk S q := fun q b1 b2 => by
            unfold msk
            rw [hTne q b1 b2, hTne 49 (by omega) (by omega)]
          generalize hU : (up (up (up (msk T) 67 (2 * k) (nI e)) 67 (2 * k + 1) a2) 49 22 (nI (k + 1)) : St) = U
          have hne : ∀ q, q ≠ 45 → q ≠ 46 → q ≠ 49 → q ≠ 67 → U q = msk S q := fun q b1 b2 b3 b4 => by
            rw [← hU, up_ne b3, up_ne b4, up_ne b4, hm q b1 b2]
          have h49 : ∀ j, j ≠ 22 → U 49 j = msk S 49 j := fun j hj => by
            rw [← hU, up_oth hj, up_ne (by omega), up_ne (by omega), hm 49 (by omega) (by omega)]
          have u67 : U 67 = upd (upd (S 67) (2 * k) (nI e)) (2 * k + 1) a2 := by
            rw [← hU, up_ne (by omega), up_eq, up_eq, hm 67 (by omega) (by omega)]
            rfl
          have u45 : ∀ j, U 45 j = T 45 j := fun j => by
            rw [← hU, up_ne (by omega), up_ne (by omega), up_ne (by omega)]
            rfl
          have u46 : U 46 = upd (S 46) e a2 := by
            rw [← hU, up_ne (by omega), up_ne (by omega), up_ne (by omega)]
            exact hT46
          refine ⟨w48_of h0 (hne 48 (by omega) (by omega) (by omega) (by omega)), Cf_of h1' (fun q hq => hne q (by omega) (by omega) (by omega) (by omega)) (fun q hq hq2 => hne q (by omega) (by omega) (by omega) (by omega)), Tx_of h2' (by rw [hne 25 (by omega) (by omega) (by omega) (by omega)]) (h49 6 (by omega)) (hne 26 (by omega) (by omega) (by omega) (by omega)) (hne 54 (by omega) (by omega) (by omega) (by omega)), ?_, Sh_of h4 (hne 48 (by omega) (by omega) (by omega) (by omega)) (hne 50 (by omega) (by omega) (by omega) (by omega)) (hne 51 (by omega) (by omega) (by omega) (by omega)) (hne 52 (by omega) (by omega) (by omega) (by omega)) (fun q hq => hne q (by omega) (by omega) (by omega) (by omega)), ?_, Ed_of h6 (by rw [hne 0 (by omega) (by omega) (by omega) (by omega)]) (fun q hq => hne q (by omega) (by omega) (by omega) (by omega)) (h49 6 (by omega))⟩
          · have hPold : ∀ q, sgP (U 67) k q = sgP (S 67) k q := fun q => by rw [u67, sgP_up (k := k) (by omega) k (Nat.le_refl _), sgP_up (k := k) (by omega) k (Nat.le_refl _)]
            have hWold : sgW (U 67) k = sgW (S 67) k := by rw [u67, sgW_up (k := k) (by omega) k (Nat.le_refl _), sgW_up (k := k) (by omega) k (Nat.le_refl _)]
            have v1 : U 67 (2 * k) = nI e := by rw [u67, pk_un (by omega), pk_us]
            have v2 : U 67 (2 * k + 1) = a2 := by rw [u67, pk_us]
            refine ⟨k + 1, by omega, by rw [u45]; exact hT3, by rw [← hU, up_self], fun j hj => ?_, fun q hq => ?_, ?_⟩
            · by_cases hjk : j = k
              · subst hjk
                rw [v1, v2]
                exact ⟨h1, h2⟩
              · rw [u67, pk_un (by omega), pk_un (by omega), pk_un (by omega), pk_un (by omega)]
                exact hr j (by omega)
            · show U 46 q = if U 67 (2 * k) = nI q then U 67 (2 * k + 1) else sgP (U 67) k q
              rw [v1, v2, hPold, u46]
              by_cases hqe : q = e
              · subst hqe
                rw [pk_us, if_pos rfl]
              · rw [pk_un hqe, if_neg (by rw [nI_eq (by omega) (by omega)]; omega)]
                exact hP q hq
            · show U 45 2 = if (sgW (U 67) k && (decide (sgP (U 67) k (ix (U 67 (2 * k))) = -1) || decide (sgP (U 67) k (ix (U 67 (2 * k))) = U 67 (2 * k + 1)))) = true then 0 else 1
              rw [u45, hT2, hfl, hWold, v1, v2, ix_nI (by omega), hPold]
              simp only [Bool.and_eq_true, Bool.or_eq_true, decide_eq_true_eq]
          · rw [h49 4 (by omega), hne 0 (by omega) (by omega) (by omega) (by omega)]
            exact h5
    · refine ⟨(-2, S), (-2, S), ?_, ?_, rfl, Inv_next h⟩
      · unfold X_seen
        rw [if_neg gx, if_pos (show X_isProgramme a2 = 0 from xw_f h2 (by decide))]
      · show M_seen S a1 a2 = _
        unfold M_seen
        rw [if_neg gm, if_pos (show M_in a2.toInt64 0 4 = 0 from mi_f h2 (by decide))]
  · refine ⟨(-2, S), (-2, S), ?_, ?_, rfl, Inv_next h⟩
    · unfold X_seen
      rw [if_pos (show X_isEvening a1 = 0 from xw_f h1 (by decide))]
    · show M_seen S a1 a2 = _
      unfold M_seen
      rw [if_pos (show M_isEvening a1 = 0 from mi_f h1 (by decide))]
