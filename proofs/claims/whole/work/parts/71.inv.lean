/-! ===== what holds between class and reference ===== -/
/-- bidders, evenings, rules -/
def Cf (S : St) : Prop :=
  (∀ b, b < 5 → S 2 b = S 56 b ∧ sm (S 56 b) 999) ∧
  (∀ b, b < 5 → S 3 b = S 57 b ∧ sm (S 57 b) 4) ∧
  (∀ b e, b < 5 → e < 10 → S (5 + b) e = S 58 (10 * b + e) ∧ sm (S 58 (10 * b + e)) 99) ∧
  (∀ b p, b < 5 → p < 5 → S (11 + b) p = S 59 (5 * b + p) ∧ sm (S 59 (5 * b + p)) 9) ∧
  (∀ b, b < 5 → ∃ B, B < 1024 ∧ S 63 b = nI B ∧ ∀ e, e < 10 → S (17 + b) e = nI (B / 2 ^ e % 2)) ∧
  (∀ e, e < 10 → S 22 e = S 60 e ∧ sm (S 60 e) 99) ∧
  (∀ e, e < 10 → S 23 e = S 61 e ∧ sm (S 61 e) 16) ∧
  (S 24 0 = S 62 0 ∧ (∃ v, 1 ≤ v ∧ v ≤ 20 ∧ S 62 0 = nI v)) ∧ (S 24 1 = S 62 1 ∧ sm (S 62 1) 1) ∧ (S 24 2 = S 62 2 ∧ (∃ v, 1 ≤ v ∧ v ≤ 10 ∧ S 62 2 = nI v))
/-- the text -/
def Tx (S : St) : Prop := ∃ n, n ≤ 100 ∧ S 25 1 = nI n ∧ S 49 6 = nI n ∧ ∀ j, j < n → S 26 j = S 54 j ∧ sm (S 54 j) 255
/-- what was seen, by the reference's row of it -/
def sgP (r : Nat → Int32) : Nat → Nat → Int32
  | 0, _ => -1
  | k + 1, e => if r (2 * k) = nI e then r (2 * k + 1) else sgP r k e
def sgW (r : Nat → Int32) : Nat → Bool
  | 0 => true
  | k + 1 => sgW r k && (decide (sgP r k (ix (r (2 * k))) = -1) || decide (sgP r k (ix (r (2 * k))) = r (2 * k + 1)))
def Sg (S : St) : Prop := ∃ k, k ≤ 8 ∧ S 45 3 = nI k ∧ S 49 22 = nI k ∧ (∀ j, j < k → sm (S 67 (2 * j)) 9 ∧ sm (S 67 (2 * j + 1)) 4) ∧ (∀ e, e < 10 → S 46 e = sgP (S 67) k e) ∧ S 45 2 = (if sgW (S 67) k = true then 0 else 1)
/-- sheets -/
def Sh (w : gw) (S : St) : Prop := w48 w S ∧ (∀ s, s < 4 → (S 48 s = -1 ∧ S 50 s = -1) ∨ (¬ S 48 s < 0 ∧ shO w (ix (S 48 s)) ∧ sm (S 50 s) 2 ∧ S (ix (S 48 s)) 0 = S 50 s ∧ gln w (ix (S 48 s) + 1) ≤ 60 ∧ S 51 s = nI (gln w (ix (S 48 s) + 1)) ∧ ∀ j, j < gln w (ix (S 48 s) + 1) → S (ix (S 48 s) + 1) j = S 52 (60 * s + j))) ∧ (∀ s t, s < 4 → t < 4 → s ≠ t → ¬ S 48 s < 0 → S 48 s ≠ S 48 t)
/-- what was worked out of the bids, of one evening each, of clubs (by the rows that it rests on) -/
def nR (r : Nat → Int32) : Nat → Nat := fun j => ix (r j)
def vR (r : Nat → Int32) : Nat → Nat → Nat := fun b e => ix (r (10 * b + e))
def OcS (r25 r27 r28 r29 r30 r31 r32 tx pu rs st : Nat → Int32) (n : Int32) : Prop :=
  r25 2 = flt (nR tx) (ix n) ∧ r25 3 = nI (nb (nR tx) (ix n)) ∧
  (∀ e, e < 10 → r29 e = ldX (nR tx) (jl (nR tx) (nR pu) (nR rs) (ix (st 0)) 1000 (nb (nR tx) (ix n))) e ∧ r30 e = nI (amX (nR tx) (jl (nR tx) (nR pu) (nR rs) (ix (st 0)) 1000 (nb (nR tx) (ix n))) e) ∧ r31 e = nI (jsec (nR tx) (nR pu) (nR rs) (ix (st 0)) 1000 (nb (nR tx) (ix n)) e)) ∧
  (∀ b, b < 5 → r32 b = nI (bsum (nR tx) (jl (nR tx) (nR pu) (nR rs) (ix (st 0)) 1000 (nb (nR tx) (ix n))) b 10)) ∧
  (∀ j, j < nb (nR tx) (ix n) → r28 j = if hld (nR tx) (nR pu) (nR rs) (ix (st 0)) 1000 j = true then 1 else 0) ∧
  r27 5 = nI (nh (nR tx) (nR pu) (nR rs) (ix (st 0)) 1000 (nb (nR tx) (ix n))) ∧
  r27 6 = (if fn (nR tx) (nR pu) (nR rs) (ix (st 0)) 1000 (nb (nR tx) (ix n)) = 0 then mI else nI (fn (nR tx) (nR pu) (nR rs) (ix (st 0)) 1000 (nb (nR tx) (ix n)) - 1))
def OeS (r39 r41 r42 va : Nat → Int32) : Prop := r39 3 = nI (mo (vR va) 5 5 0) ∧ (∀ b, b < 5 → r41 b = (if cc (vR va) b = 0 then mI else nI (cc (vR va) b - 1)) ∧ r42 b = nI (mo (vR va) b 5 0))
def ClS (r44 va rs : Nat → Int32) : Prop := ∀ x, x < 32 → r44 x = nI (cw (vR va) (nR rs) x)
def OcOK (S : St) : Prop := OcS (S 25) (S 27) (S 28) (S 29) (S 30) (S 31) (S 32) (S 54) (S 56) (S 60) (S 62) (S 49 6)
def OeOK (S : St) : Prop := OeS (S 39) (S 41) (S 42) (S 58)
def ClOK (S : St) : Prop := ClS (S 44) (S 58) (S 60)
/-- what was worked out is of this edition, or older -/
def Ed (S : St) (i : Nat) : Prop := ∃ ed, 1 ≤ ed ∧ ed ≤ 1 + 11 * i ∧ S 0 9 = nI ed ∧ (∃ e1, e1 ≤ ed ∧ S 27 7 = nI e1 ∧ (e1 = ed → OcOK S)) ∧ (∃ e2, e2 ≤ ed ∧ S 39 4 = nI e2 ∧ (e2 = ed → OeOK S)) ∧ (∃ e3, e3 ≤ ed ∧ S 43 1 = nI e3 ∧ (e3 = ed → ClOK S))
def Inv' (w : gw) (S : St) (i : Nat) : Prop := w48 w S ∧ Cf S ∧ Tx S ∧ Sg S ∧ Sh w S ∧ S 0 8 = S 49 4 ∧ Ed S i
def Inv (w : gw) (S : St) (i : Nat) : Prop := Inv' w (msk S) i
theorem Inv_48 {w : gw} {S : St} {i : Nat} (h : Inv w S i) : w48 w S := h.1
theorem Inv_msk {w : gw} {S S' : St} {i : Nat} (e : msk S' = msk S) (h : Inv w S i) : Inv w S' i := by
  unfold Inv at h ⊢
  rw [e]
  exact h
theorem Ed_next {S : St} {i : Nat} (h : Ed S i) : Ed S (i + 1) := by
  obtain ⟨ed, h1, h2, h3⟩ := h
  exact ⟨ed, h1, by omega, h3⟩
theorem Inv_next {w : gw} {S : St} {i : Nat} (h : Inv w S i) : Inv w S (i + 1) := by
  obtain ⟨h0, h1, h2, h3, h4, h5, h7⟩ := h
  exact ⟨h0, h1, h2, h3, h4, h5, Ed_next h7⟩
/-! the mask at each place -/
theorem mk_at (S : St) {k : Nat} (h : (scr k || Nat.beq k 49) = false) : msk S k = S k := by
  cases h1 : scr k with
  | true => rw [h1] at h; cases h
  | false =>
    rw [h1] at h
    exact msk_at h1 (fun e => by rw [e] at h; cases h)
theorem mk_row (S : St) {b : Nat} (h : b < 22) : msk S b = S b := by
  match b, h with
  | 0, _ | 1, _ | 2, _ | 3, _ | 4, _ | 5, _ | 6, _ | 7, _ | 8, _ | 9, _ | 10, _ | 11, _ | 12, _ | 13, _ | 14, _ | 15, _ | 16, _ | 17, _ | 18, _ | 19, _ | 20, _ | 21, _ => rfl
  | b + 22, h => exact absurd h (by omega)
theorem mk_dyn (S : St) {k : Nat} (h : 73 ≤ k) : msk S k = S k := by
  refine msk_at ?_ (by omega)
  unfold scr
  cases hc : List.contains [33, 34, 35, 36, 37, 38, 40, 47, 53, 55, 64, 65, 66, 68, 69, 70, 71, 72] k with
  | false => rfl
  | true =>
    rw [List.contains_iff_mem] at hc
    simp only [List.mem_cons, List.not_mem_nil, or_false] at hc
    omega
theorem mk_49 (S : St) {j : Nat} (h : (Nat.beq j 7 || Nat.beq j 8 || Nat.beq j 20) = false) : msk S 49 j = S 49 j := by
  show cond (Nat.beq j 7 || Nat.beq j 8 || Nat.beq j 20) 0 (S 49 j) = S 49 j
  rw [h]
  rfl
/-! parts that a call leaves as they are -/
theorem Tx_of {S S' : St} (h : Tx S) (h1 : S' 25 1 = S 25 1) (h2 : S' 49 6 = S 49 6) (h3 : S' 26 = S 26) (h4 : S' 54 = S 54) : Tx S' := by
  unfold Tx at h ⊢
  rw [h1, h2, h3, h4]
  exact h
theorem Sg_of {S S' : St} (h : Sg S) (h1 : S' 45 3 = S 45 3) (h2 : S' 49 22 = S 49 22) (h3 : S' 46 = S 46) (h4 : S' 67 = S 67) (h5 : S' 45 2 = S 45 2) : Sg S' := by
  unfold Sg at h ⊢
  rw [h1, h2, h3, h4, h5]
  exact h
theorem w48_of {w : gw} {S S' : St} (h : w48 w S) (h1 : S' 48 = S 48) : w48 w S' := by
  unfold w48 at h ⊢
  rw [h1]
  exact h
theorem Sh_of {w : gw} {S S' : St} (h : Sh w S) (h1 : S' 48 = S 48) (h2 : S' 50 = S 50) (h3 : S' 51 = S 51) (h4 : S' 52 = S 52) (h5 : ∀ k, 73 ≤ k → S' k = S k) : Sh w S' := by
  obtain ⟨a, b, c⟩ := h
  refine ⟨w48_of a h1, fun s hs => ?_, by rw [h1]; exact c⟩
  rw [h1, h2, h3, h4]
  rcases b s hs with h | ⟨g1, g2, g3, g4, g5, g6, g7⟩
  · exact Or.inl h
  · refine Or.inr ⟨g1, g2, g3, ?_, g5, g6, fun j hj => ?_⟩
    · rw [h5 _ g2.1]; exact g4
    · rw [h5 _ (by have := g2.1; omega)]; exact g7 j hj
theorem Cf_of {S S' : St} (h : Cf S) (hl : ∀ k, k < 25 → S' k = S k) (hm : ∀ k, 56 ≤ k → k < 64 → S' k = S k) : Cf S' := by
  obtain ⟨h1, h2, h3, h4, h5, h6, h7, h8, h9, h10⟩ := h
  have e56 := hm 56 (by omega) (by omega)
  have e57 := hm 57 (by omega) (by omega)
  have e58 := hm 58 (by omega) (by omega)
  have e59 := hm 59 (by omega) (by omega)
  have e60 := hm 60 (by omega) (by omega)
  have e61 := hm 61 (by omega) (by omega)
  have e62 := hm 62 (by omega) (by omega)
  have e63 := hm 63 (by omega) (by omega)
  refine ⟨?_, ?_, ?_, ?_, ?_, ?_, ?_, ?_, ?_, ?_⟩
  · rw [hl 2 (by omega), e56]; exact h1
  · rw [hl 3 (by omega), e57]; exact h2
  · intro b e hb he; rw [hl (5 + b) (by omega), e58]; exact h3 b e hb he
  · intro b p hb hp; rw [hl (11 + b) (by omega), e59]; exact h4 b p hb hp
  · intro b hb; rw [hl (17 + b) (by omega), e63]; exact h5 b hb
  · rw [hl 22 (by omega), e60]; exact h6
  · rw [hl 23 (by omega), e61]; exact h7
  · rw [hl 24 (by omega), e62]; exact h8
  · rw [hl 24 (by omega), e62]; exact h9
  · rw [hl 24 (by omega), e62]; exact h10
/-- a change raises the edition: nothing that was worked out is of it -/
theorem Ed_up {S S' : St} {i d : Nat} (h : Ed S i) (hi : i < 512) (hd : 1 ≤ d ∧ d ≤ 11) (h1 : S' 0 9 = S 0 9 + nI d) (h2 : S' 27 7 = S 27 7) (h3 : S' 39 4 = S 39 4) (h4 : S' 43 1 = S 43 1) : Ed S' (i + 1) := by
  obtain ⟨ed, a1, a2, a3, ⟨e1, b1, b2, -⟩, ⟨e2, c1, c2, -⟩, ⟨e3, d1, d2, -⟩⟩ := h
  refine ⟨ed + d, by omega, by omega, by rw [h1, a3, nI_add], ⟨e1, by omega, by rw [h2]; exact b2, fun q => by omega⟩, ⟨e2, by omega, by rw [h3]; exact c2, fun q => by omega⟩, ⟨e3, by omega, by rw [h4]; exact d2, fun q => by omega⟩⟩
theorem Ed_of {S S' : St} {i : Nat} (h : Ed S i) (h0 : S' 0 9 = S 0 9) (hk : ∀ k, (25 ≤ k ∧ k < 45 ∧ k ≠ 26) ∨ k = 54 ∨ k = 56 ∨ k = 58 ∨ k = 60 ∨ k = 62 → S' k = S k) (h49 : S' 49 6 = S 49 6) : Ed S' i := by
  unfold Ed OcOK OeOK ClOK at h ⊢
  rw [h0, h49, hk 25 (by omega), hk 27 (by omega), hk 28 (by omega), hk 29 (by omega), hk 30 (by omega), hk 31 (by omega), hk 32 (by omega), hk 39 (by omega), hk 41 (by omega), hk 42 (by omega), hk 43 (by omega), hk 44 (by omega), hk 54 (by omega), hk 56 (by omega), hk 58 (by omega), hk 60 (by omega), hk 62 (by omega)]
  exact h
