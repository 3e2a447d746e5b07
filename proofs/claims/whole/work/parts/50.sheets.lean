/-! ===== sheets: an object at an even place from 73 on, its items at the next ===== -/
def shO (w : gw) (k : Nat) : Prop := 73 ≤ k ∧ (k - 73) % 2 = 0 ∧ k + 1 < gN w
def shB (w : gw) (x : Int32) : Bool := decide (73 ≤ ix x ∧ (ix x - 73) % 2 = 0 ∧ ix x + 1 < gN w)
theorem shB_in {w : gw} {x : Int32} (h : shB w x = true) : shO w (ix x) := by
  have h2 : 73 ≤ ix x ∧ (ix x - 73) % 2 = 0 ∧ ix x + 1 < gN w := of_decide_eq_true h
  exact h2
theorem shO.lt {w : gw} {k : Nat} (h : shO w k) : k < gN w := Nat.lt_of_succ_lt h.2.2
theorem celr_dy {w : gw} {k : Nat} (r : Nat → Int32) (h : 73 ≤ k) : celr w k r = dyr w k r := by
  unfold celr
  rw [List.getD_eq_getElem?_getD, List.getElem?_eq_none (by
    show (fxr w r).length ≤ k
    exact h)]
  rfl
theorem shO.obj {w : gw} {k : Nat} (h : shO w k) (r : Nat → Int32) : celr w k r = .inr (4, [.int (r 0), .ref (gad w (k + 1))]) := by
  rw [celr_dy r h.1]
  unfold dyr
  rw [if_pos h.2.1]
theorem shO.arr {w : gw} {k : Nat} (h : shO w k) (r : Nat → Int32) : celr w (k + 1) r = ar_i w (gln w (k + 1)) r := by
  rw [celr_dy r (by have := h.1; omega)]
  unfold dyr
  rw [if_neg (by have := h.1; have := h.2.1; omega)]
  rfl
def upR (S : St) (k : Nat) (r : Nat → Int32) : St := fun j => cond (Nat.beq j k) r (S j)
theorem upR_ne {S : St} {k : Nat} {r : Nat → Int32} {j : Nat} (h : j ≠ k) : upR S k r j = S j := by
  have e : Nat.beq j k = false := by
    cases hb : Nat.beq j k with
    | false => rfl
    | true => exact absurd (Nat.eq_of_beq_eq_true hb) h
  simp [upR, e]
theorem upR_eq {S : St} {k : Nat} {r : Nat → Int32} : upR S k r k = r := by
  simp [upR, Nat.beq_refl]
def cpB (sp dp n : Int32) (n0 n1 : Nat) : Bool := decide (¬ sp < 0 ∧ ¬ dp < 0 ∧ ¬ n < 0 ∧ ix sp + ix n ≤ n0 ∧ ix dp + ix n ≤ n1)
theorem cpB_in {sp dp n : Int32} {n0 n1 : Nat} (h : cpB sp dp n n0 n1 = true) : ¬ sp < 0 ∧ ¬ dp < 0 ∧ ¬ n < 0 ∧ ix sp + ix n ≤ n0 ∧ ix dp + ix n ≤ n1 := of_decide_eq_true h
theorem qn_ac : Cond.native arraycopyName ∈ lw_g := g_mem 614 (by decide +kernel) (by decide +kernel)
section GS
variable {p : Program} {l : Launch} {e : Env} {R : Room} {s : State} {m : MethodId} {args : Array Value} {below : List Frame} {meth : Method} {c : Code} {H : Heap} {locs : List Loc} {cells slots : Nat} {Q : State → Prop}
variable {cc : ByteArray} {pc nL : Nat} {rt : Option FieldType} {own : String} {ls : Array Slot} {rest : List Value} {A : Nat → Prop} {w : gw} {S : St}
theorem g_aldS (C : gCx p s m args meth c own cc nL rt) (hG : GH w s A S H locs) {j : Nat} {i : Int32} (hin : vp_in i 4) (hj : i.toNatClampNeg = j) (hdg : decode cc pc = .ok (.aaload, 1))
    (kn : S 48 j < 0 → W p l e R s m args below meth c H locs cells slots Q (F0 m (pc + 1) ls (.null :: rest))) (kr : ¬ S 48 j < 0 → W p l e R s m args below meth c H locs cells slots Q (F0 m (pc + 1) ls (.ref (gad w (ix (S 48 j))) :: rest))) : W p l e R s m args below meth c H locs cells slots Q (F0 m pc ls (.int i :: .ref (gad w 48) :: rest)) := by
  subst hj
  have hG0 := hG
  obtain ⟨hx, hb, -⟩ := C
  obtain ⟨hK, hP, -⟩ := hG
  refine va_aldq (D := gD w) (C := "EveningAuction$Sheet") hx hb hK hP 48 2 (by rw [gws_at (hG0.lt (Nat.le_of_ble_eq_true rfl)), ce48]; rfl) rfl hin hdg ?_
  unfold sh_r
  by_cases hc : S 48 i.toNatClampNeg < 0
  · rw [if_pos hc]
    exact kn hc
  · rw [if_neg hc]
    exact kr hc
theorem g_astN (C : gCx p s m args meth c own cc nL rt) (hG : GH w s A S H locs) {j : Nat} {i : Int32} (hin : vp_in i 4) (hj : i.toNatClampNeg = j) (hdg : decode cc pc = .ok (.aastore, 1))
    (kk : ∀ (H1 : Heap) (locs1 : List Loc), GH w s A (up S 48 j (-1)) H1 locs1 → W p l e R s m args below meth c H1 locs1 cells slots Q (F0 m (pc + 1) ls rest)) : W p l e R s m args below meth c H locs cells slots Q (F0 m pc ls (.null :: .int i :: .ref (gad w 48) :: rest)) := by
  subst hj
  have hG0 := hG
  have h48 : 48 < gN w := hG0.lt (Nat.le_of_ble_eq_true rfl)
  obtain ⟨hx, hb, -⟩ := C
  obtain ⟨hK, hP, hD, hS, -⟩ := hG
  refine va_astqN (D := gD w) (C := "EveningAuction$Sheet") hx hb hK hP hD hS 48 2 (by rw [gws_at h48, ce48]; rfl) rfl hin hdg (fun H1 locs1 hP1 _ hS1 => kk H1 locs1 ?_)
  rw [gws_set (S' := up S 48 i.toNatClampNeg (-1)) h48 (by
    rw [up_eq, ce48]
    unfold ar_s
    have e : (fun j => sh_r w (upd (S 48) i.toNatClampNeg (-1) j)) = va_up (fun j => sh_r w (S 48 j)) i.toNatClampNeg none := by
      funext j
      unfold va_up upd
      by_cases hj : j = i.toNatClampNeg
      · rw [if_pos hj, if_pos hj]
        rfl
      · rw [if_neg hj, if_neg hj]
    rw [e]) (fun j hj => up_ne hj)] at hP1
  exact hG0.next hP1 hS1
theorem g_copy (C : gCx p s m args meth c own cc nL rt) (hG : GH w s A S H locs) {k0 k1 idx n0 n1 : Nat} {sp dp n : Int32} (hls : ls.size = nL) (h0 : k0 < gN w) (h1 : k1 < gN w) (hc0 : ∀ r, celr w k0 r = ar_i w n0 r) (hc1 : ∀ r, celr w k1 r = ar_i w n1 r) (hin : ¬ sp < 0 ∧ ¬ dp < 0 ∧ ¬ n < 0 ∧ ix sp + ix n ≤ n0 ∧ ix dp + ix n ≤ n1) (hl : Cond.methodLink own idx arraycopyName ∈ lw_g) (hn : Cond.native arraycopyName ∈ lw_g) (hst : Cond.static arraycopyName ∈ lw_g) (hini : Cond.initialized "java/lang/System" ∈ lw_g) (hR : 1 ≤ R.frames ∧ 8 + (nativeFrameWords "java/lang/System" "arraycopy" 5 + 11) ≤ R.locals) (hre : (rest.map fun v => v.category).sum ≤ 8) (hdg : decode cc pc = .ok (.invokestatic idx, 3))
    (kk : ∀ (H1 : Heap) (locs1 : List Loc), GH w s A (upR S k1 (va_cpy (S k0) (S k1) (ix sp) (ix dp) (ix n))) H1 locs1 → W p l e R s m args below meth c H1 locs1 cells slots Q (F0 m (pc + 3) ls rest)) : W p l e R s m args below meth c H locs cells slots Q (F0 m pc ls (.int n :: .int dp :: .ref (gad w k1) :: .int sp :: .ref (gad w k0) :: rest)) := by
  obtain ⟨hx, hb, hml, hown, hts, -⟩ := C
  have hG0 := hG
  obtain ⟨hK, hP, hD, hS, -⟩ := hG
  refine va_copyi (D := gD w) (ty := .int) hx hb (hml.trans hls.symm) hown (hts _ hl) (hts _ hn) (hts _ hst) (hts _ hini) hK hP hD hS k0 k1 0 0 (by rw [gws_at h0, hc0]; rfl) (by rw [gws_at h1, hc1]; rfl) rfl rfl rfl hin.1 hin.2.1 hin.2.2.1 hin.2.2.2.1 hin.2.2.2.2 (fun i _ => rfl) hR.1 (by omega) hdg (fun H1 locs1 hP1 _ hS1 => kk H1 locs1 ?_)
  rw [gws_set (S' := upR S k1 (va_cpy (S k0) (S k1) (ix sp) (ix dp) (ix n))) h1 (by rw [upR_eq, hc1]; rfl) (fun j hj => upR_ne hj)] at hP1
  exact hG0.next hP1 hS1
end GS
