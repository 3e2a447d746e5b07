theorem d_SH_init_0 : decode b_SH_init 0 = .ok (.aload_n 0, 1) := by decide +kernel
theorem d_SH_init_1 : decode b_SH_init 1 = .ok (.invokespecial 3, 3) := by decide +kernel
theorem d_SH_init_4 : decode b_SH_init 4 = .ok (.aload_n 0, 1) := by decide +kernel
theorem d_SH_init_5 : decode b_SH_init 5 = .ok (.iload_n 1, 1) := by decide +kernel
theorem d_SH_init_6 : decode b_SH_init 6 = .ok (.putfield 9, 3) := by decide +kernel
theorem d_SH_init_9 : decode b_SH_init 9 = .ok (.aload_n 0, 1) := by decide +kernel
theorem d_SH_init_10 : decode b_SH_init 10 = .ok (.iload_n 2, 1) := by decide +kernel
theorem d_SH_init_11 : decode b_SH_init 11 = .ok (.newarray .int, 2) := by decide +kernel
theorem d_SH_init_13 : decode b_SH_init 13 = .ok (.putfield 15, 3) := by decide +kernel
theorem d_SH_init_16 : decode b_SH_init 16 = .ok (.return_, 1) := by decide +kernel
theorem d_X_sheet_0 : decode b_X_sheet 0 = .ok (.iload_n 1, 1) := by decide +kernel
theorem d_X_sheet_1 : decode b_X_sheet 1 = .ok (.invokestatic 140, 3) := by decide +kernel
theorem d_X_sheet_4 : decode b_X_sheet 4 = .ok (.ifCond .eq 16, 3) := by decide +kernel
theorem d_X_sheet_7 : decode b_X_sheet 7 = .ok (.iload_n 2, 1) := by decide +kernel
theorem d_X_sheet_8 : decode b_X_sheet 8 = .ok (.invokestatic 253, 3) := by decide +kernel
theorem d_X_sheet_11 : decode b_X_sheet 11 = .ok (.ifCond .eq 9, 3) := by decide +kernel
theorem d_X_sheet_14 : decode b_X_sheet 14 = .ok (.iload_n 3, 1) := by decide +kernel
theorem d_X_sheet_15 : decode b_X_sheet 15 = .ok (.bipush 60, 2) := by decide +kernel
theorem d_X_sheet_17 : decode b_X_sheet 17 = .ok (.if_icmp .le 6, 3) := by decide +kernel
theorem d_X_sheet_20 : decode b_X_sheet 20 = .ok (.bipush (-2), 2) := by decide +kernel
theorem d_X_sheet_22 : decode b_X_sheet 22 = .ok (.ireturn, 1) := by decide +kernel
theorem d_X_sheet_23 : decode b_X_sheet 23 = .ok (.iload_n 3, 1) := by decide +kernel
theorem d_X_sheet_24 : decode b_X_sheet 24 = .ok (.ifCond .ge 9, 3) := by decide +kernel
theorem d_X_sheet_27 : decode b_X_sheet 27 = .ok (.aload_n 0, 1) := by decide +kernel
theorem d_X_sheet_28 : decode b_X_sheet 28 = .ok (.iconst 5, 1) := by decide +kernel
theorem d_X_sheet_29 : decode b_X_sheet 29 = .ok (.invokevirtual 143, 3) := by decide +kernel
theorem d_X_sheet_32 : decode b_X_sheet 32 = .ok (.ireturn, 1) := by decide +kernel
theorem d_X_sheet_33 : decode b_X_sheet 33 = .ok (.aload_n 0, 1) := by decide +kernel
theorem d_X_sheet_34 : decode b_X_sheet 34 = .ok (.getfield 56, 3) := by decide +kernel
theorem d_X_sheet_37 : decode b_X_sheet 37 = .ok (.iload_n 1, 1) := by decide +kernel
theorem d_X_sheet_38 : decode b_X_sheet 38 = .ok (.new 54, 3) := by decide +kernel
theorem d_X_sheet_41 : decode b_X_sheet 41 = .ok (.dup, 1) := by decide +kernel
theorem d_X_sheet_42 : decode b_X_sheet 42 = .ok (.iload_n 2, 1) := by decide +kernel
theorem d_X_sheet_43 : decode b_X_sheet 43 = .ok (.iload_n 3, 1) := by decide +kernel
theorem d_X_sheet_44 : decode b_X_sheet 44 = .ok (.invokespecial 256, 3) := by decide +kernel
theorem d_X_sheet_47 : decode b_X_sheet 47 = .ok (.aastore, 1) := by decide +kernel
theorem d_X_sheet_48 : decode b_X_sheet 48 = .ok (.iload_n 3, 1) := by decide +kernel
theorem d_X_sheet_49 : decode b_X_sheet 49 = .ok (.ireturn, 1) := by decide +kernel
theorem qx570 : Cond.instantiable "EveningAuction$Sheet" 2 ∈ lw_g := g_mem 570 (by decide +kernel) (by decide +kernel)
def MP (D : va_G) (cI : ClassId) (sz : Nat) (ws : va_W) (U : State) : Prop := U.heap.size = sz ∧ va_P D vwCl ws U.heap ∧ va_K D vwCl [(cI, .int)] U ∧ va_D (fun _ => True) ws
theorem MP_blind {D : va_G} {cI : ClassId} {sz : Nat} {ws : va_W} {av : List Value} : FrameBlind (va_Pc av (MP D cI sz ws)) := by
  intro a U g mk q
  obtain ⟨q0, q1, qP, qK, qD⟩ := q
  exact ⟨q0, q1, qP, va_K.moved (u := U) (U := U.calling g mk a) (Vm.Alike.refl U.vm) qK, qD⟩
abbrev sh0 (h0 : Nat) : va_W := [(h0, .inr (4, [.int 0, .null]))]
abbrev sh1 (cI : ClassId) (h0 : Nat) (x1 x2 : Int32) (q : Nat) : va_W := [(h0, .inr (4, [.int x1, .ref q])), (q, .inl (cI, ix x2, .inl (fun _ => 0)))]
set_option maxHeartbeats 4000000 in
set_option maxRecDepth 100000 in
theorem c_SH_init (l : Launch) (D : va_G) (cI : ClassId) (h0 : Nat) (x1 x2 : Int32) (hx2 : ¬ x2 < 0 ∧ ix x2 ≤ 60) : ∀ sz : Nat, Met l y_SH_init (.code y_SH_init b_SH_init 3 none :: lw_g) { frames := 1, cells := 1, slots := 60, locals := 20 } (va_Pc [.ref h0, .int x1, .int x2] (MP D cI sz (sh0 h0))) (va_Qv (fun _ : Nat => True) (fun q t => va_P D vwCl (sh1 cI h0 x1 x2 q) t.heap ∧ va_D (va_A (sh0 h0) sz) (sh1 cI h0 x1 x2 q)) (va_A (sh0 h0) sz)) 1 60 (va_A (sh0 h0) sz) := by
  intro sz
  refine Met.ofW (cc := b_SH_init) (maxL := 3) (ret := none) (by decide +kernel) rfl ?_
  intro p e s m args below meth c s₁ B hml hv
  obtain ⟨rfl, hsz, hP, hK, hD0⟩ := hv
  subst hsz
  have hts0 := atoms_spec (ws := .code y_SH_init b_SH_init 3 none :: lw_g) B.pre
  have C : gCx p s m ([.ref h0, .int x1, .int x2] : List Value).toArray meth c y_SH_init.cls b_SH_init 3 none := ⟨B.exec, B.bytes, hml, findClass_of_methodNamed B.named, fun x hx => hts0 x (List.mem_cons_of_mem _ hx), B.returns, B.notSynchronized⟩
  have hin0 : meth.name = "<init>" := (name_of_methodNamed B.named B.method).1
  have hD := hD0.self (sz := s.heap.size)
  generalize hAe : va_A (sh0 h0) s.heap.size = A at hD ⊢
  have hA : ∀ q : Nat, s.heap.size ≤ q → A q := fun q h => by rw [← hAe]; exact Or.inr h
  have hS : va_S A s.heap s.heap [] := va_S.rf
  have hl := lv_entry ([.ref h0, .int x1, .int x2]) (n := 3) (Nat.le_of_ble_eq_true rfl)
  rw [lg_entry_eq]
  generalize (lg_sl ([.ref h0, .int x1, .int x2]) ++ List.replicate (3 - (lg_sl ([.ref h0, .int x1, .int x2])).length) Slot.unset).toArray = ls at hl ⊢
  have hl : lv_has ls 3 [(0, .ref h0), (1, .int x1), (2, .int x2)] := hl
  obtain ⟨hx, hb, -, hown, hts, hr, hlk⟩ := id C
  refine lv_aload_n hx hb d_SH_init_0 rfl (lv_at hl 0 rfl) ?_
  refine n_obj C qw574 qw19 qobj hl.1 ⟨by decide, by decide⟩ (Nat.le_of_ble_eq_true rfl) d_SH_init_1 ?_
  refine lv_aload_n hx hb d_SH_init_4 rfl (lv_at hl 0 rfl) ?_
  refine lv_iload_n hx hb d_SH_init_5 rfl (lv_at hl 1 rfl) ?_
  refine va_putF (D := D) (C := RC4) (T := TC4) (N := 2) (ci := 4) (ty := .int) hx hb hts inC4 tyC4 okC4 nmC4 hown hK hP hD hS 0 rfl rfl 0 (by decide) (hts _ qw575) (fun _ h9 => h9) rfl hin0 rfl (by decide +kernel) rfl rfl (Nat.le_of_ble_eq_true rfl) d_SH_init_6 (fun H locs hP hD hS => ?_)
  have hP : va_P D vwCl [(h0, .inr (4, [.int x1, .null]))] H := hP
  have hD : va_D A [(h0, .inr (4, [.int x1, .null]))] := hD
  refine lv_aload_n hx hb d_SH_init_9 rfl (lv_at hl 0 rfl) ?_
  refine lv_iload_n hx hb d_SH_init_10 rfl (lv_at hl 2 rfl) ?_
  refine va_newa (D := D) (atype := .int) (ty := .int) (a0 := (ix x2, .inl (fun _ => 0))) hx hb (hts _ qx69) rfl hK hP hD hS hA (fun cA => rfl) hx2.1 rfl (by have := hx2.2; show ix x2 * 4 ≤ _; omega) (Nat.le_of_ble_eq_true rfl) (by have := hx2.2; show 0 + ix x2 ≤ 60; omega) d_SH_init_11 (fun q cA H hK1 hP hD hS => ?_)
  have e1 : cA = cI := Option.some.inj ((hK1.2 1 (cA, .int) rfl).2.symm.trans (hK.2 0 (cI, .int) rfl).2)
  subst e1
  refine W.widen (k := 1) (n := 60) (by omega) (by have := hx2.2; show 0 + ix x2 ≤ 60; omega) ?_
  have hP : va_P D vwCl [(h0, .inr (4, [.int x1, .null])), (q, .inl (cA, ix x2, .inl (fun _ => 0)))] H := hP
  have hD : va_D A [(h0, .inr (4, [.int x1, .null])), (q, .inl (cA, ix x2, .inl (fun _ => 0)))] := hD
  refine va_putF (D := D) (C := RC4) (T := TC4) (N := 2) (ci := 4) (ty := .array .int) hx hb hts inC4 tyC4 okC4 nmC4 hown hK hP hD hS 0 rfl rfl 1 (by decide) (hts _ qw577) (fun _ h9 => h9) rfl hin0 rfl (by decide +kernel) rfl rfl (Nat.le_of_ble_eq_true rfl) d_SH_init_13 (fun H locs hP hD hS => ?_)
  have hP : va_P D vwCl (sh1 cA h0 x1 x2 q) H := hP
  have hD : va_D A (sh1 cA h0 x1 x2 q) := hD
  exact W.vret hx hb hr (fun t ht hW => ⟨⟨q, rfl, trivial, by show va_P _ _ _ t.heap; rw [ht]; exact hP, hD⟩, hS.F ht⟩) hS.2.2 d_SH_init_16 hlk
/-- the world with one sheet more -/
def wext (w : gw) (q1 q2 n : Nat) : gw := (gD w, (gcI w, gcZ w, gcQ w, gcR w), gN w + 2, (fun k => if k = gN w then q1 else if k = gN w + 1 then q2 else gad w k), (fun k => if k = gN w + 1 then n else gln w k), (gt1 w, gt2 w, gt3 w))
def sext (w : gw) (S : St) (x1 x2 : Int32) : St := up (fun k => if k = gN w then (fun i => if i = 0 then x2 else 0) else if k = gN w + 1 then (fun _ => 0) else S k) 48 (ix x1) (Int32.ofNat (gN w))
def w48 (w : gw) (S : St) : Prop := 73 ≤ gN w ∧ (gN w - 73) % 2 = 0 ∧ gN w < 2000000000 ∧ ∀ j, S 48 j < 0 ∨ ix (S 48 j) < gN w
theorem wext_ad {w : gw} {q1 q2 n k : Nat} (h : k < gN w) : gad (wext w q1 q2 n) k = gad w k := by
  show (if k = gN w then q1 else if k = gN w + 1 then q2 else gad w k) = gad w k
  rw [if_neg (by omega), if_neg (by omega)]
theorem wext_ln {w : gw} {q1 q2 n k : Nat} (h : k < gN w) : gln (wext w q1 q2 n) k = gln w k := by
  show (if k = gN w + 1 then n else gln w k) = gln w k
  rw [if_neg (by omega)]
theorem wext_cel {w : gw} {q1 q2 n k : Nat} (hN : 73 ≤ gN w) (hev : (gN w - 73) % 2 = 0) (h : k < gN w) (h48 : k ≠ 48) (r : Nat → Int32) : celr (wext w q1 q2 n) k r = celr w k r := by
  have had : ∀ j, j < 73 → gad (wext w q1 q2 n) j = gad w j := fun j hj => wext_ad (by omega)
  by_cases hk : k < 73
  · have h2 : ∀ b, b + 5 ≤ 73 → ar_2 (wext w q1 q2 n) b = ar_2 w b := by
      intro b hb
      unfold ar_2
      have e : (fun i => if i < 5 then some (gad (wext w q1 q2 n) (b + i)) else none) = (fun i => if i < 5 then some (gad w (b + i)) else none) := by
        funext i
        by_cases hi : i < 5
        · rw [if_pos hi, if_pos hi, had (b + i) (by omega)]
        · rw [if_neg hi, if_neg hi]
      rw [e]
      rfl
    have key : ∀ j, j < 73 → j ≠ 48 → celr (wext w q1 q2 n) j r = celr w j r := by
      intro j hj hj2
      match j, hj, hj2 with
      | 0, _, _ => rw [ce0, ce0]; rw [had 1 (by decide), had 25 (by decide), had 27 (by decide), had 33 (by decide), had 39 (by decide), had 43 (by decide), had 45 (by decide), had 48 (by decide)]
      | 1, _, _ => rw [ce1, ce1]; rw [had 2 (by decide), had 3 (by decide), had 4 (by decide), had 10 (by decide), had 16 (by decide), had 22 (by decide), had 23 (by decide), had 24 (by decide)]
      | 2, _, _ => rfl
      | 3, _, _ => rfl
      | 4, _, _ => rw [ce4, ce4]; exact h2 5 (by decide)
      | 5, _, _ => rfl
      | 6, _, _ => rfl
      | 7, _, _ => rfl
      | 8, _, _ => rfl
      | 9, _, _ => rfl
      | 10, _, _ => rw [ce10, ce10]; exact h2 11 (by decide)
      | 11, _, _ => rfl
      | 12, _, _ => rfl
      | 13, _, _ => rfl
      | 14, _, _ => rfl
      | 15, _, _ => rfl
      | 16, _, _ => rw [ce16, ce16]; exact h2 17 (by decide)
      | 17, _, _ => rfl
      | 18, _, _ => rfl
      | 19, _, _ => rfl
      | 20, _, _ => rfl
      | 21, _, _ => rfl
      | 22, _, _ => rfl
      | 23, _, _ => rfl
      | 24, _, _ => rfl
      | 25, _, _ => rw [ce25, ce25]; rw [had 26 (by decide)]
      | 26, _, _ => rfl
      | 27, _, _ => rw [ce27, ce27]; rw [had 28 (by decide), had 29 (by decide), had 30 (by decide), had 31 (by decide), had 32 (by decide)]
      | 28, _, _ => rfl
      | 29, _, _ => rfl
      | 30, _, _ => rfl
      | 31, _, _ => rfl
      | 32, _, _ => rfl
      | 33, _, _ => rw [ce33, ce33]; rw [had 34 (by decide), had 35 (by decide), had 36 (by decide), had 37 (by decide), had 38 (by decide)]
      | 34, _, _ => rfl
      | 35, _, _ => rfl
      | 36, _, _ => rfl
      | 37, _, _ => rfl
      | 38, _, _ => rfl
      | 39, _, _ => rw [ce39, ce39]; rw [had 40 (by decide), had 41 (by decide), had 42 (by decide)]
      | 40, _, _ => rfl
      | 41, _, _ => rfl
      | 42, _, _ => rfl
      | 43, _, _ => rw [ce43, ce43]; rw [had 44 (by decide)]
      | 44, _, _ => rfl
      | 45, _, _ => rw [ce45, ce45]; rw [had 46 (by decide), had 47 (by decide)]
      | 46, _, _ => rfl
      | 47, _, _ => rfl
      | 48, _, h => exact absurd rfl h
      | 49, _, _ => rw [ce49, ce49]; rw [had 50 (by decide), had 51 (by decide), had 52 (by decide), had 53 (by decide), had 54 (by decide), had 55 (by decide), had 56 (by decide), had 57 (by decide), had 58 (by decide), had 59 (by decide), had 60 (by decide), had 61 (by decide), had 62 (by decide), had 63 (by decide), had 64 (by decide), had 65 (by decide), had 66 (by decide), had 67 (by decide), had 68 (by decide), had 69 (by decide), had 70 (by decide), had 71 (by decide), had 72 (by decide)]
      | 50, _, _ => rfl
      | 51, _, _ => rfl
      | 52, _, _ => rfl
      | 53, _, _ => rfl
      | 54, _, _ => rfl
      | 55, _, _ => rfl
      | 56, _, _ => rfl
      | 57, _, _ => rfl
      | 58, _, _ => rfl
      | 59, _, _ => rfl
      | 60, _, _ => rfl
      | 61, _, _ => rfl
      | 62, _, _ => rfl
      | 63, _, _ => rfl
      | 64, _, _ => rfl
      | 65, _, _ => rfl
      | 66, _, _ => rfl
      | 67, _, _ => rfl
      | 68, _, _ => rfl
      | 69, _, _ => rfl
      | 70, _, _ => rfl
      | 71, _, _ => rfl
      | 72, _, _ => rfl
      | j + 73, hj, _ => exact absurd hj (by omega)
    exact key k hk h48
  · rw [celr_dy r (by omega), celr_dy r (by omega)]
    unfold dyr
    by_cases hp : (k - 73) % 2 = 0
    · rw [if_pos hp, if_pos hp, wext_ad (by omega)]
    · rw [if_neg hp, if_neg hp, wext_ln h]
      rfl
theorem wext_gws {w : gw} {S : St} {q1 q2 n : Nat} {x1 x2 : Int32} (h : w48 w S) : gws (wext w q1 q2 n) (sext w S x1 x2) = ((gws w S).set 48 (gad w 48, .inl (gcQ w, 4, .inr (.inr (.inr (.inr (va_up (fun i => sh_r w (S 48 i)) (ix x1) (some q1)))))))) ++ [(q1, .inr (4, [.int x2, .ref q2])), (q2, .inl (gcI w, n, .inl (fun _ => 0)))] := by
  obtain ⟨hN, hev, hbig, h48⟩ := h
  have hS : ∀ k, k ≠ 48 → sext w S x1 x2 k = (if k = gN w then (fun i => if i = 0 then x2 else 0) else if k = gN w + 1 then (fun _ => 0) else S k) := fun k hk => up_ne hk
  have hS48 : sext w S x1 x2 48 = upd (S 48) (ix x1) (Int32.ofNat (gN w)) := by
    unfold sext
    rw [up_eq]
    congr 1
    show (if 48 = gN w then _ else if 48 = gN w + 1 then _ else S 48) = S 48
    rw [if_neg (by omega), if_neg (by omega)]
  have hixN : ix (Int32.ofNat (gN w)) = gN w := Int32.toNatClampNeg_ofNat_of_lt (by omega)
  have hposN : ¬ (Int32.ofNat (gN w)) < 0 := nI_pos (n := gN w) (by omega)
  unfold gws
  show (List.range (gN w + 2)).map _ = _
  rw [List.range_succ, List.range_succ, List.append_assoc, List.map_append]
  congr 1
  · apply List.ext_getElem?
    intro j
    by_cases hj : j < gN w
    · rw [List.getElem?_map, List.getElem?_range hj]
      by_cases h8 : j = 48
      · subst h8
        rw [List.getElem?_set_self (by rw [List.length_map, List.length_range]; omega)]
        show some (gad (wext w q1 q2 n) 48, celr (wext w q1 q2 n) 48 (sext w S x1 x2 48)) = _
        rw [wext_ad (by omega), ce48, hS48]
        unfold ar_s
        have e : (fun i => sh_r (wext w q1 q2 n) (upd (S 48) (ix x1) (Int32.ofNat (gN w)) i)) = va_up (fun i => sh_r w (S 48 i)) (ix x1) (some q1) := by
          funext i
          unfold upd va_up
          by_cases hi : i = ix x1
          · rw [if_pos hi, if_pos hi]
            unfold sh_r
            rw [if_neg hposN]
            show some (gad (wext w q1 q2 n) (ix (Int32.ofNat (gN w)))) = some q1
            rw [hixN]
            show some (if gN w = gN w then q1 else _) = some q1
            rw [if_pos rfl]
          · rw [if_neg hi, if_neg hi]
            show (if S 48 i < 0 then none else some (gad (wext w q1 q2 n) (ix (S 48 i)))) = (if S 48 i < 0 then none else some (gad w (ix (S 48 i))))
            by_cases hneg : S 48 i < 0
            · rw [if_pos hneg, if_pos hneg]
            · rw [if_neg hneg, if_neg hneg]
              rcases h48 i with h | h
              · exact absurd h hneg
              · exact congrArg some (wext_ad h)
        rw [e]
        rfl
      · rw [List.getElem?_set_ne (Ne.symm h8), List.getElem?_map, List.getElem?_range hj]
        show some (gad (wext w q1 q2 n) j, celr (wext w q1 q2 n) j (sext w S x1 x2 j)) = some (gad w j, celr w j (S j))
        rw [wext_ad hj, hS j h8, if_neg (by omega), if_neg (by omega), wext_cel hN hev hj h8]
    · have e1 : ∀ (f : Nat → Nat × va_E), ((List.range (gN w)).map f)[j]? = none := fun f => List.getElem?_eq_none (by rw [List.length_map, List.length_range]; omega)
      rw [e1, List.getElem?_set_ne (by omega), e1]
  · have c1 : celr (wext w q1 q2 n) (gN w) (sext w S x1 x2 (gN w)) = .inr (4, [.int x2, .ref q2]) := by
      rw [hS (gN w) (by omega), if_pos rfl, celr_dy _ (by omega)]
      unfold dyr
      rw [if_pos hev]
      have e : gad (wext w q1 q2 n) (gN w + 1) = q2 := by
        show (if gN w + 1 = gN w then q1 else if gN w + 1 = gN w + 1 then q2 else gad w (gN w + 1)) = q2
        rw [if_neg (by omega), if_pos rfl]
      rw [e]
      rfl
    have c2 : celr (wext w q1 q2 n) (gN w + 1) (sext w S x1 x2 (gN w + 1)) = .inl (gcI w, n, .inl (fun _ => 0)) := by
      rw [hS (gN w + 1) (by omega), if_neg (by omega), if_pos rfl, celr_dy _ (by omega)]
      unfold dyr
      rw [if_neg (by omega)]
      have e : gln (wext w q1 q2 n) (gN w + 1) = n := by
        show (if gN w + 1 = gN w + 1 then n else gln w (gN w + 1)) = n
        rw [if_pos rfl]
      rw [e]
      rfl
    have a1 : gad (wext w q1 q2 n) (gN w) = q1 := by
      show (if gN w = gN w then q1 else _) = q1
      rw [if_pos rfl]
    have a2 : gad (wext w q1 q2 n) (gN w + 1) = q2 := by
      show (if gN w + 1 = gN w then q1 else if gN w + 1 = gN w + 1 then q2 else gad w (gN w + 1)) = q2
      rw [if_neg (by omega), if_pos rfl]
    show [(gad (wext w q1 q2 n) (gN w), celr (wext w q1 q2 n) (gN w) (sext w S x1 x2 (gN w))), (gad (wext w q1 q2 n) (gN w + 1), celr (wext w q1 q2 n) (gN w + 1) (sext w S x1 x2 (gN w + 1)))] = _
    rw [c1, c2, a1, a2]
/-- what sheet() does -/
def shR (w : gw) (S : St) (x1 x2 x3 : Int32) (r : Int32) (u : gw × St) : Prop :=
  ((X_isSheet x1 = 0 ∨ X_isForm x2 = 0 ∨ ¬ x3 ≤ 60) ∧ r = -2 ∧ u = (w, S)) ∨
  (¬ (X_isSheet x1 = 0 ∨ X_isForm x2 = 0 ∨ ¬ x3 ≤ 60) ∧ x3 < 0 ∧ r = -10 - 5 ∧ u = (w, up S 0 8 5)) ∨
  (¬ (X_isSheet x1 = 0 ∨ X_isForm x2 = 0 ∨ ¬ x3 ≤ 60) ∧ ¬ x3 < 0 ∧ r = x3 ∧ ∃ q1 q2, u = (wext w q1 q2 (ix x3), sext w S x1 x2))
def gQs (w : gw) (S : St) (x1 x2 x3 : Int32) (A : Nat → Prop) : Array Value → State → Outcome → State → Prop := va_Qi (shR w S x1 x2 x3) (fun u t => va_P (gD u.1) vwCl (gws u.1 u.2) t.heap ∧ va_D A (gws u.1 u.2)) A
theorem join1 {D : va_G} {A : Nat → Prop} {ws w1 : va_W} {q1 : Nat} {e : va_E} {H H1 : Heap} (hP : va_P D vwCl (ws ++ [(q1, e)]) H) (hD : va_D A (ws ++ [(q1, e)])) (hk : ∀ q : Nat, q < H.size → ¬ va_A [(q1, e)] H.size q → H1[q]? = H[q]?) (hF : ∀ q, va_A [(q1, e)] H.size q → A q) (hP1 : va_P D vwCl w1 H1) (hD1 : va_D (va_A [(q1, e)] H.size) w1) : va_P D vwCl (ws ++ w1) H1 ∧ va_D A (ws ++ w1) := by
  have hat : ∀ (k : Nat) (x : Nat × va_E), ws[k]? = some x → (ws ++ [(q1, e)])[k]? = some x := fun k x hx => by
    rw [List.getElem?_append_left (List.getElem?_eq_some_iff.mp hx).1]
    exact hx
  have hlast : (ws ++ [(q1, e)])[ws.length]? = some (q1, e) := by
    rw [List.getElem?_append_right (Nat.le_refl _), Nat.sub_self]
    rfl
  have apart : ∀ (k : Nat) (x : Nat × va_E), ws[k]? = some x → x.1 < H.size ∧ ¬ va_A [(q1, e)] H.size x.1 := by
    intro k x hx
    have hl := (hP k x (hat k x hx)).lt
    refine ⟨hl, fun h => ?_⟩
    rcases h with ⟨k2, e2, h⟩ | h
    · have hk2 : k2 < 1 := (List.getElem?_eq_some_iff.mp h).1
      have hk0 : k2 = 0 := by omega
      subst hk0
      have e3 : (q1, e) = (x.1, e2) := Option.some.inj h
      have := hD.1 k ws.length x (q1, e) (hat k x hx) hlast (congrArg Prod.fst e3).symm
      have := (List.getElem?_eq_some_iff.mp hx).1
      omega
    · omega
  have hDw : va_D A ws := ⟨fun i j x y hi hj hxy => hD.1 i j x y (hat i x hi) (hat j y hj) hxy, fun k x hx => hD.2 k x (hat k x hx)⟩
  refine ⟨va_P.app (fun k x hx => ?_) hP1, va_D.app hDw (hD1.weaken (fun k q _ h => hF q.1 h)) (fun i j x y hx hy hxy => ?_)⟩
  · obtain ⟨g1, g2⟩ := apart k x hx
    exact (hP k x (hat k x hx)).kept (hk x.1 g1 g2)
  · exact (apart i x hx).2 (by rw [hxy]; exact hD1.2 j y hy)
theorem gws_len (w : gw) (S : St) : (gws w S).length = gN w := by
  unfold gws
  rw [List.length_map, List.length_range]
set_option maxHeartbeats 4000000 in
set_option maxRecDepth 100000 in
theorem c_X_sheet (l : Launch) (w : gw) (S : St) (x1 x2 x3 : Int32) (h48 : w48 w S) : ∀ sz : Nat, Met l y_X_sheet (.code y_X_sheet b_X_sheet 4 (some .int) :: lw_g) { frames := 2, cells := 2, slots := 62, locals := 42 } (va_Pc [.ref (gad w 0), .int x1, .int x2, .int x3] (GP w sz S)) (gQs w S x1 x2 x3 (gA w sz)) 2 62 (gA w sz) := by
  intro sz
  refine Met.ofW (cc := b_X_sheet) (maxL := 4) (ret := some .int) (by decide +kernel) rfl ?_
  intro p e s m args below meth c s₁ B hml hv
  obtain ⟨rfl, hsz, hP, hK, hD, hT, hN⟩ := hv
  subst hsz
  have hts0 := atoms_spec (ws := .code y_X_sheet b_X_sheet 4 (some .int) :: lw_g) B.pre
  have C : gCx p s m ([.ref (gad w 0), .int x1, .int x2, .int x3] : List Value).toArray meth c y_X_sheet.cls b_X_sheet 4 (some .int) := ⟨B.exec, B.bytes, hml, findClass_of_methodNamed B.named, fun x hx => hts0 x (List.mem_cons_of_mem _ hx), B.returns, B.notSynchronized⟩
  have hl := lv_entry ([.ref (gad w 0), .int x1, .int x2, .int x3]) (n := 4) (Nat.le_of_ble_eq_true rfl)
  rw [lg_entry_eq]
  generalize (lg_sl ([.ref (gad w 0), .int x1, .int x2, .int x3]) ++ List.replicate (4 - (lg_sl ([.ref (gad w 0), .int x1, .int x2, .int x3])).length) Slot.unset).toArray = ls at hl ⊢
  have hl : lv_has ls 4 [(0, .ref (gad w 0)), (1, .int x1), (2, .int x2), (3, .int x3)] := hl
  have hG : GH w s (gA w s.heap.size) S s.heap [] := ⟨hK, hP, hD, va_S.rf, fun q h => Or.inr h, hT, hN⟩
  clear hP hK hD hT
  generalize hAe : gA w s.heap.size = A at hG ⊢
  obtain ⟨hx, hb, -, hown, hts, hr, hlk⟩ := id C
  have hbad : (X_isSheet x1 = 0 ∨ X_isForm x2 = 0 ∨ ¬ x3 ≤ 60) → ∀ (H : Heap) (locs : List Loc), GH w s A S H locs → W p l e { frames := 2, cells := 2, slots := 62, locals := 42 } s m ([.ref (gad w 0), .int x1, .int x2, .int x3] : List Value).toArray below meth c H locs 0 0 (MQ below (gQs w S x1 x2 x3 A) ([.ref (gad w 0), .int x1, .int x2, .int x3] : List Value).toArray s 2 62 A) (F0 m 20 ls []) := by
    intro hb0 H locs hG
    refine lv_bipush (v := (-2)) hx hb d_X_sheet_20 (by decide) ?_
    refine W.widen (k := 2) (n := 62) (by omega) (by omega) ?_
    exact W.iret hx hb hr (fun t ht hW => ⟨⟨-2, (w, S), rfl, Or.inl ⟨hb0, rfl, rfl⟩, by show va_P _ _ _ t.heap; rw [ht]; exact hG.2.1, hG.2.2.1⟩, hG.2.2.2.1.F ht⟩) hG.2.2.2.1.2.2 d_X_sheet_22 hlk
  refine lv_iload_n hx hb d_X_sheet_0 rfl (lv_at hl 1 rfl) ?_
  refine g_goi hG (g_runS (As := [.int x1]) (rest := []) C hG (c_X_isSheet l w S x1 _) sw_X_140 rfl rfl ⟨by decide, by decide⟩ rfl hl.1 rfl (Nat.le_of_ble_eq_true rfl) d_X_sheet_1 ⟨Nat.zero_le _, Nat.zero_le _⟩) (fun H locs hG => ?_)
  refine lv_if_eq (tgt := 20) hx hb d_X_sheet_4 (by decide) (fun hc => hbad (Or.inl hc) _ _ hG) (fun hc1 => ?_)
  refine lv_iload_n hx hb d_X_sheet_7 rfl (lv_at hl 2 rfl) ?_
  refine g_goi hG (g_runS (As := [.int x2]) (rest := []) C hG (c_X_isForm l w S x2 _) sw_X_253 rfl rfl ⟨by decide, by decide⟩ rfl hl.1 rfl (Nat.le_of_ble_eq_true rfl) d_X_sheet_8 ⟨Nat.zero_le _, Nat.zero_le _⟩) (fun H locs hG => ?_)
  refine lv_if_eq (tgt := 20) hx hb d_X_sheet_11 (by decide) (fun hc => hbad (Or.inr (Or.inl hc)) _ _ hG) (fun hc2 => ?_)
  refine lv_iload_n hx hb d_X_sheet_14 rfl (lv_at hl 3 rfl) ?_
  refine lv_bipush (v := 60) hx hb d_X_sheet_15 (by decide) ?_
  refine lv_icmp_le (tgt := 23) hx hb d_X_sheet_17 (by decide) (fun hc3 => ?_) (fun hc => hbad (Or.inr (Or.inr hc)) _ _ hG)
  have hok : ¬ (X_isSheet x1 = 0 ∨ X_isForm x2 = 0 ∨ ¬ x3 ≤ 60) := by
    rintro (h | h | h)
    · exact hc1 h
    · exact hc2 h
    · exact h hc3
  refine lv_iload_n hx hb d_X_sheet_23 rfl (lv_at hl 3 rfl) ?_
  refine lv_if_ge (tgt := 33) hx hb d_X_sheet_24 (by decide) (fun hc4 => ?_) (fun hc4 => ?_)
  · have h0 : ¬ x3 < 0 := fun h => by
      rw [Int32.le_iff_toInt_le] at hc4
      rw [Int32.lt_iff_toInt_lt] at h
      omega
    have h60 : ix x3 ≤ 60 := by
      obtain ⟨j, hj, rfl⟩ := nI_of h0
      have e60 : (60 : Int32) = nI 60 := rfl
      rw [e60, nI_leI hj (by decide)] at hc3
      show (nI j).toNatClampNeg ≤ 60
      rw [nI_clamp hj]
      exact hc3
    have hin4 : vp_in x1 4 := by
      refine inb_in ?_
      have hw : X_within x1 0 3 ≠ 0 := hc1
      unfold X_within at hw
      by_cases g1 : x1 < 0
      · rw [if_pos g1] at hw; exact absurd rfl hw
      · rw [if_neg g1] at hw
        by_cases g2 : (3 : Int32) < x1
        · rw [if_pos g2] at hw; exact absurd rfl hw
        · obtain ⟨j, hj, rfl⟩ := nI_of g1
          have e3 : (3 : Int32) = nI 3 := rfl
          rw [e3, nI_ltI (by decide) hj] at g2
          unfold inb
          rw [decide_eq_true_eq]
          rintro (h | h)
          · exact g1 h
          · rw [nI_clamp hj] at h
            omega
    refine lv_aload_n hx hb d_X_sheet_33 rfl (lv_at hl 0 rfl) ?_
    refine g_get C hG (hG.lt (Nat.le_of_ble_eq_true rfl)) (ce0 w _) rfl inC7 7 (Nat.le_of_ble_eq_true rfl) qw206 rfl d_X_sheet_34 ?_
    refine lv_iload_n hx hb d_X_sheet_37 rfl (lv_at hl 1 rfl) ?_
    have hlt48 : 48 < gN w := hG.lt (Nat.le_of_ble_eq_true rfl)
    obtain ⟨hK, hP, hD, hS, hA, hT, hN⟩ := hG
    refine va_new (D := gD w) (ci := 4) (fs := [.int 0, .null]) (C := RC4) (T := TC4) (N := 2) hx hb hts inC4 tyC4 okC4 hown (hts _ qx197) (hts _ qx570) (hts _ qw11) hK hP hD hS hA rfl dfC4 (Nat.le_of_ble_eq_true rfl) (Nat.le_of_ble_eq_true rfl) d_X_sheet_38 (fun q1 H hP hD hS => ?_)
    refine lv_dup hx hb d_X_sheet_41 rfl ?_
    refine lv_iload_n hx hb d_X_sheet_42 rfl (lv_at hl 2 rfl) ?_
    refine lv_iload_n hx hb d_X_sheet_43 rfl (lv_at hl 3 rfl) ?_
    have hlast : (gws w S ++ [(q1, .inr (4, [.int 0, .null]))])[(gws w S).length]? = some (q1, .inr (4, [.int 0, .null])) := by
      rw [List.getElem?_append_right (Nat.le_refl _), Nat.sub_self]
      rfl
    have hPc : va_P (gD w) vwCl (sh0 q1) H := fun k x hk => by
      have hk1 : k < 1 := (List.getElem?_eq_some_iff.mp hk).1
      have hk0 : k = 0 := by omega
      subst hk0
      cases hk
      exact hP _ _ hlast
    have hDc : va_D (fun _ => True) (sh0 q1) := ⟨fun i j x y hi hj _ => by
      have h1 : i < 1 := (List.getElem?_eq_some_iff.mp hi).1
      have h2 : j < 1 := (List.getElem?_eq_some_iff.mp hj).1
      omega, fun _ _ _ => trivial⟩
    have hKc : va_K (gD w) vwCl [(gcI w, .int)] s := hK.sub [0] rfl
    have hFc : ∀ q, va_A (sh0 q1) H.size q → A q := by
      intro q hq
      rcases hq with ⟨k, e2, h⟩ | h
      · have hk1 : k < 1 := (List.getElem?_eq_some_iff.mp h).1
        have hk0 : k = 0 := by omega
        subst hk0
        cases h
        exact hD.2 _ _ hlast
      · exact hA q (Nat.le_trans hS.1 h)
    refine va_callv (va_runI (As := [.int x2, .int x3]) (rest := [.ref q1, .int x1, .ref (gad w 48)]) ⟨hx, hb, hml, hown, hts⟩ (c_SH_init l (gD w) (gcI w) q1 x2 x3 ⟨h0, h60⟩ H.size) (cwI 2 hts (g_good (fun x hx => by rcases List.mem_cons.mp hx with rfl | hx; exact qw573; exact hx)) rfl rfl rfl (hts _ qw11) (hts _ qw571) (hts _ qw572) rfl (by decide +kernel) ⟨by decide, by decide⟩) ⟨MP_blind, fun U hU hW => ⟨rfl, by rw [hU], by rw [hU]; exact hPc, va_K.moved hW.alike hKc, hDc⟩⟩ rfl rfl hl.1 rfl (lv_room (Nat.le_of_ble_eq_true rfl)) d_X_sheet_44 ⟨by decide, by decide⟩) hS (fun q _ h => hFc q h) hFc (fun q2 t H1 locs ht hvm _ hB hz1 hk1 hS => ?_)
    obtain ⟨hP1, hD1⟩ := hB
    rw [ht] at hP1
    obtain ⟨hP, hD⟩ := join1 hP hD hk1 hFc hP1 hD1
    have hnx : (gws w S ++ sh1 (gcI w) q1 x2 x3 q2)[(gws w S).length]? = some (q1, .inr (4, [.int x2, .ref q2])) := by
      rw [List.getElem?_append_right (Nat.le_refl _), Nat.sub_self]
      rfl
    have hlen : 48 < (gws w S).length := by rw [gws_len]; exact hlt48
    refine va_astq (D := gD w) (r := (RC4, TC4, 2)) hx hb hK hP hD hS 48 2 (gws w S).length 4 (by rw [List.getElem?_append_left hlen, gws_at hlt48, ce48]; rfl) rfl hnx rfl hin4 d_X_sheet_47 (fun H locs hP hD hS => ?_)
    rw [List.set_append_left _ _ hlen, ← wext_gws (x1 := x1) (n := ix x3) h48] at hP hD
    refine lv_iload_n hx hb d_X_sheet_48 rfl (lv_at hl 3 rfl) ?_
    refine W.widen (k := 2) (n := 62) (by omega) (by omega) ?_
    exact W.iret hx hb hr (fun t ht hW => ⟨⟨x3, (wext w q1 q2 (ix x3), sext w S x1 x2), rfl, Or.inr (Or.inr ⟨hok, h0, rfl, q1, q2, rfl⟩), by show va_P _ _ _ t.heap; rw [ht]; exact hP, hD⟩, hS.F ht⟩) hS.2.2 d_X_sheet_49 hlk
  · have h0 : x3 < 0 := by
      by_cases h : x3 < 0
      · exact h
      · exact absurd (by
          rw [Int32.le_iff_toInt_le]
          rw [Int32.lt_iff_toInt_lt] at h
          omega) hc4
    refine lv_aload_n hx hb d_X_sheet_27 rfl (lv_at hl 0 rfl) ?_
    refine lv_iconst (v := 5) hx hb d_X_sheet_28 (by decide) ?_
    refine g_goi hG (g_runV (As := [.int 5]) (rest := []) C hG (c_X_finding l w S 5 (z := ((-10) - 5, up S 0 8 5)) rfl _) (hG.lt (Nat.le_of_ble_eq_true rfl)) (ce0 w _) rfl vw_X_143 rfl rfl ⟨by decide, by decide⟩ rfl hl.1 rfl (Nat.le_of_ble_eq_true rfl) d_X_sheet_29 ⟨Nat.zero_le _, Nat.zero_le _⟩) (fun H locs hG => ?_)
    refine W.widen (k := 2) (n := 62) (by omega) (by omega) ?_
    exact W.iret hx hb hr (fun t ht hW => ⟨⟨-10 - 5, (w, up S 0 8 5), rfl, Or.inr (Or.inl ⟨hok, h0, rfl, rfl⟩), by show va_P _ _ _ t.heap; rw [ht]; exact hG.2.1, hG.2.2.1⟩, hG.2.2.2.1.F ht⟩) hG.2.2.2.1.2.2 d_X_sheet_32 hlk
