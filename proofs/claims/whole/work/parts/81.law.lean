set_option maxHeartbeats 4000000 in
set_option maxRecDepth 100000 in
theorem lw_switch (l : Launch) {p : Program} {e : Env} {s : State} {m : MethodId} {below : List Frame} {meth : Method} {c : Code} {b L : Nat} {xs : Nat → Int32} (C0 : lw_At p s m meth c b L xs) {i : Nat} {x3 : Int32} (ex3 : x3 = nI (6 * i)) (hi6 : 6 * i + 6 ≤ L) (hL : L ≤ 3072) {w : gw} {S : St} {H : Heap} {locs : List Loc} {ls : Array Slot} (hI : InvB w S i) (hG : GH w s (fun q : Nat => s.heap.size ≤ q) S H locs) (hl : lv_has ls 4 [(0, .ref b), (1, .ref (gad w 0)), (2, .ref (gad w 49)), (3, .int x3)]) (K : ∀ (w : gw) (S : St) (H : Heap) (locs : List Loc), InvB w S (i + 1) → GH w s (fun q : Nat => s.heap.size ≤ q) S H locs → lv_has ls 4 [(0, .ref b), (1, .ref (gad w 0)), (2, .ref (gad w 49)), (3, .int x3)] → W p l e room_1 s m #[Value.ref b] below meth c H locs (73 + 2 * (i + 1)) (7375 + 62 * (i + 1)) (lw_Z below #[Value.ref b] s) (F0 m 1401 ls [])) (k : Nat) (hk : k < 40) {y : Int32} (hy : y = nI k) : W p l e room_1 s m #[Value.ref b] below meth c H locs (73 + 2 * i) (7375 + 62 * i) (lw_Z below #[Value.ref b] s) (F0 m 33 ls [.int y]) := by
  obtain ⟨hx, hb, -⟩ := id C0
  match k, hk, hy with
  | 0, _, hk => exact lv_tableIn (off := 175) (tgt := 208) hx hb d_LW_33 (by rw [hk]; decide) (by rw [hk]; decide) (by rw [hk]; rfl) (by decide) (lc_0 l C0 ex3 hi6 hL hI hG hl K)
  | 1, _, hk => exact lv_tableIn (off := 198) (tgt := 231) hx hb d_LW_33 (by rw [hk]; decide) (by rw [hk]; decide) (by rw [hk]; rfl) (by decide) (lc_1 l C0 ex3 hi6 hL hI hG hl K)
  | 2, _, hk => exact lv_tableIn (off := 211) (tgt := 244) hx hb d_LW_33 (by rw [hk]; decide) (by rw [hk]; decide) (by rw [hk]; rfl) (by decide) (lc_2 l C0 ex3 hi6 hL hI hG hl K)
  | 3, _, hk => exact lv_tableIn (off := 224) (tgt := 257) hx hb d_LW_33 (by rw [hk]; decide) (by rw [hk]; decide) (by rw [hk]; rfl) (by decide) (lc_3 l C0 ex3 hi6 hL hI hG hl K)
  | 4, _, hk => exact lv_tableIn (off := 237) (tgt := 270) hx hb d_LW_33 (by rw [hk]; decide) (by rw [hk]; decide) (by rw [hk]; rfl) (by decide) (lc_4 l C0 ex3 hi6 hL hI hG hl K)
  | 5, _, hk => exact lv_tableIn (off := 280) (tgt := 313) hx hb d_LW_33 (by rw [hk]; decide) (by rw [hk]; decide) (by rw [hk]; rfl) (by decide) (lc_5 l C0 ex3 hi6 hL hI hG hl K)
  | 6, _, hk => exact lv_tableIn (off := 323) (tgt := 356) hx hb d_LW_33 (by rw [hk]; decide) (by rw [hk]; decide) (by rw [hk]; rfl) (by decide) (lc_6 l C0 ex3 hi6 hL hI hG hl K)
  | 7, _, hk => exact lv_tableIn (off := 366) (tgt := 399) hx hb d_LW_33 (by rw [hk]; decide) (by rw [hk]; decide) (by rw [hk]; rfl) (by decide) (lc_7 l C0 ex3 hi6 hL hI hG hl K)
  | 8, _, hk => exact lv_tableIn (off := 409) (tgt := 442) hx hb d_LW_33 (by rw [hk]; decide) (by rw [hk]; decide) (by rw [hk]; rfl) (by decide) (lc_8 l C0 ex3 hi6 hL hI hG hl K)
  | 9, _, hk => exact lv_tableIn (off := 442) (tgt := 475) hx hb d_LW_33 (by rw [hk]; decide) (by rw [hk]; decide) (by rw [hk]; rfl) (by decide) (lc_9 l C0 ex3 hi6 hL hI hG hl K)
  | 10, _, hk => exact lv_tableIn (off := 485) (tgt := 518) hx hb d_LW_33 (by rw [hk]; decide) (by rw [hk]; decide) (by rw [hk]; rfl) (by decide) (lc_10 l C0 ex3 hi6 hL hI hG hl K)
  | 11, _, hk => exact lv_tableIn (off := 518) (tgt := 551) hx hb d_LW_33 (by rw [hk]; decide) (by rw [hk]; decide) (by rw [hk]; rfl) (by decide) (lc_11 l C0 ex3 hi6 hL hI hG hl K)
  | 12, _, hk => exact lv_tableIn (off := 541) (tgt := 574) hx hb d_LW_33 (by rw [hk]; decide) (by rw [hk]; decide) (by rw [hk]; rfl) (by decide) (lc_12 l C0 ex3 hi6 hL hI hG hl K)
  | 13, _, hk => exact lv_tableIn (off := 554) (tgt := 587) hx hb d_LW_33 (by rw [hk]; decide) (by rw [hk]; decide) (by rw [hk]; rfl) (by decide) (lc_13 l C0 ex3 hi6 hL hI hG hl K)
  | 14, _, hk => exact lv_tableIn (off := 577) (tgt := 610) hx hb d_LW_33 (by rw [hk]; decide) (by rw [hk]; decide) (by rw [hk]; rfl) (by decide) (lc_14 l C0 ex3 hi6 hL hI hG hl K)
  | 15, _, hk => exact lv_tableIn (off := 600) (tgt := 633) hx hb d_LW_33 (by rw [hk]; decide) (by rw [hk]; decide) (by rw [hk]; rfl) (by decide) (lc_15 l C0 ex3 hi6 hL hI hG hl K)
  | 16, _, hk => exact lv_tableIn (off := 633) (tgt := 666) hx hb d_LW_33 (by rw [hk]; decide) (by rw [hk]; decide) (by rw [hk]; rfl) (by decide) (lc_16 l C0 ex3 hi6 hL hI hG hl K)
  | 17, _, hk => exact lv_tableIn (off := 656) (tgt := 689) hx hb d_LW_33 (by rw [hk]; decide) (by rw [hk]; decide) (by rw [hk]; rfl) (by decide) (lc_17 l C0 ex3 hi6 hL hI hG hl K)
  | 18, _, hk => exact lv_tableIn (off := 689) (tgt := 722) hx hb d_LW_33 (by rw [hk]; decide) (by rw [hk]; decide) (by rw [hk]; rfl) (by decide) (lc_18 l C0 ex3 hi6 hL hI hG hl K)
  | 19, _, hk => exact lv_tableIn (off := 712) (tgt := 745) hx hb d_LW_33 (by rw [hk]; decide) (by rw [hk]; decide) (by rw [hk]; rfl) (by decide) (lc_19 l C0 ex3 hi6 hL hI hG hl K)
  | 20, _, hk => exact lv_tableIn (off := 735) (tgt := 768) hx hb d_LW_33 (by rw [hk]; decide) (by rw [hk]; decide) (by rw [hk]; rfl) (by decide) (lc_20 l C0 ex3 hi6 hL hI hG hl K)
  | 21, _, hk => exact lv_tableIn (off := 768) (tgt := 801) hx hb d_LW_33 (by rw [hk]; decide) (by rw [hk]; decide) (by rw [hk]; rfl) (by decide) (lc_21 l C0 ex3 hi6 hL hI hG hl K)
  | 22, _, hk => exact lv_tableIn (off := 811) (tgt := 844) hx hb d_LW_33 (by rw [hk]; decide) (by rw [hk]; decide) (by rw [hk]; rfl) (by decide) (lc_22 l C0 ex3 hi6 hL hI hG hl K)
  | 23, _, hk => exact lv_tableIn (off := 834) (tgt := 867) hx hb d_LW_33 (by rw [hk]; decide) (by rw [hk]; decide) (by rw [hk]; rfl) (by decide) (lc_23 l C0 ex3 hi6 hL hI hG hl K)
  | 24, _, hk => exact lv_tableIn (off := 857) (tgt := 890) hx hb d_LW_33 (by rw [hk]; decide) (by rw [hk]; decide) (by rw [hk]; rfl) (by decide) (lc_24 l C0 ex3 hi6 hL hI hG hl K)
  | 25, _, hk => exact lv_tableIn (off := 880) (tgt := 913) hx hb d_LW_33 (by rw [hk]; decide) (by rw [hk]; decide) (by rw [hk]; rfl) (by decide) (lc_25 l C0 ex3 hi6 hL hI hG hl K)
  | 26, _, hk => exact lv_tableIn (off := 914) (tgt := 947) hx hb d_LW_33 (by rw [hk]; decide) (by rw [hk]; decide) (by rw [hk]; rfl) (by decide) (lc_26 l C0 ex3 hi6 hL hI hG hl K)
  | 27, _, hk => exact lv_tableIn (off := 937) (tgt := 970) hx hb d_LW_33 (by rw [hk]; decide) (by rw [hk]; decide) (by rw [hk]; rfl) (by decide) (lc_27 l C0 ex3 hi6 hL hI hG hl K)
  | 28, _, hk => exact lv_tableIn (off := 970) (tgt := 1003) hx hb d_LW_33 (by rw [hk]; decide) (by rw [hk]; decide) (by rw [hk]; rfl) (by decide) (lc_28 l C0 ex3 hi6 hL hI hG hl K)
  | 29, _, hk => exact lv_tableIn (off := 983) (tgt := 1016) hx hb d_LW_33 (by rw [hk]; decide) (by rw [hk]; decide) (by rw [hk]; rfl) (by decide) (lc_29 l C0 ex3 hi6 hL hI hG hl K)
  | 30, _, hk => exact lv_tableIn (off := 1006) (tgt := 1039) hx hb d_LW_33 (by rw [hk]; decide) (by rw [hk]; decide) (by rw [hk]; rfl) (by decide) (lc_30 l C0 ex3 hi6 hL hI hG hl K)
  | 31, _, hk => exact lv_tableIn (off := 1050) (tgt := 1083) hx hb d_LW_33 (by rw [hk]; decide) (by rw [hk]; decide) (by rw [hk]; rfl) (by decide) (lc_31 l C0 ex3 hi6 hL hI hG hl K)
  | 32, _, hk => exact lv_tableIn (off := 1083) (tgt := 1116) hx hb d_LW_33 (by rw [hk]; decide) (by rw [hk]; decide) (by rw [hk]; rfl) (by decide) (lc_32 l C0 ex3 hi6 hL hI hG hl K)
  | 33, _, hk => exact lv_tableIn (off := 1126) (tgt := 1159) hx hb d_LW_33 (by rw [hk]; decide) (by rw [hk]; decide) (by rw [hk]; rfl) (by decide) (lc_33 l C0 ex3 hi6 hL hI hG hl K)
  | 34, _, hk => exact lv_tableIn (off := 1149) (tgt := 1182) hx hb d_LW_33 (by rw [hk]; decide) (by rw [hk]; decide) (by rw [hk]; rfl) (by decide) (lc_34 l C0 ex3 hi6 hL hI hG hl K)
  | 35, _, hk => exact lv_tableIn (off := 1202) (tgt := 1235) hx hb d_LW_33 (by rw [hk]; decide) (by rw [hk]; decide) (by rw [hk]; rfl) (by decide) (lc_35 l C0 ex3 hi6 hL hI hG hl K)
  | 36, _, hk => exact lv_tableIn (off := 1245) (tgt := 1278) hx hb d_LW_33 (by rw [hk]; decide) (by rw [hk]; decide) (by rw [hk]; rfl) (by decide) (lc_36 l C0 ex3 hi6 hL hI hG hl K)
  | 37, _, hk => exact lv_tableIn (off := 1308) (tgt := 1341) hx hb d_LW_33 (by rw [hk]; decide) (by rw [hk]; decide) (by rw [hk]; rfl) (by decide) (lc_37 l C0 ex3 hi6 hL hI hG hl K)
  | 38, _, hk => exact lv_tableIn (off := 1331) (tgt := 1364) hx hb d_LW_33 (by rw [hk]; decide) (by rw [hk]; decide) (by rw [hk]; rfl) (by decide) (lc_38 l C0 ex3 hi6 hL hI hG hl K)
  | 39, _, hk => exact lv_tableIn (off := 1354) (tgt := 1387) hx hb d_LW_33 (by rw [hk]; decide) (by rw [hk]; decide) (by rw [hk]; rfl) (by decide) (lc_39 l C0 ex3 hi6 hL hI hG hl K)
  | k + 40, hk, _ => exact absurd hk (by omega)
set_option maxHeartbeats 4000000 in
set_option maxRecDepth 100000 in
theorem law_loop (l : Launch) {p : Program} {e : Env} {s : State} {m : MethodId} {below : List Frame} {meth : Method} {c : Code} {b L : Nat} {xs : Nat → Int32} (hL : L ≤ 3072) (C0 : lw_At p s m meth c b L xs) : ∀ (n i : Nat) (x3 : Int32), 513 ≤ n + i → 6 * i ≤ L + 5 → x3 = nI (6 * i) → ∀ (w : gw) (S : St) (H : Heap) (locs : List Loc) (ls : Array Slot), InvB w S i → GH w s (fun q : Nat => s.heap.size ≤ q) S H locs → lv_has ls 4 [(0, .ref b), (1, .ref (gad w 0)), (2, .ref (gad w 49)), (3, .int x3)] → W p l e room_1 s m #[Value.ref b] below meth c H locs (73 + 2 * i) (7375 + 62 * i) (lw_Z below #[Value.ref b] s) (F0 m 18 ls []) := by
  obtain ⟨hx, hb, hr, hml, hown, hts, hX, hbl, hlocks, hgv⟩ := id C0
  have hbA : ¬ (fun q : Nat => s.heap.size ≤ q) b := Nat.not_le.mpr hbl
  intro n
  induction n with
  | zero => intro i x3 h1 h2; omega
  | succ n ih =>
    intro i x3 hn hi ex3 w S H locs ls hI hG hl
    refine lv_iload_n hx hb d_LW_18 rfl (lv_at hl 3 rfl) ?_
    refine lv_aload_n hx hb d_LW_19 rfl (lv_at hl 0 rfl) ?_
    refine va_slen hx hb hX hbl hbA hG.2.2.2.1 d_LW_20 ?_
    refine lv_bipush (v := 6) hx hb d_LW_21 (by decide) ?_
    refine lv_isub hx hb d_LW_23 ?_
    refine lv_icmp_gt (tgt := 1407) hx hb d_LW_24 (by decide) (fun hc => ?_) (fun hc => ?_)
    · refine lv_iconst (v := 1) hx hb d_LW_1407 (by decide) ?_
      refine va_forget (fun q hq => hG.2.2.2.1.2.2 q hq) ?_
      refine W.widen (k := 600000) (n := 7302250) (by omega) (by omega) ?_
      exact lw_ret hx hb hr hlocks d_LW_1408
    · have hi6 : 6 * i + 6 ≤ L := by
        rcases Nat.lt_or_ge L (6 * i + 6) with q | q
        · refine absurd ?_ hc
          rw [ex3]
          have e1 : (Int32.ofNat L - 6 : Int32).toInt = (L : Int) - 6 := by
            have := pk_sub_toInt (a := L) (b := 6) (by omega) (by decide)
            exact this
          rw [Int32.lt_iff_toInt_lt, e1, nI_toInt (by omega)]
          omega
        · exact q
      refine lv_aload_n hx hb d_LW_27 rfl (lv_at hl 0 rfl) ?_
      refine lv_iload_n hx hb d_LW_28 rfl (lv_at hl 3 rfl) ?_
      refine va_sld hx hb hX hbl hbA hG.2.2.2.1 (by rw [ex3]; exact vp_in_nI (by omega) (by omega)) d_LW_29 ?_
      refine lv_bipush (v := 63) hx hb d_LW_30 (by decide) ?_
      refine lv_iand hx hb d_LW_32 ?_
      have K : ∀ (w : gw) (S : St) (H : Heap) (locs : List Loc), InvB w S (i + 1) → GH w s (fun q : Nat => s.heap.size ≤ q) S H locs → lv_has ls 4 [(0, .ref b), (1, .ref (gad w 0)), (2, .ref (gad w 49)), (3, .int x3)] → W p l e room_1 s m #[Value.ref b] below meth c H locs (73 + 2 * (i + 1)) (7375 + 62 * (i + 1)) (lw_Z below #[Value.ref b] s) (F0 m 1401 ls []) := by
        intro w S H locs hI hG hl
        refine lv_iinc (v := x3 + 6) (lv' := [(3, .int (x3 + 6)), (0, .ref b), (1, .ref (gad w 0)), (2, .ref (gad w 49))]) hx hb d_LW_1401 hl (k := 3) rfl (congrArg (HAdd.hAdd x3) (by decide : Int32.ofInt 6 = 6)) (by decide) rfl (fun ls hl => ?_)
        refine lv_goto (tgt := 18) hx hb d_LW_1404 (by decide) ?_
        refine ih (i + 1) (x3 + 6) (by omega) (by omega) ?_ w S H locs ls hI hG (lv_sub hl [1, 2, 3, 0] rfl)
        rw [ex3]
        have e6 : (6 : Int32) = nI 6 := rfl
        rw [e6, nI_add]
        exact congrArg nI (by omega)
      generalize (xs x3.toNatClampNeg &&& 63) = y
      by_cases hr0 : y.toInt < 0 ∨ 39 < y.toInt
      · refine lv_tableOut (tgt := 1401) hx hb d_LW_33 hr0 (by decide) ?_
        refine W.widen (k := 73 + 2 * (i + 1)) (n := 7375 + 62 * (i + 1)) (by omega) (by omega) ?_
        exact K w S H locs (InvB_next hI) hG hl
      · have hy0 : ¬ y < 0 := fun h => hr0 (Or.inl (by rw [Int32.lt_iff_toInt_lt] at h; exact h))
        obtain ⟨j, hj, rfl⟩ := nI_of hy0
        have hj40 : j < 40 := by
          rw [nI_toInt hj] at hr0
          omega
        have key : ∀ (k : Nat) (hk : k < 40) (y : Int32), y = nI k → W p l e room_1 s m #[Value.ref b] below meth c H locs (73 + 2 * i) (7375 + 62 * i) (lw_Z below #[Value.ref b] s) (F0 m 33 ls [.int y]) := by
          intro k hk y hy
          exact lw_switch l C0 ex3 hi6 hL hI hG hl K k hk hy
        exact key j hj40 (nI j) rfl
def adS (qx qm : Nat) (ux um : (Nat → Nat) × ClassId × ClassId) (k : Nat) : Nat := [qx, ux.1 1, ux.1 2, ux.1 3, ux.1 4, ux.1 4 + 1 + 0, ux.1 4 + 1 + 1, ux.1 4 + 1 + 2, ux.1 4 + 1 + 3, ux.1 4 + 1 + 4, ux.1 10, ux.1 10 + 1 + 0, ux.1 10 + 1 + 1, ux.1 10 + 1 + 2, ux.1 10 + 1 + 3, ux.1 10 + 1 + 4, ux.1 16, ux.1 16 + 1 + 0, ux.1 16 + 1 + 1, ux.1 16 + 1 + 2, ux.1 16 + 1 + 3, ux.1 16 + 1 + 4, ux.1 22, ux.1 23, ux.1 24, ux.1 25, ux.1 26, ux.1 27, ux.1 28, ux.1 29, ux.1 30, ux.1 31, ux.1 32, ux.1 33, ux.1 34, ux.1 35, ux.1 36, ux.1 37, ux.1 38, ux.1 39, ux.1 40, ux.1 41, ux.1 42, ux.1 43, ux.1 44, ux.1 45, ux.1 46, ux.1 47, ux.1 48, qm, um.1 1, um.1 2, um.1 3, um.1 4, um.1 5, um.1 6, um.1 7, um.1 8, um.1 9, um.1 10, um.1 11, um.1 12, um.1 13, um.1 14, um.1 15, um.1 16, um.1 17, um.1 18, um.1 19, um.1 20, um.1 21, um.1 22, um.1 23].getD k 0
/-- the state at the start -/
theorem start_cells {D : va_G} {cI cZ : ClassId} {qx qm : Nat} {ux um : (Nat → Nat) × ClassId × ClassId} {t1 t2 t3 : Nat} {w : gw} (hw : w = (D, (cI, cZ, ux.2.2, ux.2.1), 73, (fun k => adS qx qm ux um k), (fun _ => 0), (t1, t2, t3))) : ∀ k, k < 73 → (wo_X_init cI cZ qx ux ++ wo_M_init cI cZ qm um)[k]? = some (gad w k, celr w k (S0 k)) := by
  intro k hk
  subst hw
  match k, hk with
  | 0, _ => exact rfl
  | 1, _ => exact rfl
  | 2, _ => exact rfl
  | 3, _ => exact rfl
  | 4, _ => exact congrArg (fun f : Nat → Option Nat => some ((ux.1 4, (.inl (ux.2.1, 5, .inr (.inr (.inr (.inr f)))) : va_E)) : Nat × va_E)) (funext fun i => by
      by_cases hi : i < 5
      · rw [if_pos hi, if_pos hi]
        match i, hi with
        | 0, _ => rfl
        | 1, _ => rfl
        | 2, _ => rfl
        | 3, _ => rfl
        | 4, _ => rfl
        | i + 5, hi => exact absurd hi (by omega)
      · rw [if_neg hi, if_neg hi])
  | 5, _ => exact rfl
  | 6, _ => exact rfl
  | 7, _ => exact rfl
  | 8, _ => exact rfl
  | 9, _ => exact rfl
  | 10, _ => exact congrArg (fun f : Nat → Option Nat => some ((ux.1 10, (.inl (ux.2.1, 5, .inr (.inr (.inr (.inr f)))) : va_E)) : Nat × va_E)) (funext fun i => by
      by_cases hi : i < 5
      · rw [if_pos hi, if_pos hi]
        match i, hi with
        | 0, _ => rfl
        | 1, _ => rfl
        | 2, _ => rfl
        | 3, _ => rfl
        | 4, _ => rfl
        | i + 5, hi => exact absurd hi (by omega)
      · rw [if_neg hi, if_neg hi])
  | 11, _ => exact rfl
  | 12, _ => exact rfl
  | 13, _ => exact rfl
  | 14, _ => exact rfl
  | 15, _ => exact rfl
  | 16, _ => exact congrArg (fun f : Nat → Option Nat => some ((ux.1 16, (.inl (ux.2.1, 5, .inr (.inr (.inr (.inr f)))) : va_E)) : Nat × va_E)) (funext fun i => by
      by_cases hi : i < 5
      · rw [if_pos hi, if_pos hi]
        match i, hi with
        | 0, _ => rfl
        | 1, _ => rfl
        | 2, _ => rfl
        | 3, _ => rfl
        | 4, _ => rfl
        | i + 5, hi => exact absurd hi (by omega)
      · rw [if_neg hi, if_neg hi])
  | 17, _ => exact rfl
  | 18, _ => exact rfl
  | 19, _ => exact rfl
  | 20, _ => exact rfl
  | 21, _ => exact rfl
  | 22, _ => exact rfl
  | 23, _ => exact rfl
  | 24, _ => exact rfl
  | 25, _ => exact rfl
  | 26, _ => exact rfl
  | 27, _ => exact rfl
  | 28, _ => exact rfl
  | 29, _ => exact rfl
  | 30, _ => exact rfl
  | 31, _ => exact rfl
  | 32, _ => exact rfl
  | 33, _ => exact rfl
  | 34, _ => exact rfl
  | 35, _ => exact rfl
  | 36, _ => exact rfl
  | 37, _ => exact rfl
  | 38, _ => exact rfl
  | 39, _ => exact rfl
  | 40, _ => exact rfl
  | 41, _ => exact rfl
  | 42, _ => exact rfl
  | 43, _ => exact rfl
  | 44, _ => exact rfl
  | 45, _ => exact rfl
  | 46, _ => exact rfl
  | 47, _ => exact rfl
  | 48, _ => exact rfl
  | 49, _ => exact rfl
  | 50, _ => exact rfl
  | 51, _ => exact rfl
  | 52, _ => exact rfl
  | 53, _ => exact rfl
  | 54, _ => exact rfl
  | 55, _ => exact rfl
  | 56, _ => exact rfl
  | 57, _ => exact rfl
  | 58, _ => exact rfl
  | 59, _ => exact rfl
  | 60, _ => exact rfl
  | 61, _ => exact rfl
  | 62, _ => exact rfl
  | 63, _ => exact rfl
  | 64, _ => exact rfl
  | 65, _ => exact rfl
  | 66, _ => exact rfl
  | 67, _ => exact rfl
  | 68, _ => exact rfl
  | 69, _ => exact rfl
  | 70, _ => exact rfl
  | 71, _ => exact rfl
  | 72, _ => exact rfl
  | k + 73, hk => exact absurd hk (by omega)
theorem lw_mem {w : Cond} (i : Nat) (h : tables_1[i]? = some w) : w ∈ lw_tbl := List.mem_append_right _ (List.mem_of_getElem? h)
theorem st_tab {args : Array Value} {s : State} {nm : String} {N : Nat} {f : Nat → Int32} {A : Nat → Prop} (hN : N < 2 ^ 31) (harr : (Cond.arrayOf (.static "EveningAuction" nm "[I") .int).before args s = true) (hlen : (Cond.eq (.length (.static "EveningAuction" nm "[I")) (.int (Int32.ofNat N))).before args s = true) (hel : ∀ j : Nat, j < N → (Cond.eq (.elem (.static "EveningAuction" nm "[I") (.int (Int32.ofNat j))) (.int (f j))).before args s = true) (hl : (Cond.laysStatic "EveningAuction" nm "[I").before args s = true) (hini : (Cond.initialized "EveningAuction").before args s = true) (hA : ∀ a : Nat, a < s.heap.size → ¬ A a) : ∃ t : Nat, va_Z "EveningAuction" nm "[I" (.ref t) A s s.heap ∧ va_T .int t N (fun j => .int (f j)) A s s.heap := by
  obtain ⟨t, h1, h2⟩ := va_Tof (f := fun j => .int (f j)) hN harr (va_eqt hlen) (fun j hj => va_eqt (hel j hj)) hA
  exact ⟨t, va_Zref hl hini h1 hA, h2⟩
set_option maxHeartbeats 4000000 in
set_option maxRecDepth 100000 in
/-- THE LAW, from its entry -/
theorem whole_start {p : Program} {e : Env} {s : State} {m : MethodId} {below : List Frame} {meth : Method} {c : Code} (l : Launch) {b L : Nat} {xs : Nat → Int32} (hL : L ≤ 3072) (C0 : lw_At p s m meth c b L xs) : W p l e room_1 s m #[Value.ref b] below meth c s.heap [] 0 0 (lw_Z below #[Value.ref b] s) (entryFrame m ([Value.ref b] : List Value).toArray 4) := by
  obtain ⟨hx, hb, hr, hml, hown, hts, hX, hbl, hlocks, hgv⟩ := id C0
  have C : gCx p s m #[Value.ref b] meth c R_law code 4 ret := ⟨hx, hb, hml, hown, g_tbl hts, hr, hlocks⟩
  have hg := g_tbl hts
  have hflat := flat_of_before _ hgv
  have hA : ∀ q : Nat, s.heap.size ≤ q → (fun q : Nat => s.heap.size ≤ q) q := fun _ h => h
  have hnA : ∀ a : Nat, a < s.heap.size → ¬ (fun q : Nat => s.heap.size ≤ q) a := fun a h => Nat.not_le.mpr h
  obtain ⟨c0, i0, k0⟩ := u_known (C := RC0) (T := TC0) (N := 4) (n := 4) hg inC0 (hg _ qx71)
  obtain ⟨c1, i1, k1⟩ := u_known (C := RC1) (T := TC1) (N := 2) (n := 2) hg inC1 (hg _ qx158)
  obtain ⟨c2, i2, k2⟩ := u_known (C := RC2) (T := TC2) (N := 5) (n := 5) hg inC2 (hg _ qx132)
  obtain ⟨c3, i3, k3⟩ := u_known (C := RC3) (T := TC3) (N := 8) (n := 8) hg inC3 (hg _ qx94)
  obtain ⟨c4, i4, k4⟩ := u_known (C := RC4) (T := TC4) (N := 2) (n := 2) hg inC4 (hg _ qx570)
  obtain ⟨c5, i5, k5⟩ := u_known (C := RC5) (T := TC5) (N := 4) (n := 4) hg inC5 (hg _ qx173)
  obtain ⟨c6, i6, k6⟩ := u_known (C := RC6) (T := TC6) (N := 8) (n := 8) hg inC6 (hg _ qx22)
  obtain ⟨c7, i7, k7⟩ := u_known (C := RC7) (T := TC7) (N := 10) (n := 10) hg inC7 (hg _ (g_mem 14 (by decide +kernel) (by decide +kernel)))
  obtain ⟨c8, i8, k8⟩ := u_known (C := RC8) (T := TC8) (N := 29) (n := 29) hg inC8 (hg _ (g_mem 671 (by decide +kernel) (by decide +kernel)))
  obtain ⟨D, hKn⟩ : ∃ D : va_G, ∀ (k : Nat) (q : vw_C), vwCl[k]? = some q → u_Kn s q.1 q.2.1 q.2.2 (D.1 k) (D.2 k) := by
    refine ⟨(fun k => [c0, c1, c2, c3, c4, c5, c6, c7, c8].getD k c0, fun k => [i0, i1, i2, i3, i4, i5, i6, i7, i8].getD k i0), ?_⟩
    intro k q hq
    match k, hq with
    | 0, hq => cases hq; exact k0
    | 1, hq => cases hq; exact k1
    | 2, hq => cases hq; exact k2
    | 3, hq => cases hq; exact k3
    | 4, hq => cases hq; exact k4
    | 5, hq => cases hq; exact k5
    | 6, hq => cases hq; exact k6
    | 7, hq => cases hq; exact k7
    | 8, hq => cases hq; exact k8
    | k + 9, hq => simp [vwCl] at hq
  obtain ⟨cI, kI, compI, hfI, hkI, hkdI⟩ := Cond.arrayClass_spec (hg _ qx69)
  obtain ⟨cZ, kZ, compZ, hfZ, hkZ, hkdZ⟩ := Cond.arrayClass_spec (hg _ qx130)
  have hK0 : va_K D vwCl [(cI, .int), (cZ, .boolean)] s := ⟨hKn, fun k q h => by
    match k, h with
    | 0, h => cases h; exact ⟨fun n z => ⟨fun k h => (by cases h), kI, hkI, compI, hkdI⟩, hfI⟩
    | 1, h => cases h; exact ⟨fun n z => ⟨fun k h => (by cases h), kZ, hkZ, compZ, hkdZ⟩, hfZ⟩
    | k + 2, h => simp at h⟩
  have hO : nOv s := ⟨(hts (Cond.arrayOver (.array .int)) (lw_mem 28 (by decide +kernel)) : (Cond.arrayOver (.array .int)).before #[Value.ref b] s = true), va_AO.of (hts _ (lw_mem 198 (by decide +kernel))), va_Nw.of rfl (hts _ (lw_mem 72 (by decide +kernel))), va_Nw.of rfl (hts _ (lw_mem 95 (by decide +kernel))), va_Nw.of rfl (hts _ (lw_mem 133 (by decide +kernel))), va_Nw.of rfl (hts _ (lw_mem 159 (by decide +kernel)))⟩
  obtain ⟨t1, z1, y1⟩ := st_tab (nm := "LEAST_RULE") (N := 3) (f := tb1) (A := (fun q : Nat => s.heap.size ≤ q)) (by decide) (hflat _ (by decide +kernel)) (hflat _ (by decide +kernel)) (fun j hj => by
    match j, hj with
    | 0, _ => exact hflat _ (by decide +kernel)
    | 1, _ => exact hflat _ (by decide +kernel)
    | 2, _ => exact hflat _ (by decide +kernel)
    | j + 3, hj => exact absurd hj (by omega)) (hts _ (lw_mem 335 (by decide +kernel))) (hg _ qw1) hnA
  obtain ⟨t2, z2, y2⟩ := st_tab (nm := "GREATEST_RULE") (N := 3) (f := tb2) (A := (fun q : Nat => s.heap.size ≤ q)) (by decide) (hflat _ (by decide +kernel)) (hflat _ (by decide +kernel)) (fun j hj => by
    match j, hj with
    | 0, _ => exact hflat _ (by decide +kernel)
    | 1, _ => exact hflat _ (by decide +kernel)
    | 2, _ => exact hflat _ (by decide +kernel)
    | j + 3, hj => exact absurd hj (by omega)) (hts _ (lw_mem 337 (by decide +kernel))) (hg _ qw1) hnA
  obtain ⟨t3, z3, y3⟩ := st_tab (nm := "ORDERS") (N := 5) (f := tb3) (A := (fun q : Nat => s.heap.size ≤ q)) (by decide) (hflat _ (by decide +kernel)) (hflat _ (by decide +kernel)) (fun j hj => by
    match j, hj with
    | 0, _ => exact hflat _ (by decide +kernel)
    | 1, _ => exact hflat _ (by decide +kernel)
    | 2, _ => exact hflat _ (by decide +kernel)
    | 3, _ => exact hflat _ (by decide +kernel)
    | 4, _ => exact hflat _ (by decide +kernel)
    | j + 5, hj => exact absurd hj (by omega)) (hts _ (lw_mem 494 (by decide +kernel))) (hg _ qw1) hnA
  have hN : NH D [(cI, .int), (cZ, .boolean)] s (fun q : Nat => s.heap.size ≤ q) [] s.heap [] := ⟨hK0, fun k q h => by simp at h, ⟨fun i j p q h => by simp at h, fun k q h => by simp at h⟩, va_S.rf, hA, hO⟩
  have hl := lv_entry ([.ref b]) (n := 4) (Nat.le_of_ble_eq_true rfl)
  rw [lg_entry_eq]
  generalize (lg_sl ([.ref b]) ++ List.replicate (4 - (lg_sl ([.ref b])).length) Slot.unset).toArray = ls at hl ⊢
  have hl : lv_has ls 4 [(0, .ref b)] := hl
  refine n_new (ci := 7) (cells' := 1) (slots' := 10) C hN rfl inC7 okC7 (g_mem 13 (by decide +kernel) (by decide +kernel)) (g_mem 14 (by decide +kernel) (by decide +kernel)) qw1 [.null, .null, .null, .null, .null, .null, .null, .null, .int 0, .int 0] dfC7 ⟨rfl, by decide⟩ ⟨rfl, by decide⟩ d_LW_0 (fun qx H hN => ?_)
  refine lv_dup hx hb d_LW_3 rfl ?_
  refine n_goI (wc := [(qx, .inr (7, [.null, .null, .null, .null, .null, .null, .null, .null, .int 0, .int 0]))]) (wr := []) (cells' := 49) (slots' := 529) hN (n_runI (n := 0) (As := []) (rest := [.ref qx]) C hN (c_X_init l D cI cZ qx _) [0] rfl rfl ⟨qw15, qw16, qw1, qw17, rfl, by decide +kernel, by decide +kernel, by decide +kernel⟩ rfl rfl ⟨by decide, by decide⟩ rfl hl.1 rfl (Nat.le_of_ble_eq_true rfl) d_LW_4 ⟨by decide, by decide⟩) [0] [] rfl rfl rfl (by decide) ⟨rfl, rfl⟩ (fun ux H locs hN => ?_)
  refine lv_astore_n (lv' := [(1, .ref qx), (0, .ref b)]) hx hb d_LW_7 rfl hl (by decide) rfl (fun ls hl => ?_)
  have hN : NH D [(cI, .int), (cZ, .boolean), (ux.2.1, .array .int), (ux.2.2, .object "EveningAuction$Sheet")] s (fun q : Nat => s.heap.size ≤ q) (wo_X_init cI cZ qx ux) H locs := hN
  refine n_new (ci := 8) (cells' := 50) (slots' := 558) C hN rfl inC8 okC8 (g_mem 670 (by decide +kernel) (by decide +kernel)) (g_mem 671 (by decide +kernel) (by decide +kernel)) (g_mem 8 (by decide +kernel) (by decide +kernel)) [.null, .null, .null, .null, .int 0, .null, .int 0, .int 0, .int 0, .null, .null, .null, .null, .null, .null, .null, .null, .null, .null, .null, .int 0, .null, .int 0, .null, .null, .null, .null, .null, .null] dfC8 ⟨rfl, by decide⟩ ⟨rfl, by decide⟩ d_LW_8 (fun qm H hN => ?_)
  refine lv_dup hx hb d_LW_11 rfl ?_
  refine n_goI (wc := [(qm, .inr (8, [.null, .null, .null, .null, .int 0, .null, .int 0, .int 0, .int 0, .null, .null, .null, .null, .null, .null, .null, .null, .null, .null, .null, .int 0, .null, .int 0, .null, .null, .null, .null, .null, .null]))]) (wr := wo_X_init cI cZ qx ux) (cells' := 73) (slots' := 7375) hN (n_runI (n := 0) (As := []) (rest := [.ref qm]) C hN (n_tys (c_M_init l D cI cZ qm _) [0, 1] rfl) [49] rfl rfl ⟨qw672, qw673, qw8, qw674, rfl, by decide +kernel, by decide +kernel, by decide +kernel⟩ rfl rfl ⟨by decide, by decide⟩ rfl hl.1 rfl (Nat.le_of_ble_eq_true rfl) d_LW_12 ⟨by decide, by decide⟩) [49] (List.range 49) rfl rfl (by decide +kernel) (by decide +kernel) ⟨rfl, rfl⟩ (fun um H locs hN => ?_)
  refine lv_astore_n (lv' := [(2, .ref qm), (1, .ref qx), (0, .ref b)]) hx hb d_LW_15 rfl hl (by decide) rfl (fun ls hl => ?_)
  refine lv_iconst (v := 0) hx hb d_LW_16 (by decide) ?_
  refine lv_istore_n (lv' := [(3, .int 0), (2, .ref qm), (1, .ref qx), (0, .ref b)]) hx hb d_LW_17 rfl hl (by decide) rfl (fun ls hl => ?_)
  obtain ⟨w, hw⟩ : ∃ w : gw, w = (D, (cI, cZ, ux.2.2, ux.2.1), 73, (fun k => adS qx qm ux um k), (fun _ => 0), (t1, t2, t3)) := ⟨_, rfl⟩
  have hcells := start_cells hw
  obtain ⟨hK, hP, hD, hS, -, -⟩ := hN
  have hgN : gN w = 73 := by rw [hw]; rfl
  have hgD : gD w = D := by rw [hw]; rfl
  have hG : GH w s (fun q : Nat => s.heap.size ≤ q) S0 H locs := by
    refine ⟨?_, ?_, ?_, hS, hA, ?_, by omega⟩
    · rw [hgD]
      have := hK.sub (tys' := [(cI, .int), (cZ, .boolean), (ux.2.2, .object "EveningAuction$Sheet"), (ux.2.1, .array .int)]) [0, 1, 3, 2] rfl
      rw [show gty w = [(cI, .int), (cZ, .boolean), (ux.2.2, .object "EveningAuction$Sheet"), (ux.2.1, .array .int)] by rw [hw]; rfl]
      exact this
    · rw [hgD]
      intro k q hk
      obtain ⟨hk1, rfl⟩ := gws_lt hk
      exact hP k _ (hcells k (by omega))
    · refine ⟨fun i j x y hi hj hxy => ?_, fun k q hk => ?_⟩
      · obtain ⟨hi1, rfl⟩ := gws_lt hi
        obtain ⟨hj1, rfl⟩ := gws_lt hj
        exact hD.1 i j _ _ (hcells i (by omega)) (hcells j (by omega)) hxy
      · obtain ⟨hk1, rfl⟩ := gws_lt hk
        exact hD.2 k _ (hcells k (by omega))
    · rw [hw]
      exact ⟨z1, y1, z2, y2, z3, y3, va_Nw.of rfl (hts _ (lw_mem 261 (by decide +kernel))), va_Nw.of rfl (hts _ (lw_mem 400 (by decide +kernel))), va_Nw.of rfl (hts _ (lw_mem 493 (by decide +kernel)))⟩
  have ha0 : gad w 0 = qx := by rw [hw]; rfl
  have ha49 : gad w 49 = qm := by rw [hw]; rfl
  exact law_loop l hL C0 513 0 0 (by omega) (by omega) nI_0.symm w S0 H locs ls (InvB_start hgN) hG (by rw [ha0, ha49]; exact lv_sub hl [3, 2, 1, 0] rfl)
-- ===== YOUR PART ENDS =====
set_option maxHeartbeats 4000000 in
theorem lw_walk (l : Launch) (b : Addr) (xs : List Int32) : MetFree l x (headSpec (Jvm.Cond.code x code maxLocals ret :: tables_1) room_1) (lw_P b xs) (fun _ _ _ _ _ => True) lw_Q := by
  refine MetFree.of_bodyS (code := code) (maxLocals := maxLocals) (ret := ret) (by decide) ?_ ?_
  · intro args s m h hn
    obtain ⟨meth, c, h1, h2, h3, h4, h5, h6, -, -⟩ := Cond.code_spec hn (atoms_spec (ws := Jvm.Cond.code x code maxLocals ret :: tables_1) h _ List.mem_cons_self)
    exact ⟨meth, c, h1, h2, h3, h4, h5, h6⟩
  · intro p e s m args below meth c s₁ B hml0 hP _
    obtain ⟨rfl, hx, hbd, hgv⟩ := hP
    obtain ⟨scr, harrAt, hlist, hof, hsmall⟩ := hx
    obtain ⟨hcb, hkn, -, -⟩ := State.arrayAt?_spec harrAt
    have hown : s.vm.findClass R_law = some m.cls := findClass_of_methodNamed B.named
    have hts0 : ∀ c ∈ (Jvm.Cond.code x code maxLocals ret :: tables_1), c.before #[Value.ref b] s = true := atoms_spec (ws := Jvm.Cond.code x code maxLocals ret :: tables_1) B.pre
    have hts : ∀ w ∈ lw_tbl, w.before #[Value.ref b] s = true := k2_hts_sels lw_privs (fun w hw => hts0 w (List.mem_cons_of_mem _ hw)) lw_privs_ok
    have hml : c.maxLocals = 4 := B.maxLocals_eq (hts0 _ List.mem_cons_self)
    have X₀ : Stand p l e room_1 s m #[Value.ref b] below meth c s₁ [] 0 0 := Stand.of_body B
    have hh0 : s₁.heap = s.heap := by rw [B.state]; rfl
    have hsz : scr.slots.size = xs.length := by rw [← Array.length_toList, hlist, List.length_map]
    have hval : ∀ j : Nat, j < xs.length → scr.slots[j]? = some (.int (xs.getD j 0)) := fun j hj => by
      rw [← Array.getElem?_toList, hlist]
      simp [hj]
    have hbl : b < s.heap.size := (Array.getElem?_eq_some_iff.mp hcb).1
    have hX : va_X b xs.length (fun j => xs.getD j 0) s s.heap := ⟨scr, hcb, hof, hkn, hsz, hval⟩
    have K : W p l e room_1 s m #[Value.ref b] below meth c s₁.heap [] 0 0 (lw_Z below #[Value.ref b] s) (entryFrame m ([Value.ref b] : List Value).toArray 4) := by
      rw [hh0]
      exact whole_start l hbd ⟨B.exec, B.bytes, B.returns, hml, hown, hts, hX, hbl, B.notSynchronized, hgv⟩
    obtain ⟨t, a1, o, b1, b2, b3⟩ := K s₁ rfl X₀
    exact ⟨t, o, a1, b1, b2, b3⟩
theorem lw_pre_spec {args : Array Value} {s : State} (h : (Jvm.Cond.and given_1 narrow_1).before args s = true) (hr : rest_1_c.before args s = true) : ∃ (b : Addr) (xs : List Int32), lw_P b xs args s := by
  have hs := flat_of_before _ h
  have hq := flat_of_before _ hr
  have hc : (Cond.count 1).before args s = true := hs _ (by decide +kernel)
  have harr : (Cond.arrayOf (.arg 0) .int).before args s = true := hs _ (by decide +kernel)
  have hle : (Cond.le (.length (.arg 0)) (.int 3072)).before args s = true := hs _ (by decide +kernel)
  have hlen : (Cond.isInt (.length (.arg 0))).before args s = true := hq _ (by decide +kernel)
  have hall : (Cond.all (.arg 0) (.isInt (.elem (.arg 0) (.index 0)))).before args s = true := hq _ (by decide +kernel)
  obtain ⟨b, xs, hb, hx⟩ := State.ints_of_pre rfl harr hlen hall
  have hsm : xs.length < 2 ^ 31 := hx.choose_spec.2.2.2
  have hev : (Term.length (.arg 0)).eval args s none [] s = some (.int xs.length.toInt32) := hx.length_eval hb
  have hv := Cond.le_ints hev (show (Term.int 3072).eval args s none [] s = some (.int 3072) from rfl)
  have hd : xs.length.toInt32 ≤ 3072 := by
    simpa [Cond.before, Cond.holds, hv] using hle
  have hN : xs.length ≤ 3072 := (Int32.ofNat_le_ofNat hsm (by decide)).mp (show Int32.ofNat xs.length ≤ Int32.ofNat 3072 from hd)
  exact ⟨b, xs, Cond.one_arg hc (show args[0]? = some (.ref b) from hb), hx, hN, h⟩
theorem lw_comes (l : Launch) : Comes l x (Jvm.Cond.code x code maxLocals ret :: tables_1) room_1 (fun tb e args s => Calls_1 tb e args s ∧ rest_1 tb e args s ∧ Pre_1 tb e args s)
    (fun _ _ args s o t => lw_Q args s o t) := by
  intro p e ha hc hk s m args below hf hfit hheap happ hpre
  obtain ⟨b, xs, hP⟩ := lw_pre_spec hpre.2.2 hpre.2.1
  obtain ⟨k, o, h1, h2, h3, hQ⟩ := lw_walk l b xs p e ha hc hk s m args below hf ((Spec.applies_iff_loose hf).mp happ).1 hP trivial
  exact ⟨k, o, h1, h2, h3, hQ⟩
theorem lw_frame {s t : State} {o : Outcome} {args : Array Value} (h : Framed s o t [] 600000 7302250) :
    Framed s o t (fieldLocs frame_1_writes args s ++ arrayLocs frame_1_arrays args s ++ staticLocs frame_1_statics s) 600000 7302250 := h
theorem lw_limb (L : Cond) (hL : ∀ (args : Array Value) (s t : State), L.after args s (.returned (some (.int 1))) t = true) :
    ArmFor flags0 classFile x code maxLocals ret World_1 tables_1 room_1 Calls_1 rest_1 Pre_1
      (fun tb e a s o t => postC L tb e a s o t ∧ Framed s o t (fieldLocs frame_1_writes a s ++ arrayLocs frame_1_arrays a s ++ staticLocs frame_1_statics s) 600000 7302250) := by
  intro l _ _ _ p e ha hc hk s m args below hf hfit hheap happ hpre
  obtain ⟨k, o, h1, h2, h3, rfl, hF⟩ := lw_comes l p e ha hc hk s m args below hf hfit hheap happ hpre
  exact ⟨k, _, h1, h2, h3, hL args s _, lw_frame hF⟩
theorem i_vc : Claimed_1_1 ∧ Claimed_1_2 := ⟨lw_limb limb_1_1 (fun args s t => by simp [limb_1_1, Cond.after, Cond.holds, Cond.value]), lw_limb limb_1_2 (fun args s t => Cond.after_iff.mpr (by
  first | (rw [show limb_1_2 = Cond.eq .result (.int 1) from rfl, Cond.eq_ints (x := 1) (y := 1) rfl rfl]; simp; done) | (simp [limb_1_2, Cond.value, Term.eval]; done)))⟩
