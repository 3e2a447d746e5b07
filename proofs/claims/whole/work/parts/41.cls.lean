variable {p : Program} {l : Launch} {e : Env} {s : State} {m : MethodId} {args : Array Value} {below : List Frame} {meth : Method} {c : Code} {A : Nat → Prop} {Q : State → Prop} {w : gw} {S : St}
theorem d_BT_eveningOf_0 : decode b_BT_eveningOf 0 = .ok (.aload_n 0, 1) := by decide +kernel
theorem d_BT_eveningOf_1 : decode b_BT_eveningOf 1 = .ok (.getfield 9, 3) := by decide +kernel
theorem d_BT_eveningOf_4 : decode b_BT_eveningOf 4 = .ok (.iload_n 1, 1) := by decide +kernel
theorem d_BT_eveningOf_5 : decode b_BT_eveningOf 5 = .ok (.iconst 5, 1) := by decide +kernel
theorem d_BT_eveningOf_6 : decode b_BT_eveningOf 6 = .ok (.imul, 1) := by decide +kernel
theorem d_BT_eveningOf_7 : decode b_BT_eveningOf 7 = .ok (.iaload, 1) := by decide +kernel
theorem d_BT_eveningOf_8 : decode b_BT_eveningOf 8 = .ok (.bipush 48, 2) := by decide +kernel
theorem d_BT_eveningOf_10 : decode b_BT_eveningOf 10 = .ok (.isub, 1) := by decide +kernel
theorem d_BT_eveningOf_11 : decode b_BT_eveningOf 11 = .ok (.ireturn, 1) := by decide +kernel
noncomputable def BT_eveningOf (S : St) (x1 : Int32) : Option (Int32) :=
  chk (inb (x1 * 5) 100) <|
    some ((S 26 (ix (x1 * 5))) - 48)
set_option maxHeartbeats 4000000 in
set_option maxRecDepth 100000 in
theorem c_BT_eveningOf (l : Launch) (w : gw) (S : St) (x1 : Int32)  {z : Int32} (h : (BT_eveningOf S x1) = some z) : gMi l w y_BT_eveningOf b_BT_eveningOf 2 (some .int) (rmm 0 0) [.ref (gad w 25), .int x1] S z S := by
  unfold BT_eveningOf at h
  refine g_met (Qc := gQi w z S) (by decide +kernel) (Nat.le_of_ble_eq_true rfl) ?_
  intro p e s m args below meth c A Q ls hQ C hG hl
  have hx := C.1
  have hb := C.2.1
  have hl : lv_has ls 2 [(0, .ref (gad w 25)), (1, .int x1)] := hl
  refine lv_aload_n hx hb d_BT_eveningOf_0 rfl (lv_at hl 0 rfl) ?_
  refine g_get C hG (hG.lt (Nat.le_of_ble_eq_true rfl)) (ce25 w _) rfl inC0 0 (Nat.le_of_ble_eq_true rfl) qw76 rfl d_BT_eveningOf_1 ?_
  refine lv_iload_n hx hb d_BT_eveningOf_4 rfl (lv_at hl 1 rfl) ?_
  refine lv_iconst (v := 5) hx hb d_BT_eveningOf_5 (by decide) ?_
  refine lv_imul hx hb d_BT_eveningOf_6 ?_
  obtain ⟨hi1, h⟩ := chk_some h
  refine g_iald (j := ix (x1 * 5)) C hG (hG.lt (Nat.le_of_ble_eq_true rfl)) (ce26 w _) (inb_in hi1) rfl d_BT_eveningOf_7 ?_
  refine lv_bipush (v := 48) hx hb d_BT_eveningOf_8 (by decide) ?_
  refine lv_isub hx hb d_BT_eveningOf_10 ?_
  exact g_iret C hG (Option.some.inj h) rfl hQ d_BT_eveningOf_11
theorem d_BT_bidderOf_0 : decode b_BT_bidderOf 0 = .ok (.aload_n 0, 1) := by decide +kernel
theorem d_BT_bidderOf_1 : decode b_BT_bidderOf 1 = .ok (.getfield 9, 3) := by decide +kernel
theorem d_BT_bidderOf_4 : decode b_BT_bidderOf 4 = .ok (.iload_n 1, 1) := by decide +kernel
theorem d_BT_bidderOf_5 : decode b_BT_bidderOf 5 = .ok (.iconst 5, 1) := by decide +kernel
theorem d_BT_bidderOf_6 : decode b_BT_bidderOf 6 = .ok (.imul, 1) := by decide +kernel
theorem d_BT_bidderOf_7 : decode b_BT_bidderOf 7 = .ok (.iconst 1, 1) := by decide +kernel
theorem d_BT_bidderOf_8 : decode b_BT_bidderOf 8 = .ok (.iadd, 1) := by decide +kernel
theorem d_BT_bidderOf_9 : decode b_BT_bidderOf 9 = .ok (.iaload, 1) := by decide +kernel
theorem d_BT_bidderOf_10 : decode b_BT_bidderOf 10 = .ok (.bipush 48, 2) := by decide +kernel
theorem d_BT_bidderOf_12 : decode b_BT_bidderOf 12 = .ok (.isub, 1) := by decide +kernel
theorem d_BT_bidderOf_13 : decode b_BT_bidderOf 13 = .ok (.ireturn, 1) := by decide +kernel
noncomputable def BT_bidderOf (S : St) (x1 : Int32) : Option (Int32) :=
  chk (inb ((x1 * 5) + 1) 100) <|
    some ((S 26 (ix ((x1 * 5) + 1))) - 48)
set_option maxHeartbeats 4000000 in
set_option maxRecDepth 100000 in
theorem c_BT_bidderOf (l : Launch) (w : gw) (S : St) (x1 : Int32)  {z : Int32} (h : (BT_bidderOf S x1) = some z) : gMi l w y_BT_bidderOf b_BT_bidderOf 2 (some .int) (rmm 0 0) [.ref (gad w 25), .int x1] S z S := by
  unfold BT_bidderOf at h
  refine g_met (Qc := gQi w z S) (by decide +kernel) (Nat.le_of_ble_eq_true rfl) ?_
  intro p e s m args below meth c A Q ls hQ C hG hl
  have hx := C.1
  have hb := C.2.1
  have hl : lv_has ls 2 [(0, .ref (gad w 25)), (1, .int x1)] := hl
  refine lv_aload_n hx hb d_BT_bidderOf_0 rfl (lv_at hl 0 rfl) ?_
  refine g_get C hG (hG.lt (Nat.le_of_ble_eq_true rfl)) (ce25 w _) rfl inC0 0 (Nat.le_of_ble_eq_true rfl) qw76 rfl d_BT_bidderOf_1 ?_
  refine lv_iload_n hx hb d_BT_bidderOf_4 rfl (lv_at hl 1 rfl) ?_
  refine lv_iconst (v := 5) hx hb d_BT_bidderOf_5 (by decide) ?_
  refine lv_imul hx hb d_BT_bidderOf_6 ?_
  refine lv_iconst (v := 1) hx hb d_BT_bidderOf_7 (by decide) ?_
  refine lv_iadd hx hb d_BT_bidderOf_8 ?_
  obtain ⟨hi1, h⟩ := chk_some h
  refine g_iald (j := ix ((x1 * 5) + 1)) C hG (hG.lt (Nat.le_of_ble_eq_true rfl)) (ce26 w _) (inb_in hi1) rfl d_BT_bidderOf_9 ?_
  refine lv_bipush (v := 48) hx hb d_BT_bidderOf_10 (by decide) ?_
  refine lv_isub hx hb d_BT_bidderOf_12 ?_
  exact g_iret C hG (Option.some.inj h) rfl hQ d_BT_bidderOf_13
theorem d_BT_amountOf_0 : decode b_BT_amountOf 0 = .ok (.aload_n 0, 1) := by decide +kernel
theorem d_BT_amountOf_1 : decode b_BT_amountOf 1 = .ok (.getfield 9, 3) := by decide +kernel
theorem d_BT_amountOf_4 : decode b_BT_amountOf 4 = .ok (.iload_n 1, 1) := by decide +kernel
theorem d_BT_amountOf_5 : decode b_BT_amountOf 5 = .ok (.iconst 5, 1) := by decide +kernel
theorem d_BT_amountOf_6 : decode b_BT_amountOf 6 = .ok (.imul, 1) := by decide +kernel
theorem d_BT_amountOf_7 : decode b_BT_amountOf 7 = .ok (.iconst 2, 1) := by decide +kernel
theorem d_BT_amountOf_8 : decode b_BT_amountOf 8 = .ok (.iadd, 1) := by decide +kernel
theorem d_BT_amountOf_9 : decode b_BT_amountOf 9 = .ok (.iaload, 1) := by decide +kernel
theorem d_BT_amountOf_10 : decode b_BT_amountOf 10 = .ok (.bipush 48, 2) := by decide +kernel
theorem d_BT_amountOf_12 : decode b_BT_amountOf 12 = .ok (.isub, 1) := by decide +kernel
theorem d_BT_amountOf_13 : decode b_BT_amountOf 13 = .ok (.bipush 10, 2) := by decide +kernel
theorem d_BT_amountOf_15 : decode b_BT_amountOf 15 = .ok (.imul, 1) := by decide +kernel
theorem d_BT_amountOf_16 : decode b_BT_amountOf 16 = .ok (.aload_n 0, 1) := by decide +kernel
theorem d_BT_amountOf_17 : decode b_BT_amountOf 17 = .ok (.getfield 9, 3) := by decide +kernel
theorem d_BT_amountOf_20 : decode b_BT_amountOf 20 = .ok (.iload_n 1, 1) := by decide +kernel
theorem d_BT_amountOf_21 : decode b_BT_amountOf 21 = .ok (.iconst 5, 1) := by decide +kernel
theorem d_BT_amountOf_22 : decode b_BT_amountOf 22 = .ok (.imul, 1) := by decide +kernel
theorem d_BT_amountOf_23 : decode b_BT_amountOf 23 = .ok (.iconst 3, 1) := by decide +kernel
theorem d_BT_amountOf_24 : decode b_BT_amountOf 24 = .ok (.iadd, 1) := by decide +kernel
theorem d_BT_amountOf_25 : decode b_BT_amountOf 25 = .ok (.iaload, 1) := by decide +kernel
theorem d_BT_amountOf_26 : decode b_BT_amountOf 26 = .ok (.iadd, 1) := by decide +kernel
theorem d_BT_amountOf_27 : decode b_BT_amountOf 27 = .ok (.bipush 48, 2) := by decide +kernel
theorem d_BT_amountOf_29 : decode b_BT_amountOf 29 = .ok (.isub, 1) := by decide +kernel
theorem d_BT_amountOf_30 : decode b_BT_amountOf 30 = .ok (.ireturn, 1) := by decide +kernel
noncomputable def BT_amountOf (S : St) (x1 : Int32) : Option (Int32) :=
  chk (inb ((x1 * 5) + 2) 100) <|
    chk (inb ((x1 * 5) + 3) 100) <|
    some (((((S 26 (ix ((x1 * 5) + 2))) - 48) * 10) + (S 26 (ix ((x1 * 5) + 3)))) - 48)
set_option maxHeartbeats 4000000 in
set_option maxRecDepth 100000 in
theorem c_BT_amountOf (l : Launch) (w : gw) (S : St) (x1 : Int32)  {z : Int32} (h : (BT_amountOf S x1) = some z) : gMi l w y_BT_amountOf b_BT_amountOf 2 (some .int) (rmm 0 0) [.ref (gad w 25), .int x1] S z S := by
  unfold BT_amountOf at h
  refine g_met (Qc := gQi w z S) (by decide +kernel) (Nat.le_of_ble_eq_true rfl) ?_
  intro p e s m args below meth c A Q ls hQ C hG hl
  have hx := C.1
  have hb := C.2.1
  have hl : lv_has ls 2 [(0, .ref (gad w 25)), (1, .int x1)] := hl
  refine lv_aload_n hx hb d_BT_amountOf_0 rfl (lv_at hl 0 rfl) ?_
  refine g_get C hG (hG.lt (Nat.le_of_ble_eq_true rfl)) (ce25 w _) rfl inC0 0 (Nat.le_of_ble_eq_true rfl) qw76 rfl d_BT_amountOf_1 ?_
  refine lv_iload_n hx hb d_BT_amountOf_4 rfl (lv_at hl 1 rfl) ?_
  refine lv_iconst (v := 5) hx hb d_BT_amountOf_5 (by decide) ?_
  refine lv_imul hx hb d_BT_amountOf_6 ?_
  refine lv_iconst (v := 2) hx hb d_BT_amountOf_7 (by decide) ?_
  refine lv_iadd hx hb d_BT_amountOf_8 ?_
  obtain ⟨hi1, h⟩ := chk_some h
  refine g_iald (j := ix ((x1 * 5) + 2)) C hG (hG.lt (Nat.le_of_ble_eq_true rfl)) (ce26 w _) (inb_in hi1) rfl d_BT_amountOf_9 ?_
  refine lv_bipush (v := 48) hx hb d_BT_amountOf_10 (by decide) ?_
  refine lv_isub hx hb d_BT_amountOf_12 ?_
  refine lv_bipush (v := 10) hx hb d_BT_amountOf_13 (by decide) ?_
  refine lv_imul hx hb d_BT_amountOf_15 ?_
  refine lv_aload_n hx hb d_BT_amountOf_16 rfl (lv_at hl 0 rfl) ?_
  refine g_get C hG (hG.lt (Nat.le_of_ble_eq_true rfl)) (ce25 w _) rfl inC0 0 (Nat.le_of_ble_eq_true rfl) qw76 rfl d_BT_amountOf_17 ?_
  refine lv_iload_n hx hb d_BT_amountOf_20 rfl (lv_at hl 1 rfl) ?_
  refine lv_iconst (v := 5) hx hb d_BT_amountOf_21 (by decide) ?_
  refine lv_imul hx hb d_BT_amountOf_22 ?_
  refine lv_iconst (v := 3) hx hb d_BT_amountOf_23 (by decide) ?_
  refine lv_iadd hx hb d_BT_amountOf_24 ?_
  obtain ⟨hi2, h⟩ := chk_some h
  refine g_iald (j := ix ((x1 * 5) + 3)) C hG (hG.lt (Nat.le_of_ble_eq_true rfl)) (ce26 w _) (inb_in hi2) rfl d_BT_amountOf_25 ?_
  refine lv_iadd hx hb d_BT_amountOf_26 ?_
  refine lv_bipush (v := 48) hx hb d_BT_amountOf_27 (by decide) ?_
  refine lv_isub hx hb d_BT_amountOf_29 ?_
  exact g_iret C hG (Option.some.inj h) rfl hQ d_BT_amountOf_30
theorem d_CL_greatestValue_0 : decode b_CL_greatestValue 0 = .ok (.iconst 0, 1) := by decide +kernel
theorem d_CL_greatestValue_1 : decode b_CL_greatestValue 1 = .ok (.istore_n 3, 1) := by decide +kernel
theorem d_CL_greatestValue_2 : decode b_CL_greatestValue 2 = .ok (.iconst 0, 1) := by decide +kernel
theorem d_CL_greatestValue_3 : decode b_CL_greatestValue 3 = .ok (.istore 4, 2) := by decide +kernel
theorem d_CL_greatestValue_5 : decode b_CL_greatestValue 5 = .ok (.iload 4, 2) := by decide +kernel
theorem d_CL_greatestValue_7 : decode b_CL_greatestValue 7 = .ok (.iconst 5, 1) := by decide +kernel
theorem d_CL_greatestValue_8 : decode b_CL_greatestValue 8 = .ok (.if_icmp .ge 33, 3) := by decide +kernel
theorem d_CL_greatestValue_11 : decode b_CL_greatestValue 11 = .ok (.iload_n 1, 1) := by decide +kernel
theorem d_CL_greatestValue_12 : decode b_CL_greatestValue 12 = .ok (.iload 4, 2) := by decide +kernel
theorem d_CL_greatestValue_14 : decode b_CL_greatestValue 14 = .ok (.ishr, 1) := by decide +kernel
theorem d_CL_greatestValue_15 : decode b_CL_greatestValue 15 = .ok (.iconst 1, 1) := by decide +kernel
theorem d_CL_greatestValue_16 : decode b_CL_greatestValue 16 = .ok (.iand, 1) := by decide +kernel
theorem d_CL_greatestValue_17 : decode b_CL_greatestValue 17 = .ok (.iconst 1, 1) := by decide +kernel
theorem d_CL_greatestValue_18 : decode b_CL_greatestValue 18 = .ok (.if_icmp .ne 17, 3) := by decide +kernel
theorem d_CL_greatestValue_21 : decode b_CL_greatestValue 21 = .ok (.iload_n 3, 1) := by decide +kernel
theorem d_CL_greatestValue_22 : decode b_CL_greatestValue 22 = .ok (.aload_n 0, 1) := by decide +kernel
theorem d_CL_greatestValue_23 : decode b_CL_greatestValue 23 = .ok (.getfield 34, 3) := by decide +kernel
theorem d_CL_greatestValue_26 : decode b_CL_greatestValue 26 = .ok (.iload 4, 2) := by decide +kernel
theorem d_CL_greatestValue_28 : decode b_CL_greatestValue 28 = .ok (.aaload, 1) := by decide +kernel
theorem d_CL_greatestValue_29 : decode b_CL_greatestValue 29 = .ok (.iload_n 2, 1) := by decide +kernel
theorem d_CL_greatestValue_30 : decode b_CL_greatestValue 30 = .ok (.iaload, 1) := by decide +kernel
theorem d_CL_greatestValue_31 : decode b_CL_greatestValue 31 = .ok (.invokestatic 28, 3) := by decide +kernel
theorem d_CL_greatestValue_34 : decode b_CL_greatestValue 34 = .ok (.istore_n 3, 1) := by decide +kernel
theorem d_CL_greatestValue_35 : decode b_CL_greatestValue 35 = .ok (.iinc 4 1, 3) := by decide +kernel
theorem d_CL_greatestValue_38 : decode b_CL_greatestValue 38 = .ok (.goto (-33), 3) := by decide +kernel
theorem d_CL_greatestValue_41 : decode b_CL_greatestValue 41 = .ok (.iload_n 3, 1) := by decide +kernel
theorem d_CL_greatestValue_42 : decode b_CL_greatestValue 42 = .ok (.ireturn, 1) := by decide +kernel
noncomputable def CL_greatestValue_L5 (S : St) (x1 : Int32) (x2 : Int32) (x3 : Int32) (x4 : Int32) : Option ((Int32 × Int32) × Nat) :=
  if 5 ≤ x4 then
      some ((x3, x4), 1)
    else
      if ((x1 >>> (x4 &&& 31)) &&& 1) = 1 then
        chk (inb x4 5) <|
        chk (inb x2 10) <|
        some ((mx x3 (S (5 + (ix x4)) (ix x2)), x4 + 1), 0)
      else
        some ((x3, x4 + 1), 0)
noncomputable def CL_greatestValue_J41 (S : St) (x3 : Int32) : Option (Int32) :=
  some x3
noncomputable def CL_greatestValue (S : St) (x1 : Int32) (x2 : Int32) : Option (Int32) :=
  bnd (lp (σ := Int32 × Int32) (fun q => CL_greatestValue_L5 S x1 x2 q.1 q.2) FZ (0, 0)) fun z1 =>
    CL_greatestValue_J41 S z1.1.1
set_option maxHeartbeats 4000000 in
set_option maxRecDepth 100000 in
theorem L_CL_greatestValue_5 (C : gCx p s m args meth c y_CL_greatestValue.cls b_CL_greatestValue 5 (some .int)) : ∀ (S : St) (x1 : Int32) (x2 : Int32) (n : Nat) (x3 : Int32) (x4 : Int32) (r : (Int32 × Int32) × Nat), lp (σ := Int32 × Int32) (fun q => CL_greatestValue_L5 S x1 x2 q.1 q.2) n (x3, x4) = some r → (∀ (y3 : Int32) (y4 : Int32), r = ((y3, y4), 1) → ∀ (ls : Array Slot) (H : Heap) (locs : List Loc), GH w s A S H locs → lv_has ls 5 [(3, .int y3)] → W p l e (rmm 1 21) s m args below meth c H locs 0 0 Q (F0 m 41 ls [])) → ∀ (ls : Array Slot) (H : Heap) (locs : List Loc), GH w s A S H locs → lv_has ls 5 [(0, .ref (gad w 1)), (1, .int x1), (2, .int x2), (3, .int x3), (4, .int x4)] → W p l e (rmm 1 21) s m args below meth c H locs 0 0 Q (F0 m 5 ls []) := by
  have hx := C.1
  have hb := C.2.1
  intro S x1 x2 n
  induction n with
  | zero => intro x3 x4 r h; cases h
  | succ n ih =>
    intro x3 x4 r h k1 ls H locs hG hl
    obtain ⟨z, h, hr⟩ := lp_succ h
    have h : CL_greatestValue_L5 S x1 x2 x3 x4 = some z := h
    unfold CL_greatestValue_L5 at h
    refine lv_iload hx hb d_CL_greatestValue_5 (lv_at hl 4 rfl) ?_
    refine lv_iconst (v := 5) hx hb d_CL_greatestValue_7 (by decide) ?_
    refine lv_icmp_ge (tgt := 41) hx hb d_CL_greatestValue_8 (by decide) (fun hc => ?_) (fun hc => ?_)
    · replace h := it_t h hc
      exact k1 _ _ (lp_exit h hr) ls _ _ hG (lv_sub hl [3] rfl)
    · replace h := it_f h hc
      refine lv_iload_n hx hb d_CL_greatestValue_11 rfl (lv_at hl 1 rfl) ?_
      refine lv_iload hx hb d_CL_greatestValue_12 (lv_at hl 4 rfl) ?_
      refine lv_ishr hx hb d_CL_greatestValue_14 ?_
      refine lv_iconst (v := 1) hx hb d_CL_greatestValue_15 (by decide) ?_
      refine lv_iand hx hb d_CL_greatestValue_16 ?_
      refine lv_iconst (v := 1) hx hb d_CL_greatestValue_17 (by decide) ?_
      refine lv_icmp_ne (tgt := 35) hx hb d_CL_greatestValue_18 (by decide) (fun hc => ?_) (fun hc => ?_)
      · replace h := it_f h hc
        refine lv_iinc (v := x4 + 1) (lv' := [(4, .int (x4 + 1)), (0, .ref (gad w 1)), (1, .int x1), (2, .int x2), (3, .int x3)]) hx hb d_CL_greatestValue_35 hl (k := 4) rfl (congrArg (HAdd.hAdd x4) (by decide : Int32.ofInt 1 = 1)) (by decide) rfl (fun ls hl => ?_)
        refine lv_goto (tgt := 5) hx hb d_CL_greatestValue_38 (by decide) ?_
        exact ih _ _ _ (lp_back h hr) k1 ls _ _ hG (lv_sub hl [1, 2, 3, 4, 0] rfl)
      · replace h := it_t h hc
        refine lv_iload_n hx hb d_CL_greatestValue_21 rfl (lv_at hl 3 rfl) ?_
        refine lv_aload_n hx hb d_CL_greatestValue_22 rfl (lv_at hl 0 rfl) ?_
        refine g_get C hG (hG.lt (Nat.le_of_ble_eq_true rfl)) (ce1 w _) rfl inC6 2 (Nat.le_of_ble_eq_true rfl) qw35 rfl d_CL_greatestValue_23 ?_
        refine lv_iload hx hb d_CL_greatestValue_26 (lv_at hl 4 rfl) ?_
        obtain ⟨hi1, h⟩ := chk_some h
        refine g_ald2 (j := ix x4) C hG (hG.lt (Nat.le_of_ble_eq_true rfl)) (ce4 w _) (inb_in hi1) rfl d_CL_greatestValue_28 ?_
        have hr2 : ix x4 < 5 := row_lt (inb_in hi1)
        refine lv_iload_n hx hb d_CL_greatestValue_29 rfl (lv_at hl 2 rfl) ?_
        obtain ⟨hi3, h⟩ := chk_some h
        refine g_iald (j := ix x2) C hG (hG.lt (by omega)) (cr4 w _ hr2) (inb_in hi3) rfl d_CL_greatestValue_30 ?_
        refine g_max C hl.1 qw483 ⟨by decide, by decide⟩ (Nat.le_of_ble_eq_true rfl) ⟨Nat.zero_le _, Nat.zero_le _⟩ d_CL_greatestValue_31 ?_
        refine lv_istore_n (lv' := [(3, .int (mx x3 (S (5 + (ix x4)) (ix x2)))), (0, .ref (gad w 1)), (1, .int x1), (2, .int x2), (4, .int x4)]) hx hb d_CL_greatestValue_34 rfl hl (by decide) rfl (fun ls hl => ?_)
        refine lv_iinc (v := x4 + 1) (lv' := [(4, .int (x4 + 1)), (3, .int (mx x3 (S (5 + (ix x4)) (ix x2)))), (0, .ref (gad w 1)), (1, .int x1), (2, .int x2)]) hx hb d_CL_greatestValue_35 hl (k := 4) rfl (congrArg (HAdd.hAdd x4) (by decide : Int32.ofInt 1 = 1)) (by decide) rfl (fun ls hl => ?_)
        refine lv_goto (tgt := 5) hx hb d_CL_greatestValue_38 (by decide) ?_
        exact ih _ _ _ (lp_back h hr) k1 ls _ _ hG (lv_sub hl [2, 3, 4, 1, 0] rfl)
set_option maxHeartbeats 4000000 in
set_option maxRecDepth 100000 in
theorem c_CL_greatestValue (l : Launch) (w : gw) (S : St) (x1 : Int32) (x2 : Int32)  {z : Int32} (h : (CL_greatestValue S x1 x2) = some z) : gMi l w y_CL_greatestValue b_CL_greatestValue 5 (some .int) (rmm 1 21) [.ref (gad w 1), .int x1, .int x2] S z S := by
  unfold CL_greatestValue at h
  refine g_met (Qc := gQi w z S) (by decide +kernel) (Nat.le_of_ble_eq_true rfl) ?_
  intro p e s m args below meth c A Q ls hQ C hG hl
  have hx := C.1
  have hb := C.2.1
  have hl : lv_has ls 5 [(0, .ref (gad w 1)), (1, .int x1), (2, .int x2)] := hl
  have J41 : ∀ (x3 : Int32), CL_greatestValue_J41 S x3 = some z → ∀ (ls : Array Slot) (H : Heap) (locs : List Loc), GH w s A S H locs → lv_has ls 5 [(3, .int x3)] → W p l e (rmm 1 21) s m args below meth c H locs 0 0 Q (F0 m 41 ls []) := by
    intro x3 h ls H locs hG hl
    unfold CL_greatestValue_J41 at h
    refine lv_iload_n hx hb d_CL_greatestValue_41 rfl (lv_at hl 0 rfl) ?_
    exact g_iret C hG (Option.some.inj h) rfl hQ d_CL_greatestValue_42
  refine lv_iconst (v := 0) hx hb d_CL_greatestValue_0 (by decide) ?_
  refine lv_istore_n (lv' := [(3, .int 0), (0, .ref (gad w 1)), (1, .int x1), (2, .int x2)]) hx hb d_CL_greatestValue_1 rfl hl (by decide) rfl (fun ls hl => ?_)
  refine lv_iconst (v := 0) hx hb d_CL_greatestValue_2 (by decide) ?_
  refine lv_istore (lv' := [(4, .int 0), (3, .int 0), (0, .ref (gad w 1)), (1, .int x1), (2, .int x2)]) hx hb d_CL_greatestValue_3 hl (by decide) rfl (fun ls hl => ?_)
  obtain ⟨z1, hz1, h⟩ := bnd_some h
  refine L_CL_greatestValue_5 C _ _ _ FZ _ _ _ hz1 ?_ ls _ _ hG (lv_sub hl [2, 3, 4, 1, 0] rfl)
  intro y3 y4 e9 ls H locs hG hl
  subst e9
  exact J41 _ h ls _ _ hG (lv_sub hl [0] rfl)
theorem d_OE_mostFrom_0 : decode b_OE_mostFrom 0 = .ok (.iconst 1, 1) := by decide +kernel
theorem d_OE_mostFrom_1 : decode b_OE_mostFrom 1 = .ok (.iconst 5, 1) := by decide +kernel
theorem d_OE_mostFrom_2 : decode b_OE_mostFrom 2 = .ok (.iload_n 2, 1) := by decide +kernel
theorem d_OE_mostFrom_3 : decode b_OE_mostFrom 3 = .ok (.isub, 1) := by decide +kernel
theorem d_OE_mostFrom_4 : decode b_OE_mostFrom 4 = .ok (.ishl, 1) := by decide +kernel
theorem d_OE_mostFrom_5 : decode b_OE_mostFrom 5 = .ok (.iconst 1, 1) := by decide +kernel
theorem d_OE_mostFrom_6 : decode b_OE_mostFrom 6 = .ok (.isub, 1) := by decide +kernel
theorem d_OE_mostFrom_7 : decode b_OE_mostFrom 7 = .ok (.istore 4, 2) := by decide +kernel
theorem d_OE_mostFrom_9 : decode b_OE_mostFrom 9 = .ok (.iconst 0, 1) := by decide +kernel
theorem d_OE_mostFrom_10 : decode b_OE_mostFrom 10 = .ok (.istore 5, 2) := by decide +kernel
theorem d_OE_mostFrom_12 : decode b_OE_mostFrom 12 = .ok (.iload 5, 2) := by decide +kernel
theorem d_OE_mostFrom_14 : decode b_OE_mostFrom 14 = .ok (.iload 4, 2) := by decide +kernel
theorem d_OE_mostFrom_16 : decode b_OE_mostFrom 16 = .ok (.if_icmp .gt 17, 3) := by decide +kernel
theorem d_OE_mostFrom_19 : decode b_OE_mostFrom 19 = .ok (.aload_n 0, 1) := by decide +kernel
theorem d_OE_mostFrom_20 : decode b_OE_mostFrom 20 = .ok (.getfield 9, 3) := by decide +kernel
theorem d_OE_mostFrom_23 : decode b_OE_mostFrom 23 = .ok (.iload 5, 2) := by decide +kernel
theorem d_OE_mostFrom_25 : decode b_OE_mostFrom 25 = .ok (.iconst 0, 1) := by decide +kernel
theorem d_OE_mostFrom_26 : decode b_OE_mostFrom 26 = .ok (.iastore, 1) := by decide +kernel
theorem d_OE_mostFrom_27 : decode b_OE_mostFrom 27 = .ok (.iinc 5 1, 3) := by decide +kernel
theorem d_OE_mostFrom_30 : decode b_OE_mostFrom 30 = .ok (.goto (-18), 3) := by decide +kernel
theorem d_OE_mostFrom_33 : decode b_OE_mostFrom 33 = .ok (.iconst 0, 1) := by decide +kernel
theorem d_OE_mostFrom_34 : decode b_OE_mostFrom 34 = .ok (.istore 5, 2) := by decide +kernel
theorem d_OE_mostFrom_36 : decode b_OE_mostFrom 36 = .ok (.iload 5, 2) := by decide +kernel
theorem d_OE_mostFrom_38 : decode b_OE_mostFrom 38 = .ok (.bipush 10, 2) := by decide +kernel
theorem d_OE_mostFrom_40 : decode b_OE_mostFrom 40 = .ok (.if_icmp .ge 130, 3) := by decide +kernel
theorem d_OE_mostFrom_43 : decode b_OE_mostFrom 43 = .ok (.iload_n 3, 1) := by decide +kernel
theorem d_OE_mostFrom_44 : decode b_OE_mostFrom 44 = .ok (.iload 5, 2) := by decide +kernel
theorem d_OE_mostFrom_46 : decode b_OE_mostFrom 46 = .ok (.ishr, 1) := by decide +kernel
theorem d_OE_mostFrom_47 : decode b_OE_mostFrom 47 = .ok (.iconst 1, 1) := by decide +kernel
theorem d_OE_mostFrom_48 : decode b_OE_mostFrom 48 = .ok (.iand, 1) := by decide +kernel
theorem d_OE_mostFrom_49 : decode b_OE_mostFrom 49 = .ok (.ifCond .ne 7, 3) := by decide +kernel
theorem d_OE_mostFrom_52 : decode b_OE_mostFrom 52 = .ok (.iconst 1, 1) := by decide +kernel
theorem d_OE_mostFrom_53 : decode b_OE_mostFrom 53 = .ok (.goto 4, 3) := by decide +kernel
theorem d_OE_mostFrom_56 : decode b_OE_mostFrom 56 = .ok (.iconst 0, 1) := by decide +kernel
theorem d_OE_mostFrom_57 : decode b_OE_mostFrom 57 = .ok (.istore 6, 2) := by decide +kernel
theorem d_OE_mostFrom_59 : decode b_OE_mostFrom 59 = .ok (.iload 4, 2) := by decide +kernel
theorem d_OE_mostFrom_61 : decode b_OE_mostFrom 61 = .ok (.istore 7, 2) := by decide +kernel
theorem d_OE_mostFrom_63 : decode b_OE_mostFrom 63 = .ok (.iload 6, 2) := by decide +kernel
theorem d_OE_mostFrom_65 : decode b_OE_mostFrom 65 = .ok (.ifCond .eq 99, 3) := by decide +kernel
theorem d_OE_mostFrom_68 : decode b_OE_mostFrom 68 = .ok (.iload 7, 2) := by decide +kernel
theorem d_OE_mostFrom_70 : decode b_OE_mostFrom 70 = .ok (.ifCond .le 94, 3) := by decide +kernel
theorem d_OE_mostFrom_73 : decode b_OE_mostFrom 73 = .ok (.iload_n 2, 1) := by decide +kernel
theorem d_OE_mostFrom_74 : decode b_OE_mostFrom 74 = .ok (.istore 8, 2) := by decide +kernel
theorem d_OE_mostFrom_76 : decode b_OE_mostFrom 76 = .ok (.iload 8, 2) := by decide +kernel
theorem d_OE_mostFrom_78 : decode b_OE_mostFrom 78 = .ok (.iconst 5, 1) := by decide +kernel
theorem d_OE_mostFrom_79 : decode b_OE_mostFrom 79 = .ok (.if_icmp .ge 79, 3) := by decide +kernel
theorem d_OE_mostFrom_82 : decode b_OE_mostFrom 82 = .ok (.iconst 1, 1) := by decide +kernel
theorem d_OE_mostFrom_83 : decode b_OE_mostFrom 83 = .ok (.iconst 4, 1) := by decide +kernel
theorem d_OE_mostFrom_84 : decode b_OE_mostFrom 84 = .ok (.iload 8, 2) := by decide +kernel
theorem d_OE_mostFrom_86 : decode b_OE_mostFrom 86 = .ok (.isub, 1) := by decide +kernel
theorem d_OE_mostFrom_87 : decode b_OE_mostFrom 87 = .ok (.ishl, 1) := by decide +kernel
theorem d_OE_mostFrom_88 : decode b_OE_mostFrom 88 = .ok (.istore 9, 2) := by decide +kernel
theorem d_OE_mostFrom_90 : decode b_OE_mostFrom 90 = .ok (.iload 7, 2) := by decide +kernel
theorem d_OE_mostFrom_92 : decode b_OE_mostFrom 92 = .ok (.iload 9, 2) := by decide +kernel
theorem d_OE_mostFrom_94 : decode b_OE_mostFrom 94 = .ok (.iand, 1) := by decide +kernel
theorem d_OE_mostFrom_95 : decode b_OE_mostFrom 95 = .ok (.ifCond .eq 57, 3) := by decide +kernel
theorem d_OE_mostFrom_98 : decode b_OE_mostFrom 98 = .ok (.aload_n 0, 1) := by decide +kernel
theorem d_OE_mostFrom_99 : decode b_OE_mostFrom 99 = .ok (.getfield 9, 3) := by decide +kernel
theorem d_OE_mostFrom_102 : decode b_OE_mostFrom 102 = .ok (.iload 7, 2) := by decide +kernel
theorem d_OE_mostFrom_104 : decode b_OE_mostFrom 104 = .ok (.iload 9, 2) := by decide +kernel
theorem d_OE_mostFrom_106 : decode b_OE_mostFrom 106 = .ok (.isub, 1) := by decide +kernel
theorem d_OE_mostFrom_107 : decode b_OE_mostFrom 107 = .ok (.iaload, 1) := by decide +kernel
theorem d_OE_mostFrom_108 : decode b_OE_mostFrom 108 = .ok (.aload_n 1, 1) := by decide +kernel
theorem d_OE_mostFrom_109 : decode b_OE_mostFrom 109 = .ok (.getfield 42, 3) := by decide +kernel
theorem d_OE_mostFrom_112 : decode b_OE_mostFrom 112 = .ok (.iload 8, 2) := by decide +kernel
theorem d_OE_mostFrom_114 : decode b_OE_mostFrom 114 = .ok (.aaload, 1) := by decide +kernel
theorem d_OE_mostFrom_115 : decode b_OE_mostFrom 115 = .ok (.iload 5, 2) := by decide +kernel
theorem d_OE_mostFrom_117 : decode b_OE_mostFrom 117 = .ok (.iaload, 1) := by decide +kernel
theorem d_OE_mostFrom_118 : decode b_OE_mostFrom 118 = .ok (.iadd, 1) := by decide +kernel
theorem d_OE_mostFrom_119 : decode b_OE_mostFrom 119 = .ok (.istore 10, 2) := by decide +kernel
theorem d_OE_mostFrom_121 : decode b_OE_mostFrom 121 = .ok (.aload_n 0, 1) := by decide +kernel
theorem d_OE_mostFrom_122 : decode b_OE_mostFrom 122 = .ok (.getfield 9, 3) := by decide +kernel
theorem d_OE_mostFrom_125 : decode b_OE_mostFrom 125 = .ok (.iload 7, 2) := by decide +kernel
theorem d_OE_mostFrom_127 : decode b_OE_mostFrom 127 = .ok (.iload 10, 2) := by decide +kernel
theorem d_OE_mostFrom_129 : decode b_OE_mostFrom 129 = .ok (.aload_n 0, 1) := by decide +kernel
theorem d_OE_mostFrom_130 : decode b_OE_mostFrom 130 = .ok (.getfield 9, 3) := by decide +kernel
theorem d_OE_mostFrom_133 : decode b_OE_mostFrom 133 = .ok (.iload 7, 2) := by decide +kernel
theorem d_OE_mostFrom_135 : decode b_OE_mostFrom 135 = .ok (.iaload, 1) := by decide +kernel
theorem d_OE_mostFrom_136 : decode b_OE_mostFrom 136 = .ok (.if_icmp .le 8, 3) := by decide +kernel
theorem d_OE_mostFrom_139 : decode b_OE_mostFrom 139 = .ok (.iload 10, 2) := by decide +kernel
theorem d_OE_mostFrom_141 : decode b_OE_mostFrom 141 = .ok (.goto 10, 3) := by decide +kernel
theorem d_OE_mostFrom_144 : decode b_OE_mostFrom 144 = .ok (.aload_n 0, 1) := by decide +kernel
theorem d_OE_mostFrom_145 : decode b_OE_mostFrom 145 = .ok (.getfield 9, 3) := by decide +kernel
theorem d_OE_mostFrom_148 : decode b_OE_mostFrom 148 = .ok (.iload 7, 2) := by decide +kernel
theorem d_OE_mostFrom_150 : decode b_OE_mostFrom 150 = .ok (.iaload, 1) := by decide +kernel
theorem d_OE_mostFrom_151 : decode b_OE_mostFrom 151 = .ok (.iastore, 1) := by decide +kernel
theorem d_OE_mostFrom_152 : decode b_OE_mostFrom 152 = .ok (.iinc 8 1, 3) := by decide +kernel
theorem d_OE_mostFrom_155 : decode b_OE_mostFrom 155 = .ok (.goto (-79), 3) := by decide +kernel
theorem d_OE_mostFrom_158 : decode b_OE_mostFrom 158 = .ok (.iinc 7 (-1), 3) := by decide +kernel
theorem d_OE_mostFrom_161 : decode b_OE_mostFrom 161 = .ok (.goto (-98), 3) := by decide +kernel
theorem d_OE_mostFrom_164 : decode b_OE_mostFrom 164 = .ok (.iinc 5 1, 3) := by decide +kernel
theorem d_OE_mostFrom_167 : decode b_OE_mostFrom 167 = .ok (.goto (-131), 3) := by decide +kernel
theorem d_OE_mostFrom_170 : decode b_OE_mostFrom 170 = .ok (.aload_n 0, 1) := by decide +kernel
theorem d_OE_mostFrom_171 : decode b_OE_mostFrom 171 = .ok (.getfield 9, 3) := by decide +kernel
theorem d_OE_mostFrom_174 : decode b_OE_mostFrom 174 = .ok (.iload 4, 2) := by decide +kernel
theorem d_OE_mostFrom_176 : decode b_OE_mostFrom 176 = .ok (.iaload, 1) := by decide +kernel
theorem d_OE_mostFrom_177 : decode b_OE_mostFrom 177 = .ok (.ireturn, 1) := by decide +kernel
noncomputable def OE_mostFrom_L12 (S : St) (x2 : Int32) (x3 : Int32) (x4 : Int32) (x5 : Int32) : Option ((Int32 × St) × Nat) :=
  if x4 < x5 then
      some ((x5, S), 1)
    else
      chk (inb x5 32) <|
      some ((x5 + 1, up S 40 (ix x5) 0), 0)
noncomputable def OE_mostFrom_L76 (S : St) (x2 : Int32) (x3 : Int32) (x4 : Int32) (x5 : Int32) (x6 : Int32) (x7 : Int32) (x8 : Int32) : Option ((Int32 × St) × Nat) :=
  if 5 ≤ x8 then
      some ((x8, S), 1)
    else
      if (x7 &&& ((1 : Int32) <<< ((4 - x8) &&& 31))) = 0 then
        some ((x8 + 1, S), 0)
      else
        chk (inb (x7 - ((1 : Int32) <<< ((4 - x8) &&& 31))) 32) <|
        chk (inb x8 5) <|
        chk (inb x5 10) <|
        chk (inb x7 32) <|
        if ((S 40 (ix (x7 - ((1 : Int32) <<< ((4 - x8) &&& 31))))) + (S (5 + (ix x8)) (ix x5))) ≤ (S 40 (ix x7)) then
          chk (inb x7 32) <|
          chk (inb x7 32) <|
          some ((x8 + 1, up S 40 (ix x7) (S 40 (ix x7))), 0)
        else
          chk (inb x7 32) <|
          some ((x8 + 1, up S 40 (ix x7) ((S 40 (ix (x7 - ((1 : Int32) <<< ((4 - x8) &&& 31))))) + (S (5 + (ix x8)) (ix x5)))), 0)
noncomputable def OE_mostFrom_J158 (S : St) (x2 : Int32) (x3 : Int32) (x4 : Int32) (x5 : Int32) (x6 : Int32) (x7 : Int32) : Option ((Int32 × St) × Nat) :=
  some ((x7 + (-1), S), 0)
noncomputable def OE_mostFrom_L63 (S : St) (x2 : Int32) (x3 : Int32) (x4 : Int32) (x5 : Int32) (x6 : Int32) (x7 : Int32) : Option ((Int32 × St) × Nat) :=
  if x6 = 0 then
      some ((x7, S), 1)
    else
      if x7 ≤ 0 then
        some ((x7, S), 1)
      else
        bnd (lp (σ := Int32 × St) (fun q => OE_mostFrom_L76 q.2 x2 x3 x4 x5 x6 x7 q.1) FZ (x2, S)) fun z1 =>
        OE_mostFrom_J158 z1.1.2 x2 x3 x4 x5 x6 x7
noncomputable def OE_mostFrom_J164 (S : St) (x2 : Int32) (x3 : Int32) (x4 : Int32) (x5 : Int32) : Option ((Int32 × St) × Nat) :=
  some ((x5 + 1, S), 0)
noncomputable def OE_mostFrom_J57 (S : St) (x2 : Int32) (x3 : Int32) (x4 : Int32) (x5 : Int32) (t0 : Int32) : Option ((Int32 × St) × Nat) :=
  bnd (lp (σ := Int32 × St) (fun q => OE_mostFrom_L63 q.2 x2 x3 x4 x5 t0 q.1) FZ (x4, S)) fun z2 =>
    OE_mostFrom_J164 z2.1.2 x2 x3 x4 x5
noncomputable def OE_mostFrom_L36 (S : St) (x2 : Int32) (x3 : Int32) (x4 : Int32) (x5 : Int32) : Option ((Int32 × St) × Nat) :=
  if 10 ≤ x5 then
      some ((x5, S), 1)
    else
      if ((x3 >>> (x5 &&& 31)) &&& 1) = 0 then
        OE_mostFrom_J57 S x2 x3 x4 x5 1
      else
        OE_mostFrom_J57 S x2 x3 x4 x5 0
noncomputable def OE_mostFrom_J170 (S : St) (x4 : Int32) : Option (Int32 × St) :=
  chk (inb x4 32) <|
    some (S 40 (ix x4), S)
noncomputable def OE_mostFrom_J33 (S : St) (x2 : Int32) (x3 : Int32) (x4 : Int32) : Option (Int32 × St) :=
  bnd (lp (σ := Int32 × St) (fun q => OE_mostFrom_L36 q.2 x2 x3 x4 q.1) FZ (0, S)) fun z3 =>
    OE_mostFrom_J170 z3.1.2 x4
noncomputable def OE_mostFrom (S : St) (x2 : Int32) (x3 : Int32) : Option (Int32 × St) :=
  bnd (lp (σ := Int32 × St) (fun q => OE_mostFrom_L12 q.2 x2 x3 (((1 : Int32) <<< ((5 - x2) &&& 31)) - 1) q.1) FZ (0, S)) fun z4 =>
    OE_mostFrom_J33 z4.1.2 x2 x3 (((1 : Int32) <<< ((5 - x2) &&& 31)) - 1)
set_option maxHeartbeats 4000000 in
set_option maxRecDepth 100000 in
theorem L_OE_mostFrom_12 (C : gCx p s m args meth c y_OE_mostFrom.cls b_OE_mostFrom 11 (some .int)) : ∀ (x2 : Int32) (x3 : Int32) (x4 : Int32) (n : Nat) (x5 : Int32) (S : St) (r : (Int32 × St) × Nat), lp (σ := Int32 × St) (fun q => OE_mostFrom_L12 q.2 x2 x3 x4 q.1) n (x5, S) = some r → (∀ (y5 : Int32) (Sy : St), r = ((y5, Sy), 1) → ∀ (ls : Array Slot) (H : Heap) (locs : List Loc), GH w s A Sy H locs → lv_has ls 11 [(0, .ref (gad w 39)), (1, .ref (gad w 1)), (2, .int x2), (3, .int x3), (4, .int x4)] → W p l e (rmm 0 0) s m args below meth c H locs 0 0 Q (F0 m 33 ls [])) → ∀ (ls : Array Slot) (H : Heap) (locs : List Loc), GH w s A S H locs → lv_has ls 11 [(0, .ref (gad w 39)), (1, .ref (gad w 1)), (2, .int x2), (3, .int x3), (4, .int x4), (5, .int x5)] → W p l e (rmm 0 0) s m args below meth c H locs 0 0 Q (F0 m 12 ls []) := by
  have hx := C.1
  have hb := C.2.1
  intro x2 x3 x4 n
  induction n with
  | zero => intro x5 S r h; cases h
  | succ n ih =>
    intro x5 S r h k1 ls H locs hG hl
    obtain ⟨z, h, hr⟩ := lp_succ h
    have h : OE_mostFrom_L12 S x2 x3 x4 x5 = some z := h
    unfold OE_mostFrom_L12 at h
    refine lv_iload hx hb d_OE_mostFrom_12 (lv_at hl 5 rfl) ?_
    refine lv_iload hx hb d_OE_mostFrom_14 (lv_at hl 4 rfl) ?_
    refine lv_icmp_gt (tgt := 33) hx hb d_OE_mostFrom_16 (by decide) (fun hc => ?_) (fun hc => ?_)
    · replace h := it_t h hc
      exact k1 _ _ (lp_exit h hr) ls _ _ hG (lv_sub hl [0, 1, 2, 3, 4] rfl)
    · replace h := it_f h hc
      refine lv_aload_n hx hb d_OE_mostFrom_19 rfl (lv_at hl 0 rfl) ?_
      refine g_get C hG (hG.lt (Nat.le_of_ble_eq_true rfl)) (ce39 w _) rfl inC2 0 (Nat.le_of_ble_eq_true rfl) qw137 rfl d_OE_mostFrom_20 ?_
      refine lv_iload hx hb d_OE_mostFrom_23 (lv_at hl 5 rfl) ?_
      refine lv_iconst (v := 0) hx hb d_OE_mostFrom_25 (by decide) ?_
      obtain ⟨hi1, h⟩ := chk_some h
      refine g_iast (j := ix x5) (x := 0) C hG (hG.lt (Nat.le_of_ble_eq_true rfl)) (ce40 w) (inb_in hi1) rfl d_OE_mostFrom_26 (fun H locs hG => ?_)
      refine lv_iinc (v := x5 + 1) (lv' := [(5, .int (x5 + 1)), (0, .ref (gad w 39)), (1, .ref (gad w 1)), (2, .int x2), (3, .int x3), (4, .int x4)]) hx hb d_OE_mostFrom_27 hl (k := 5) rfl (congrArg (HAdd.hAdd x5) (by decide : Int32.ofInt 1 = 1)) (by decide) rfl (fun ls hl => ?_)
      refine lv_goto (tgt := 12) hx hb d_OE_mostFrom_30 (by decide) ?_
      exact ih _ _ _ (lp_back h hr) k1 ls _ _ hG (lv_sub hl [1, 2, 3, 4, 5, 0] rfl)
set_option maxHeartbeats 4000000 in
set_option maxRecDepth 100000 in
theorem L_OE_mostFrom_76 (C : gCx p s m args meth c y_OE_mostFrom.cls b_OE_mostFrom 11 (some .int)) : ∀ (x2 : Int32) (x3 : Int32) (x4 : Int32) (x5 : Int32) (x6 : Int32) (x7 : Int32) (n : Nat) (x8 : Int32) (S : St) (r : (Int32 × St) × Nat), lp (σ := Int32 × St) (fun q => OE_mostFrom_L76 q.2 x2 x3 x4 x5 x6 x7 q.1) n (x8, S) = some r → (∀ (y8 : Int32) (Sy : St), r = ((y8, Sy), 1) → ∀ (ls : Array Slot) (H : Heap) (locs : List Loc), GH w s A Sy H locs → lv_has ls 11 [(0, .ref (gad w 39)), (1, .ref (gad w 1)), (2, .int x2), (3, .int x3), (4, .int x4), (5, .int x5), (6, .int x6), (7, .int x7)] → W p l e (rmm 0 0) s m args below meth c H locs 0 0 Q (F0 m 158 ls [])) → ∀ (ls : Array Slot) (H : Heap) (locs : List Loc), GH w s A S H locs → lv_has ls 11 [(0, .ref (gad w 39)), (1, .ref (gad w 1)), (2, .int x2), (3, .int x3), (4, .int x4), (5, .int x5), (6, .int x6), (7, .int x7), (8, .int x8)] → W p l e (rmm 0 0) s m args below meth c H locs 0 0 Q (F0 m 76 ls []) := by
  have hx := C.1
  have hb := C.2.1
  intro x2 x3 x4 x5 x6 x7 n
  induction n with
  | zero => intro x8 S r h; cases h
  | succ n ih =>
    intro x8 S r h k1 ls H locs hG hl
    obtain ⟨z, h, hr⟩ := lp_succ h
    have h : OE_mostFrom_L76 S x2 x3 x4 x5 x6 x7 x8 = some z := h
    unfold OE_mostFrom_L76 at h
    refine lv_iload hx hb d_OE_mostFrom_76 (lv_at hl 8 rfl) ?_
    refine lv_iconst (v := 5) hx hb d_OE_mostFrom_78 (by decide) ?_
    refine lv_icmp_ge (tgt := 158) hx hb d_OE_mostFrom_79 (by decide) (fun hc => ?_) (fun hc => ?_)
    · replace h := it_t h hc
      exact k1 _ _ (lp_exit h hr) ls _ _ hG (lv_sub hl [0, 1, 2, 3, 4, 5, 6, 7] rfl)
    · replace h := it_f h hc
      refine lv_iconst (v := 1) hx hb d_OE_mostFrom_82 (by decide) ?_
      refine lv_iconst (v := 4) hx hb d_OE_mostFrom_83 (by decide) ?_
      refine lv_iload hx hb d_OE_mostFrom_84 (lv_at hl 8 rfl) ?_
      refine lv_isub hx hb d_OE_mostFrom_86 ?_
      refine lv_ishl hx hb d_OE_mostFrom_87 ?_
      refine lv_istore (lv' := [(9, .int ((1 : Int32) <<< ((4 - x8) &&& 31))), (0, .ref (gad w 39)), (1, .ref (gad w 1)), (2, .int x2), (3, .int x3), (4, .int x4), (5, .int x5), (6, .int x6), (7, .int x7), (8, .int x8)]) hx hb d_OE_mostFrom_88 hl (by decide) rfl (fun ls hl => ?_)
      refine lv_iload hx hb d_OE_mostFrom_90 (lv_at hl 8 rfl) ?_
      refine lv_iload hx hb d_OE_mostFrom_92 (lv_at hl 0 rfl) ?_
      refine lv_iand hx hb d_OE_mostFrom_94 ?_
      refine lv_if_eq (tgt := 152) hx hb d_OE_mostFrom_95 (by decide) (fun hc => ?_) (fun hc => ?_)
      · replace h := it_t h hc
        refine lv_iinc (v := x8 + 1) (lv' := [(8, .int (x8 + 1)), (9, .int ((1 : Int32) <<< ((4 - x8) &&& 31))), (0, .ref (gad w 39)), (1, .ref (gad w 1)), (2, .int x2), (3, .int x3), (4, .int x4), (5, .int x5), (6, .int x6), (7, .int x7)]) hx hb d_OE_mostFrom_152 hl (k := 9) rfl (congrArg (HAdd.hAdd x8) (by decide : Int32.ofInt 1 = 1)) (by decide) rfl (fun ls hl => ?_)
        refine lv_goto (tgt := 76) hx hb d_OE_mostFrom_155 (by decide) ?_
        exact ih _ _ _ (lp_back h hr) k1 ls _ _ hG (lv_sub hl [2, 3, 4, 5, 6, 7, 8, 9, 0] rfl)
      · replace h := it_f h hc
        refine lv_aload_n hx hb d_OE_mostFrom_98 rfl (lv_at hl 1 rfl) ?_
        refine g_get C hG (hG.lt (Nat.le_of_ble_eq_true rfl)) (ce39 w _) rfl inC2 0 (Nat.le_of_ble_eq_true rfl) qw137 rfl d_OE_mostFrom_99 ?_
        refine lv_iload hx hb d_OE_mostFrom_102 (lv_at hl 8 rfl) ?_
        refine lv_iload hx hb d_OE_mostFrom_104 (lv_at hl 0 rfl) ?_
        refine lv_isub hx hb d_OE_mostFrom_106 ?_
        obtain ⟨hi2, h⟩ := chk_some h
        refine g_iald (j := ix (x7 - ((1 : Int32) <<< ((4 - x8) &&& 31)))) C hG (hG.lt (Nat.le_of_ble_eq_true rfl)) (ce40 w _) (inb_in hi2) rfl d_OE_mostFrom_107 ?_
        refine lv_aload_n hx hb d_OE_mostFrom_108 rfl (lv_at hl 2 rfl) ?_
        refine g_get C hG (hG.lt (Nat.le_of_ble_eq_true rfl)) (ce1 w _) rfl inC6 2 (Nat.le_of_ble_eq_true rfl) qw36 rfl d_OE_mostFrom_109 ?_
        refine lv_iload hx hb d_OE_mostFrom_112 (lv_at hl 9 rfl) ?_
        obtain ⟨hi3, h⟩ := chk_some h
        refine g_ald2 (j := ix x8) C hG (hG.lt (Nat.le_of_ble_eq_true rfl)) (ce4 w _) (inb_in hi3) rfl d_OE_mostFrom_114 ?_
        have hr4 : ix x8 < 5 := row_lt (inb_in hi3)
        refine lv_iload hx hb d_OE_mostFrom_115 (lv_at hl 6 rfl) ?_
        obtain ⟨hi5, h⟩ := chk_some h
        refine g_iald (j := ix x5) C hG (hG.lt (by omega)) (cr4 w _ hr4) (inb_in hi5) rfl d_OE_mostFrom_117 ?_
        refine lv_iadd hx hb d_OE_mostFrom_118 ?_
        refine lv_istore (lv' := [(10, .int ((S 40 (ix (x7 - ((1 : Int32) <<< ((4 - x8) &&& 31))))) + (S (5 + (ix x8)) (ix x5)))), (9, .int ((1 : Int32) <<< ((4 - x8) &&& 31))), (0, .ref (gad w 39)), (1, .ref (gad w 1)), (2, .int x2), (3, .int x3), (4, .int x4), (5, .int x5), (6, .int x6), (7, .int x7), (8, .int x8)]) hx hb d_OE_mostFrom_119 hl (by decide) rfl (fun ls hl => ?_)
        refine lv_aload_n hx hb d_OE_mostFrom_121 rfl (lv_at hl 2 rfl) ?_
        refine g_get C hG (hG.lt (Nat.le_of_ble_eq_true rfl)) (ce39 w _) rfl inC2 0 (Nat.le_of_ble_eq_true rfl) qw137 rfl d_OE_mostFrom_122 ?_
        refine lv_iload hx hb d_OE_mostFrom_125 (lv_at hl 9 rfl) ?_
        refine lv_iload hx hb d_OE_mostFrom_127 (lv_at hl 0 rfl) ?_
        refine lv_aload_n hx hb d_OE_mostFrom_129 rfl (lv_at hl 2 rfl) ?_
        refine g_get C hG (hG.lt (Nat.le_of_ble_eq_true rfl)) (ce39 w _) rfl inC2 0 (Nat.le_of_ble_eq_true rfl) qw137 rfl d_OE_mostFrom_130 ?_
        refine lv_iload hx hb d_OE_mostFrom_133 (lv_at hl 9 rfl) ?_
        obtain ⟨hi6, h⟩ := chk_some h
        refine g_iald (j := ix x7) C hG (hG.lt (Nat.le_of_ble_eq_true rfl)) (ce40 w _) (inb_in hi6) rfl d_OE_mostFrom_135 ?_
        refine lv_icmp_le (tgt := 144) hx hb d_OE_mostFrom_136 (by decide) (fun hc => ?_) (fun hc => ?_)
        · replace h := it_t h hc
          refine lv_aload_n hx hb d_OE_mostFrom_144 rfl (lv_at hl 2 rfl) ?_
          refine g_get C hG (hG.lt (Nat.le_of_ble_eq_true rfl)) (ce39 w _) rfl inC2 0 (Nat.le_of_ble_eq_true rfl) qw137 rfl d_OE_mostFrom_145 ?_
          refine lv_iload hx hb d_OE_mostFrom_148 (lv_at hl 9 rfl) ?_
          obtain ⟨hi7, h⟩ := chk_some h
          refine g_iald (j := ix x7) C hG (hG.lt (Nat.le_of_ble_eq_true rfl)) (ce40 w _) (inb_in hi7) rfl d_OE_mostFrom_150 ?_
          obtain ⟨hi8, h⟩ := chk_some h
          refine g_iast (j := ix x7) (x := S 40 (ix x7)) C hG (hG.lt (Nat.le_of_ble_eq_true rfl)) (ce40 w) (inb_in hi8) rfl d_OE_mostFrom_151 (fun H locs hG => ?_)
          refine lv_iinc (v := x8 + 1) (lv' := [(8, .int (x8 + 1)), (10, .int ((S 40 (ix (x7 - ((1 : Int32) <<< ((4 - x8) &&& 31))))) + (S (5 + (ix x8)) (ix x5)))), (9, .int ((1 : Int32) <<< ((4 - x8) &&& 31))), (0, .ref (gad w 39)), (1, .ref (gad w 1)), (2, .int x2), (3, .int x3), (4, .int x4), (5, .int x5), (6, .int x6), (7, .int x7)]) hx hb d_OE_mostFrom_152 hl (k := 10) rfl (congrArg (HAdd.hAdd x8) (by decide : Int32.ofInt 1 = 1)) (by decide) rfl (fun ls hl => ?_)
          refine lv_goto (tgt := 76) hx hb d_OE_mostFrom_155 (by decide) ?_
          exact ih _ _ _ (lp_back h hr) k1 ls _ _ hG (lv_sub hl [3, 4, 5, 6, 7, 8, 9, 10, 0] rfl)
        · replace h := it_f h hc
          refine lv_iload hx hb d_OE_mostFrom_139 (lv_at hl 0 rfl) ?_
          refine lv_goto (tgt := 151) hx hb d_OE_mostFrom_141 (by decide) ?_
          obtain ⟨hi9, h⟩ := chk_some h
          refine g_iast (j := ix x7) (x := (S 40 (ix (x7 - ((1 : Int32) <<< ((4 - x8) &&& 31))))) + (S (5 + (ix x8)) (ix x5))) C hG (hG.lt (Nat.le_of_ble_eq_true rfl)) (ce40 w) (inb_in hi9) rfl d_OE_mostFrom_151 (fun H locs hG => ?_)
          refine lv_iinc (v := x8 + 1) (lv' := [(8, .int (x8 + 1)), (10, .int ((S 40 (ix (x7 - ((1 : Int32) <<< ((4 - x8) &&& 31))))) + (S (5 + (ix x8)) (ix x5)))), (9, .int ((1 : Int32) <<< ((4 - x8) &&& 31))), (0, .ref (gad w 39)), (1, .ref (gad w 1)), (2, .int x2), (3, .int x3), (4, .int x4), (5, .int x5), (6, .int x6), (7, .int x7)]) hx hb d_OE_mostFrom_152 hl (k := 10) rfl (congrArg (HAdd.hAdd x8) (by decide : Int32.ofInt 1 = 1)) (by decide) rfl (fun ls hl => ?_)
          refine lv_goto (tgt := 76) hx hb d_OE_mostFrom_155 (by decide) ?_
          exact ih _ _ _ (lp_back h hr) k1 ls _ _ hG (lv_sub hl [3, 4, 5, 6, 7, 8, 9, 10, 0] rfl)
set_option maxHeartbeats 4000000 in
set_option maxRecDepth 100000 in
theorem L_OE_mostFrom_63 (C : gCx p s m args meth c y_OE_mostFrom.cls b_OE_mostFrom 11 (some .int)) : ∀ (x2 : Int32) (x3 : Int32) (x4 : Int32) (x5 : Int32) (x6 : Int32) (n : Nat) (x7 : Int32) (S : St) (r : (Int32 × St) × Nat), lp (σ := Int32 × St) (fun q => OE_mostFrom_L63 q.2 x2 x3 x4 x5 x6 q.1) n (x7, S) = some r → (∀ (y7 : Int32) (Sy : St), r = ((y7, Sy), 1) → ∀ (ls : Array Slot) (H : Heap) (locs : List Loc), GH w s A Sy H locs → lv_has ls 11 [(0, .ref (gad w 39)), (1, .ref (gad w 1)), (2, .int x2), (3, .int x3), (4, .int x4), (5, .int x5)] → W p l e (rmm 0 0) s m args below meth c H locs 0 0 Q (F0 m 164 ls [])) → ∀ (ls : Array Slot) (H : Heap) (locs : List Loc), GH w s A S H locs → lv_has ls 11 [(0, .ref (gad w 39)), (1, .ref (gad w 1)), (2, .int x2), (3, .int x3), (4, .int x4), (5, .int x5), (6, .int x6), (7, .int x7)] → W p l e (rmm 0 0) s m args below meth c H locs 0 0 Q (F0 m 63 ls []) := by
  have hx := C.1
  have hb := C.2.1
  intro x2 x3 x4 x5 x6 n
  induction n with
  | zero => intro x7 S r h; cases h
  | succ n ih =>
    intro x7 S r h k1 ls H locs hG hl
    obtain ⟨z, h, hr⟩ := lp_succ h
    have h : OE_mostFrom_L63 S x2 x3 x4 x5 x6 x7 = some z := h
    have J158 : ∀ (S : St) (x7 : Int32), OE_mostFrom_J158 S x2 x3 x4 x5 x6 x7 = some z → ∀ (ls : Array Slot) (H : Heap) (locs : List Loc), GH w s A S H locs → lv_has ls 11 [(0, .ref (gad w 39)), (1, .ref (gad w 1)), (2, .int x2), (3, .int x3), (4, .int x4), (5, .int x5), (6, .int x6), (7, .int x7)] → W p l e (rmm 0 0) s m args below meth c H locs 0 0 Q (F0 m 158 ls []) := by
      intro S x7 h ls H locs hG hl
      unfold OE_mostFrom_J158 at h
      refine lv_iinc (v := x7 + (-1)) (lv' := [(7, .int (x7 + (-1))), (0, .ref (gad w 39)), (1, .ref (gad w 1)), (2, .int x2), (3, .int x3), (4, .int x4), (5, .int x5), (6, .int x6)]) hx hb d_OE_mostFrom_158 hl (k := 7) rfl (congrArg (HAdd.hAdd x7) (by decide : Int32.ofInt (-1) = (-1))) (by decide) rfl (fun ls hl => ?_)
      refine lv_goto (tgt := 63) hx hb d_OE_mostFrom_161 (by decide) ?_
      exact ih _ _ _ (lp_back h hr) k1 ls _ _ hG (lv_sub hl [1, 2, 3, 4, 5, 6, 7, 0] rfl)
    unfold OE_mostFrom_L63 at h
    refine lv_iload hx hb d_OE_mostFrom_63 (lv_at hl 6 rfl) ?_
    refine lv_if_eq (tgt := 164) hx hb d_OE_mostFrom_65 (by decide) (fun hc => ?_) (fun hc => ?_)
    · replace h := it_t h hc
      exact k1 _ _ (lp_exit h hr) ls _ _ hG (lv_sub hl [0, 1, 2, 3, 4, 5] rfl)
    · replace h := it_f h hc
      refine lv_iload hx hb d_OE_mostFrom_68 (lv_at hl 7 rfl) ?_
      refine lv_if_le (tgt := 164) hx hb d_OE_mostFrom_70 (by decide) (fun hc => ?_) (fun hc => ?_)
      · replace h := it_t h hc
        exact k1 _ _ (lp_exit h hr) ls _ _ hG (lv_sub hl [0, 1, 2, 3, 4, 5] rfl)
      · replace h := it_f h hc
        refine lv_iload_n hx hb d_OE_mostFrom_73 rfl (lv_at hl 2 rfl) ?_
        refine lv_istore (lv' := [(8, .int x2), (0, .ref (gad w 39)), (1, .ref (gad w 1)), (2, .int x2), (3, .int x3), (4, .int x4), (5, .int x5), (6, .int x6), (7, .int x7)]) hx hb d_OE_mostFrom_74 hl (by decide) rfl (fun ls hl => ?_)
        obtain ⟨z1, hz1, h⟩ := bnd_some h
        refine L_OE_mostFrom_76 C _ _ _ _ _ _ FZ _ _ _ hz1 ?_ ls _ _ hG (lv_sub hl [1, 2, 3, 4, 5, 6, 7, 8, 0] rfl)
        intro y8 Sy e9 ls H locs hG hl
        subst e9
        exact J158 _ _ h ls _ _ hG (lv_sub hl [0, 1, 2, 3, 4, 5, 6, 7] rfl)
set_option maxHeartbeats 4000000 in
set_option maxRecDepth 100000 in
theorem L_OE_mostFrom_36 (C : gCx p s m args meth c y_OE_mostFrom.cls b_OE_mostFrom 11 (some .int)) : ∀ (x2 : Int32) (x3 : Int32) (x4 : Int32) (n : Nat) (x5 : Int32) (S : St) (r : (Int32 × St) × Nat), lp (σ := Int32 × St) (fun q => OE_mostFrom_L36 q.2 x2 x3 x4 q.1) n (x5, S) = some r → (∀ (y5 : Int32) (Sy : St), r = ((y5, Sy), 1) → ∀ (ls : Array Slot) (H : Heap) (locs : List Loc), GH w s A Sy H locs → lv_has ls 11 [(0, .ref (gad w 39)), (4, .int x4)] → W p l e (rmm 0 0) s m args below meth c H locs 0 0 Q (F0 m 170 ls [])) → ∀ (ls : Array Slot) (H : Heap) (locs : List Loc), GH w s A S H locs → lv_has ls 11 [(0, .ref (gad w 39)), (1, .ref (gad w 1)), (2, .int x2), (3, .int x3), (4, .int x4), (5, .int x5)] → W p l e (rmm 0 0) s m args below meth c H locs 0 0 Q (F0 m 36 ls []) := by
  have hx := C.1
  have hb := C.2.1
  intro x2 x3 x4 n
  induction n with
  | zero => intro x5 S r h; cases h
  | succ n ih =>
    intro x5 S r h k1 ls H locs hG hl
    obtain ⟨z, h, hr⟩ := lp_succ h
    have h : OE_mostFrom_L36 S x2 x3 x4 x5 = some z := h
    have J164 : ∀ (S : St) (x5 : Int32), OE_mostFrom_J164 S x2 x3 x4 x5 = some z → ∀ (ls : Array Slot) (H : Heap) (locs : List Loc), GH w s A S H locs → lv_has ls 11 [(0, .ref (gad w 39)), (1, .ref (gad w 1)), (2, .int x2), (3, .int x3), (4, .int x4), (5, .int x5)] → W p l e (rmm 0 0) s m args below meth c H locs 0 0 Q (F0 m 164 ls []) := by
      intro S x5 h ls H locs hG hl
      unfold OE_mostFrom_J164 at h
      refine lv_iinc (v := x5 + 1) (lv' := [(5, .int (x5 + 1)), (0, .ref (gad w 39)), (1, .ref (gad w 1)), (2, .int x2), (3, .int x3), (4, .int x4)]) hx hb d_OE_mostFrom_164 hl (k := 5) rfl (congrArg (HAdd.hAdd x5) (by decide : Int32.ofInt 1 = 1)) (by decide) rfl (fun ls hl => ?_)
      refine lv_goto (tgt := 36) hx hb d_OE_mostFrom_167 (by decide) ?_
      exact ih _ _ _ (lp_back h hr) k1 ls _ _ hG (lv_sub hl [1, 2, 3, 4, 5, 0] rfl)
    have J57 : ∀ (S : St) (x5 : Int32) (t0 : Int32), OE_mostFrom_J57 S x2 x3 x4 x5 t0 = some z → ∀ (ls : Array Slot) (H : Heap) (locs : List Loc), GH w s A S H locs → lv_has ls 11 [(0, .ref (gad w 39)), (1, .ref (gad w 1)), (2, .int x2), (3, .int x3), (4, .int x4), (5, .int x5)] → W p l e (rmm 0 0) s m args below meth c H locs 0 0 Q (F0 m 57 ls [.int t0]) := by
      intro S x5 t0 h ls H locs hG hl
      unfold OE_mostFrom_J57 at h
      refine lv_istore (lv' := [(6, .int t0), (0, .ref (gad w 39)), (1, .ref (gad w 1)), (2, .int x2), (3, .int x3), (4, .int x4), (5, .int x5)]) hx hb d_OE_mostFrom_57 hl (by decide) rfl (fun ls hl => ?_)
      refine lv_iload hx hb d_OE_mostFrom_59 (lv_at hl 5 rfl) ?_
      refine lv_istore (lv' := [(7, .int x4), (6, .int t0), (0, .ref (gad w 39)), (1, .ref (gad w 1)), (2, .int x2), (3, .int x3), (4, .int x4), (5, .int x5)]) hx hb d_OE_mostFrom_61 hl (by decide) rfl (fun ls hl => ?_)
      obtain ⟨z2, hz2, h⟩ := bnd_some h
      refine L_OE_mostFrom_63 C _ _ _ _ _ FZ _ _ _ hz2 ?_ ls _ _ hG (lv_sub hl [2, 3, 4, 5, 6, 7, 1, 0] rfl)
      intro y7 Sy e9 ls H locs hG hl
      subst e9
      exact J164 _ _ h ls _ _ hG (lv_sub hl [0, 1, 2, 3, 4, 5] rfl)
    unfold OE_mostFrom_L36 at h
    refine lv_iload hx hb d_OE_mostFrom_36 (lv_at hl 5 rfl) ?_
    refine lv_bipush (v := 10) hx hb d_OE_mostFrom_38 (by decide) ?_
    refine lv_icmp_ge (tgt := 170) hx hb d_OE_mostFrom_40 (by decide) (fun hc => ?_) (fun hc => ?_)
    · replace h := it_t h hc
      exact k1 _ _ (lp_exit h hr) ls _ _ hG (lv_sub hl [0, 4] rfl)
    · replace h := it_f h hc
      refine lv_iload_n hx hb d_OE_mostFrom_43 rfl (lv_at hl 3 rfl) ?_
      refine lv_iload hx hb d_OE_mostFrom_44 (lv_at hl 5 rfl) ?_
      refine lv_ishr hx hb d_OE_mostFrom_46 ?_
      refine lv_iconst (v := 1) hx hb d_OE_mostFrom_47 (by decide) ?_
      refine lv_iand hx hb d_OE_mostFrom_48 ?_
      refine lv_if_ne (tgt := 56) hx hb d_OE_mostFrom_49 (by decide) (fun hc => ?_) (fun hc => ?_)
      · replace h := it_f h hc
        refine lv_iconst (v := 0) hx hb d_OE_mostFrom_56 (by decide) ?_
        exact J57 _ _ _ h ls _ _ hG (lv_sub hl [0, 1, 2, 3, 4, 5] rfl)
      · replace h := it_t h hc
        refine lv_iconst (v := 1) hx hb d_OE_mostFrom_52 (by decide) ?_
        refine lv_goto (tgt := 57) hx hb d_OE_mostFrom_53 (by decide) ?_
        exact J57 _ _ _ h ls _ _ hG (lv_sub hl [0, 1, 2, 3, 4, 5] rfl)
set_option maxHeartbeats 4000000 in
set_option maxRecDepth 100000 in
theorem c_OE_mostFrom (l : Launch) (w : gw) (S : St) (x2 : Int32) (x3 : Int32)  {z : Int32 × St} (h : (OE_mostFrom S x2 x3) = some z) : gMi l w y_OE_mostFrom b_OE_mostFrom 11 (some .int) (rmm 0 0) [.ref (gad w 39), .ref (gad w 1), .int x2, .int x3] S z.1 z.2 := by
  unfold OE_mostFrom at h
  refine g_met (Qc := gQi w z.1 z.2) (by decide +kernel) (Nat.le_of_ble_eq_true rfl) ?_
  intro p e s m args below meth c A Q ls hQ C hG hl
  have hx := C.1
  have hb := C.2.1
  have hl : lv_has ls 11 [(0, .ref (gad w 39)), (1, .ref (gad w 1)), (2, .int x2), (3, .int x3)] := hl
  have J170 : ∀ (S : St) (x4 : Int32), OE_mostFrom_J170 S x4 = some z → ∀ (ls : Array Slot) (H : Heap) (locs : List Loc), GH w s A S H locs → lv_has ls 11 [(0, .ref (gad w 39)), (4, .int x4)] → W p l e (rmm 0 0) s m args below meth c H locs 0 0 Q (F0 m 170 ls []) := by
    intro S x4 h ls H locs hG hl
    unfold OE_mostFrom_J170 at h
    refine lv_aload_n hx hb d_OE_mostFrom_170 rfl (lv_at hl 0 rfl) ?_
    refine g_get C hG (hG.lt (Nat.le_of_ble_eq_true rfl)) (ce39 w _) rfl inC2 0 (Nat.le_of_ble_eq_true rfl) qw137 rfl d_OE_mostFrom_171 ?_
    refine lv_iload hx hb d_OE_mostFrom_174 (lv_at hl 1 rfl) ?_
    obtain ⟨hi10, h⟩ := chk_some h
    refine g_iald (j := ix x4) C hG (hG.lt (Nat.le_of_ble_eq_true rfl)) (ce40 w _) (inb_in hi10) rfl d_OE_mostFrom_176 ?_
    exact g_iret C hG (sm_fst h) (sm_snd h) hQ d_OE_mostFrom_177
  have J33 : ∀ (S : St) (x4 : Int32), OE_mostFrom_J33 S x2 x3 x4 = some z → ∀ (ls : Array Slot) (H : Heap) (locs : List Loc), GH w s A S H locs → lv_has ls 11 [(0, .ref (gad w 39)), (1, .ref (gad w 1)), (2, .int x2), (3, .int x3), (4, .int x4)] → W p l e (rmm 0 0) s m args below meth c H locs 0 0 Q (F0 m 33 ls []) := by
    intro S x4 h ls H locs hG hl
    unfold OE_mostFrom_J33 at h
    refine lv_iconst (v := 0) hx hb d_OE_mostFrom_33 (by decide) ?_
    refine lv_istore (lv' := [(5, .int 0), (0, .ref (gad w 39)), (1, .ref (gad w 1)), (2, .int x2), (3, .int x3), (4, .int x4)]) hx hb d_OE_mostFrom_34 hl (by decide) rfl (fun ls hl => ?_)
    obtain ⟨z3, hz3, h⟩ := bnd_some h
    refine L_OE_mostFrom_36 C _ _ _ FZ _ _ _ hz3 ?_ ls _ _ hG (lv_sub hl [1, 2, 3, 4, 5, 0] rfl)
    intro y5 Sy e9 ls H locs hG hl
    subst e9
    exact J170 _ _ h ls _ _ hG (lv_sub hl [0, 1] rfl)
  refine lv_iconst (v := 1) hx hb d_OE_mostFrom_0 (by decide) ?_
  refine lv_iconst (v := 5) hx hb d_OE_mostFrom_1 (by decide) ?_
  refine lv_iload_n hx hb d_OE_mostFrom_2 rfl (lv_at hl 2 rfl) ?_
  refine lv_isub hx hb d_OE_mostFrom_3 ?_
  refine lv_ishl hx hb d_OE_mostFrom_4 ?_
  refine lv_iconst (v := 1) hx hb d_OE_mostFrom_5 (by decide) ?_
  refine lv_isub hx hb d_OE_mostFrom_6 ?_
  refine lv_istore (lv' := [(4, .int (((1 : Int32) <<< ((5 - x2) &&& 31)) - 1)), (0, .ref (gad w 39)), (1, .ref (gad w 1)), (2, .int x2), (3, .int x3)]) hx hb d_OE_mostFrom_7 hl (by decide) rfl (fun ls hl => ?_)
  refine lv_iconst (v := 0) hx hb d_OE_mostFrom_9 (by decide) ?_
  refine lv_istore (lv' := [(5, .int 0), (4, .int (((1 : Int32) <<< ((5 - x2) &&& 31)) - 1)), (0, .ref (gad w 39)), (1, .ref (gad w 1)), (2, .int x2), (3, .int x3)]) hx hb d_OE_mostFrom_10 hl (by decide) rfl (fun ls hl => ?_)
  obtain ⟨z4, hz4, h⟩ := bnd_some h
  refine L_OE_mostFrom_12 C _ _ _ FZ _ _ _ hz4 ?_ ls _ _ hG (lv_sub hl [2, 3, 4, 5, 1, 0] rfl)
  intro y5 Sy e9 ls H locs hG hl
  subst e9
  exact J33 _ _ h ls _ _ hG (lv_sub hl [0, 1, 2, 3, 4] rfl)
theorem d_OC_clear_0 : decode b_OC_clear 0 = .ok (.iconst 0, 1) := by decide +kernel
theorem d_OC_clear_1 : decode b_OC_clear 1 = .ok (.istore_n 1, 1) := by decide +kernel
theorem d_OC_clear_2 : decode b_OC_clear 2 = .ok (.iload_n 1, 1) := by decide +kernel
theorem d_OC_clear_3 : decode b_OC_clear 3 = .ok (.bipush 10, 2) := by decide +kernel
theorem d_OC_clear_5 : decode b_OC_clear 5 = .ok (.if_icmp .ge 30, 3) := by decide +kernel
theorem d_OC_clear_8 : decode b_OC_clear 8 = .ok (.aload_n 0, 1) := by decide +kernel
theorem d_OC_clear_9 : decode b_OC_clear 9 = .ok (.getfield 15, 3) := by decide +kernel
theorem d_OC_clear_12 : decode b_OC_clear 12 = .ok (.iload_n 1, 1) := by decide +kernel
theorem d_OC_clear_13 : decode b_OC_clear 13 = .ok (.iconst (-1), 1) := by decide +kernel
theorem d_OC_clear_14 : decode b_OC_clear 14 = .ok (.iastore, 1) := by decide +kernel
theorem d_OC_clear_15 : decode b_OC_clear 15 = .ok (.aload_n 0, 1) := by decide +kernel
theorem d_OC_clear_16 : decode b_OC_clear 16 = .ok (.getfield 19, 3) := by decide +kernel
theorem d_OC_clear_19 : decode b_OC_clear 19 = .ok (.iload_n 1, 1) := by decide +kernel
theorem d_OC_clear_20 : decode b_OC_clear 20 = .ok (.iconst 0, 1) := by decide +kernel
theorem d_OC_clear_21 : decode b_OC_clear 21 = .ok (.iastore, 1) := by decide +kernel
theorem d_OC_clear_22 : decode b_OC_clear 22 = .ok (.aload_n 0, 1) := by decide +kernel
theorem d_OC_clear_23 : decode b_OC_clear 23 = .ok (.getfield 22, 3) := by decide +kernel
theorem d_OC_clear_26 : decode b_OC_clear 26 = .ok (.iload_n 1, 1) := by decide +kernel
theorem d_OC_clear_27 : decode b_OC_clear 27 = .ok (.iconst 0, 1) := by decide +kernel
theorem d_OC_clear_28 : decode b_OC_clear 28 = .ok (.iastore, 1) := by decide +kernel
theorem d_OC_clear_29 : decode b_OC_clear 29 = .ok (.iinc 1 1, 3) := by decide +kernel
theorem d_OC_clear_32 : decode b_OC_clear 32 = .ok (.goto (-30), 3) := by decide +kernel
theorem d_OC_clear_35 : decode b_OC_clear 35 = .ok (.iconst 0, 1) := by decide +kernel
theorem d_OC_clear_36 : decode b_OC_clear 36 = .ok (.istore_n 1, 1) := by decide +kernel
theorem d_OC_clear_37 : decode b_OC_clear 37 = .ok (.iload_n 1, 1) := by decide +kernel
theorem d_OC_clear_38 : decode b_OC_clear 38 = .ok (.iconst 5, 1) := by decide +kernel
theorem d_OC_clear_39 : decode b_OC_clear 39 = .ok (.if_icmp .ge 16, 3) := by decide +kernel
theorem d_OC_clear_42 : decode b_OC_clear 42 = .ok (.aload_n 0, 1) := by decide +kernel
theorem d_OC_clear_43 : decode b_OC_clear 43 = .ok (.getfield 25, 3) := by decide +kernel
theorem d_OC_clear_46 : decode b_OC_clear 46 = .ok (.iload_n 1, 1) := by decide +kernel
theorem d_OC_clear_47 : decode b_OC_clear 47 = .ok (.iconst 0, 1) := by decide +kernel
theorem d_OC_clear_48 : decode b_OC_clear 48 = .ok (.iastore, 1) := by decide +kernel
theorem d_OC_clear_49 : decode b_OC_clear 49 = .ok (.iinc 1 1, 3) := by decide +kernel
theorem d_OC_clear_52 : decode b_OC_clear 52 = .ok (.goto (-15), 3) := by decide +kernel
theorem d_OC_clear_55 : decode b_OC_clear 55 = .ok (.aload_n 0, 1) := by decide +kernel
theorem d_OC_clear_56 : decode b_OC_clear 56 = .ok (.iconst 0, 1) := by decide +kernel
theorem d_OC_clear_57 : decode b_OC_clear 57 = .ok (.putfield 28, 3) := by decide +kernel
theorem d_OC_clear_60 : decode b_OC_clear 60 = .ok (.aload_n 0, 1) := by decide +kernel
theorem d_OC_clear_61 : decode b_OC_clear 61 = .ok (.iconst (-1), 1) := by decide +kernel
theorem d_OC_clear_62 : decode b_OC_clear 62 = .ok (.putfield 32, 3) := by decide +kernel
theorem d_OC_clear_65 : decode b_OC_clear 65 = .ok (.return_, 1) := by decide +kernel
noncomputable def OC_clear_L2 (S : St) (x1 : Int32) : Option ((Int32 × St) × Nat) :=
  if 10 ≤ x1 then
      some ((x1, S), 1)
    else
      chk (inb x1 10) <|
      chk (inb x1 10) <|
      chk (inb x1 10) <|
      some ((x1 + 1, up (up (up S 29 (ix x1) (-1)) 30 (ix x1) 0) 31 (ix x1) 0), 0)
noncomputable def OC_clear_L37 (S : St) (x1 : Int32) : Option ((Int32 × St) × Nat) :=
  if 5 ≤ x1 then
      some ((x1, S), 1)
    else
      chk (inb x1 5) <|
      some ((x1 + 1, up S 32 (ix x1) 0), 0)
noncomputable def OC_clear_J55 (S : St) : Option (St) :=
  some (up (up S 27 5 0) 27 6 (-1))
noncomputable def OC_clear_J35 (S : St) : Option (St) :=
  bnd (lp (σ := Int32 × St) (fun q => OC_clear_L37 q.2 q.1) FZ (0, S)) fun z1 =>
    OC_clear_J55 z1.1.2
noncomputable def OC_clear (S : St) : Option (St) :=
  bnd (lp (σ := Int32 × St) (fun q => OC_clear_L2 q.2 q.1) FZ (0, S)) fun z2 =>
    OC_clear_J35 z2.1.2
set_option maxHeartbeats 4000000 in
set_option maxRecDepth 100000 in
theorem L_OC_clear_2 (C : gCx p s m args meth c y_OC_clear.cls b_OC_clear 2 none) : ∀ (n : Nat) (x1 : Int32) (S : St) (r : (Int32 × St) × Nat), lp (σ := Int32 × St) (fun q => OC_clear_L2 q.2 q.1) n (x1, S) = some r → (∀ (y1 : Int32) (Sy : St), r = ((y1, Sy), 1) → ∀ (ls : Array Slot) (H : Heap) (locs : List Loc), GH w s A Sy H locs → lv_has ls 2 [(0, .ref (gad w 27))] → W p l e (rmm 0 0) s m args below meth c H locs 0 0 Q (F0 m 35 ls [])) → ∀ (ls : Array Slot) (H : Heap) (locs : List Loc), GH w s A S H locs → lv_has ls 2 [(0, .ref (gad w 27)), (1, .int x1)] → W p l e (rmm 0 0) s m args below meth c H locs 0 0 Q (F0 m 2 ls []) := by
  have hx := C.1
  have hb := C.2.1
  intro n
  induction n with
  | zero => intro x1 S r h; cases h
  | succ n ih =>
    intro x1 S r h k1 ls H locs hG hl
    obtain ⟨z, h, hr⟩ := lp_succ h
    have h : OC_clear_L2 S x1 = some z := h
    unfold OC_clear_L2 at h
    refine lv_iload_n hx hb d_OC_clear_2 rfl (lv_at hl 1 rfl) ?_
    refine lv_bipush (v := 10) hx hb d_OC_clear_3 (by decide) ?_
    refine lv_icmp_ge (tgt := 35) hx hb d_OC_clear_5 (by decide) (fun hc => ?_) (fun hc => ?_)
    · replace h := it_t h hc
      exact k1 _ _ (lp_exit h hr) ls _ _ hG (lv_sub hl [0] rfl)
    · replace h := it_f h hc
      refine lv_aload_n hx hb d_OC_clear_8 rfl (lv_at hl 0 rfl) ?_
      refine g_get C hG (hG.lt (Nat.le_of_ble_eq_true rfl)) (ce27 w _) rfl inC3 1 (Nat.le_of_ble_eq_true rfl) qw101 rfl d_OC_clear_9 ?_
      refine lv_iload_n hx hb d_OC_clear_12 rfl (lv_at hl 1 rfl) ?_
      refine lv_iconst (v := (-1)) hx hb d_OC_clear_13 (by decide) ?_
      obtain ⟨hi1, h⟩ := chk_some h
      refine g_iast (j := ix x1) (x := (-1)) C hG (hG.lt (Nat.le_of_ble_eq_true rfl)) (ce29 w) (inb_in hi1) rfl d_OC_clear_14 (fun H locs hG => ?_)
      refine lv_aload_n hx hb d_OC_clear_15 rfl (lv_at hl 0 rfl) ?_
      refine g_get C hG (hG.lt (Nat.le_of_ble_eq_true rfl)) (ce27 w _) rfl inC3 2 (Nat.le_of_ble_eq_true rfl) qw103 rfl d_OC_clear_16 ?_
      refine lv_iload_n hx hb d_OC_clear_19 rfl (lv_at hl 1 rfl) ?_
      refine lv_iconst (v := 0) hx hb d_OC_clear_20 (by decide) ?_
      obtain ⟨hi2, h⟩ := chk_some h
      refine g_iast (j := ix x1) (x := 0) C hG (hG.lt (Nat.le_of_ble_eq_true rfl)) (ce30 w) (inb_in hi2) rfl d_OC_clear_21 (fun H locs hG => ?_)
      refine lv_aload_n hx hb d_OC_clear_22 rfl (lv_at hl 0 rfl) ?_
      refine g_get C hG (hG.lt (Nat.le_of_ble_eq_true rfl)) (ce27 w _) rfl inC3 3 (Nat.le_of_ble_eq_true rfl) qw104 rfl d_OC_clear_23 ?_
      refine lv_iload_n hx hb d_OC_clear_26 rfl (lv_at hl 1 rfl) ?_
      refine lv_iconst (v := 0) hx hb d_OC_clear_27 (by decide) ?_
      obtain ⟨hi3, h⟩ := chk_some h
      refine g_iast (j := ix x1) (x := 0) C hG (hG.lt (Nat.le_of_ble_eq_true rfl)) (ce31 w) (inb_in hi3) rfl d_OC_clear_28 (fun H locs hG => ?_)
      refine lv_iinc (v := x1 + 1) (lv' := [(1, .int (x1 + 1)), (0, .ref (gad w 27))]) hx hb d_OC_clear_29 hl (k := 1) rfl (congrArg (HAdd.hAdd x1) (by decide : Int32.ofInt 1 = 1)) (by decide) rfl (fun ls hl => ?_)
      refine lv_goto (tgt := 2) hx hb d_OC_clear_32 (by decide) ?_
      exact ih _ _ _ (lp_back h hr) k1 ls _ _ hG (lv_sub hl [1, 0] rfl)
set_option maxHeartbeats 4000000 in
set_option maxRecDepth 100000 in
theorem L_OC_clear_37 (C : gCx p s m args meth c y_OC_clear.cls b_OC_clear 2 none) : ∀ (n : Nat) (x1 : Int32) (S : St) (r : (Int32 × St) × Nat), lp (σ := Int32 × St) (fun q => OC_clear_L37 q.2 q.1) n (x1, S) = some r → (∀ (y1 : Int32) (Sy : St), r = ((y1, Sy), 1) → ∀ (ls : Array Slot) (H : Heap) (locs : List Loc), GH w s A Sy H locs → lv_has ls 2 [(0, .ref (gad w 27))] → W p l e (rmm 0 0) s m args below meth c H locs 0 0 Q (F0 m 55 ls [])) → ∀ (ls : Array Slot) (H : Heap) (locs : List Loc), GH w s A S H locs → lv_has ls 2 [(0, .ref (gad w 27)), (1, .int x1)] → W p l e (rmm 0 0) s m args below meth c H locs 0 0 Q (F0 m 37 ls []) := by
  have hx := C.1
  have hb := C.2.1
  intro n
  induction n with
  | zero => intro x1 S r h; cases h
  | succ n ih =>
    intro x1 S r h k1 ls H locs hG hl
    obtain ⟨z, h, hr⟩ := lp_succ h
    have h : OC_clear_L37 S x1 = some z := h
    unfold OC_clear_L37 at h
    refine lv_iload_n hx hb d_OC_clear_37 rfl (lv_at hl 1 rfl) ?_
    refine lv_iconst (v := 5) hx hb d_OC_clear_38 (by decide) ?_
    refine lv_icmp_ge (tgt := 55) hx hb d_OC_clear_39 (by decide) (fun hc => ?_) (fun hc => ?_)
    · replace h := it_t h hc
      exact k1 _ _ (lp_exit h hr) ls _ _ hG (lv_sub hl [0] rfl)
    · replace h := it_f h hc
      refine lv_aload_n hx hb d_OC_clear_42 rfl (lv_at hl 0 rfl) ?_
      refine g_get C hG (hG.lt (Nat.le_of_ble_eq_true rfl)) (ce27 w _) rfl inC3 4 (Nat.le_of_ble_eq_true rfl) qw105 rfl d_OC_clear_43 ?_
      refine lv_iload_n hx hb d_OC_clear_46 rfl (lv_at hl 1 rfl) ?_
      refine lv_iconst (v := 0) hx hb d_OC_clear_47 (by decide) ?_
      obtain ⟨hi4, h⟩ := chk_some h
      refine g_iast (j := ix x1) (x := 0) C hG (hG.lt (Nat.le_of_ble_eq_true rfl)) (ce32 w) (inb_in hi4) rfl d_OC_clear_48 (fun H locs hG => ?_)
      refine lv_iinc (v := x1 + 1) (lv' := [(1, .int (x1 + 1)), (0, .ref (gad w 27))]) hx hb d_OC_clear_49 hl (k := 1) rfl (congrArg (HAdd.hAdd x1) (by decide : Int32.ofInt 1 = 1)) (by decide) rfl (fun ls hl => ?_)
      refine lv_goto (tgt := 37) hx hb d_OC_clear_52 (by decide) ?_
      exact ih _ _ _ (lp_back h hr) k1 ls _ _ hG (lv_sub hl [1, 0] rfl)
set_option maxHeartbeats 4000000 in
set_option maxRecDepth 100000 in
theorem c_OC_clear (l : Launch) (w : gw) (S : St)   {z : St} (h : (OC_clear S) = some z) : gMv l w y_OC_clear b_OC_clear 2 none (rmm 0 0) [.ref (gad w 27)] S z := by
  unfold OC_clear at h
  refine g_met (Qc := gQv w z) (by decide +kernel) (Nat.le_of_ble_eq_true rfl) ?_
  intro p e s m args below meth c A Q ls hQ C hG hl
  have hx := C.1
  have hb := C.2.1
  have hl : lv_has ls 2 [(0, .ref (gad w 27))] := hl
  have J55 : ∀ (S : St), OC_clear_J55 S = some z → ∀ (ls : Array Slot) (H : Heap) (locs : List Loc), GH w s A S H locs → lv_has ls 2 [(0, .ref (gad w 27))] → W p l e (rmm 0 0) s m args below meth c H locs 0 0 Q (F0 m 55 ls []) := by
    intro S h ls H locs hG hl
    unfold OC_clear_J55 at h
    refine lv_aload_n hx hb d_OC_clear_55 rfl (lv_at hl 0 rfl) ?_
    refine lv_iconst (v := 0) hx hb d_OC_clear_56 (by decide) ?_
    refine g_put (x := 0) C hG (hG.lt (Nat.le_of_ble_eq_true rfl)) (ce27 w _) rfl inC3 okC3 nmC3 5 (Nat.le_of_ble_eq_true rfl) qw107 rfl rfl rfl (Nat.le_of_ble_eq_true rfl) rfl d_OC_clear_57 (fun H locs hG => ?_)
    refine lv_aload_n hx hb d_OC_clear_60 rfl (lv_at hl 0 rfl) ?_
    refine lv_iconst (v := (-1)) hx hb d_OC_clear_61 (by decide) ?_
    refine g_put (x := (-1)) C hG (hG.lt (Nat.le_of_ble_eq_true rfl)) (ce27 w _) rfl inC3 okC3 nmC3 6 (Nat.le_of_ble_eq_true rfl) qw109 rfl rfl rfl (Nat.le_of_ble_eq_true rfl) rfl d_OC_clear_62 (fun H locs hG => ?_)
    exact g_vret C hG (Option.some.inj h) hQ d_OC_clear_65
  have J35 : ∀ (S : St), OC_clear_J35 S = some z → ∀ (ls : Array Slot) (H : Heap) (locs : List Loc), GH w s A S H locs → lv_has ls 2 [(0, .ref (gad w 27))] → W p l e (rmm 0 0) s m args below meth c H locs 0 0 Q (F0 m 35 ls []) := by
    intro S h ls H locs hG hl
    unfold OC_clear_J35 at h
    refine lv_iconst (v := 0) hx hb d_OC_clear_35 (by decide) ?_
    refine lv_istore_n (lv' := [(1, .int 0), (0, .ref (gad w 27))]) hx hb d_OC_clear_36 rfl hl (by decide) rfl (fun ls hl => ?_)
    obtain ⟨z1, hz1, h⟩ := bnd_some h
    refine L_OC_clear_37 C FZ _ _ _ hz1 ?_ ls _ _ hG (lv_sub hl [1, 0] rfl)
    intro y1 Sy e9 ls H locs hG hl
    subst e9
    exact J55 _ h ls _ _ hG (lv_sub hl [0] rfl)
  refine lv_iconst (v := 0) hx hb d_OC_clear_0 (by decide) ?_
  refine lv_istore_n (lv' := [(1, .int 0), (0, .ref (gad w 27))]) hx hb d_OC_clear_1 rfl hl (by decide) rfl (fun ls hl => ?_)
  obtain ⟨z2, hz2, h⟩ := bnd_some h
  refine L_OC_clear_2 C FZ _ _ _ hz2 ?_ ls _ _ hG (lv_sub hl [1, 0] rfl)
  intro y1 Sy e9 ls H locs hG hl
  subst e9
  exact J35 _ h ls _ _ hG (lv_sub hl [0] rfl)
theorem d_OC_holdsNow_0 : decode b_OC_holdsNow 0 = .ok (.aload_n 2, 1) := by decide +kernel
theorem d_OC_holdsNow_1 : decode b_OC_holdsNow 1 = .ok (.iload_n 3, 1) := by decide +kernel
theorem d_OC_holdsNow_2 : decode b_OC_holdsNow 2 = .ok (.invokevirtual 50, 3) := by decide +kernel
theorem d_OC_holdsNow_5 : decode b_OC_holdsNow 5 = .ok (.istore 4, 2) := by decide +kernel
theorem d_OC_holdsNow_7 : decode b_OC_holdsNow 7 = .ok (.aload_n 2, 1) := by decide +kernel
theorem d_OC_holdsNow_8 : decode b_OC_holdsNow 8 = .ok (.iload_n 3, 1) := by decide +kernel
theorem d_OC_holdsNow_9 : decode b_OC_holdsNow 9 = .ok (.invokevirtual 54, 3) := by decide +kernel
theorem d_OC_holdsNow_12 : decode b_OC_holdsNow 12 = .ok (.istore 5, 2) := by decide +kernel
theorem d_OC_holdsNow_14 : decode b_OC_holdsNow 14 = .ok (.aload_n 2, 1) := by decide +kernel
theorem d_OC_holdsNow_15 : decode b_OC_holdsNow 15 = .ok (.iload_n 3, 1) := by decide +kernel
theorem d_OC_holdsNow_16 : decode b_OC_holdsNow 16 = .ok (.invokevirtual 57, 3) := by decide +kernel
theorem d_OC_holdsNow_19 : decode b_OC_holdsNow 19 = .ok (.istore 6, 2) := by decide +kernel
theorem d_OC_holdsNow_21 : decode b_OC_holdsNow 21 = .ok (.iload 6, 2) := by decide +kernel
theorem d_OC_holdsNow_23 : decode b_OC_holdsNow 23 = .ok (.aload_n 1, 1) := by decide +kernel
theorem d_OC_holdsNow_24 : decode b_OC_holdsNow 24 = .ok (.getfield 64, 3) := by decide +kernel
theorem d_OC_holdsNow_27 : decode b_OC_holdsNow 27 = .ok (.iload 4, 2) := by decide +kernel
theorem d_OC_holdsNow_29 : decode b_OC_holdsNow 29 = .ok (.iaload, 1) := by decide +kernel
theorem d_OC_holdsNow_30 : decode b_OC_holdsNow 30 = .ok (.if_icmp .lt 15, 3) := by decide +kernel
theorem d_OC_holdsNow_33 : decode b_OC_holdsNow 33 = .ok (.aload_n 0, 1) := by decide +kernel
theorem d_OC_holdsNow_34 : decode b_OC_holdsNow 34 = .ok (.getfield 15, 3) := by decide +kernel
theorem d_OC_holdsNow_37 : decode b_OC_holdsNow 37 = .ok (.iload 4, 2) := by decide +kernel
theorem d_OC_holdsNow_39 : decode b_OC_holdsNow 39 = .ok (.iaload, 1) := by decide +kernel
theorem d_OC_holdsNow_40 : decode b_OC_holdsNow 40 = .ok (.iload 5, 2) := by decide +kernel
theorem d_OC_holdsNow_42 : decode b_OC_holdsNow 42 = .ok (.if_icmp .ne 5, 3) := by decide +kernel
theorem d_OC_holdsNow_45 : decode b_OC_holdsNow 45 = .ok (.iconst 0, 1) := by decide +kernel
theorem d_OC_holdsNow_46 : decode b_OC_holdsNow 46 = .ok (.ireturn, 1) := by decide +kernel
theorem d_OC_holdsNow_47 : decode b_OC_holdsNow 47 = .ok (.aload_n 0, 1) := by decide +kernel
theorem d_OC_holdsNow_48 : decode b_OC_holdsNow 48 = .ok (.getfield 15, 3) := by decide +kernel
theorem d_OC_holdsNow_51 : decode b_OC_holdsNow 51 = .ok (.iload 4, 2) := by decide +kernel
theorem d_OC_holdsNow_53 : decode b_OC_holdsNow 53 = .ok (.iaload, 1) := by decide +kernel
theorem d_OC_holdsNow_54 : decode b_OC_holdsNow 54 = .ok (.iconst (-1), 1) := by decide +kernel
theorem d_OC_holdsNow_55 : decode b_OC_holdsNow 55 = .ok (.if_icmp .eq 24, 3) := by decide +kernel
theorem d_OC_holdsNow_58 : decode b_OC_holdsNow 58 = .ok (.iload 6, 2) := by decide +kernel
theorem d_OC_holdsNow_60 : decode b_OC_holdsNow 60 = .ok (.aload_n 0, 1) := by decide +kernel
theorem d_OC_holdsNow_61 : decode b_OC_holdsNow 61 = .ok (.getfield 19, 3) := by decide +kernel
theorem d_OC_holdsNow_64 : decode b_OC_holdsNow 64 = .ok (.iload 4, 2) := by decide +kernel
theorem d_OC_holdsNow_66 : decode b_OC_holdsNow 66 = .ok (.iaload, 1) := by decide +kernel
theorem d_OC_holdsNow_67 : decode b_OC_holdsNow 67 = .ok (.aload_n 1, 1) := by decide +kernel
theorem d_OC_holdsNow_68 : decode b_OC_holdsNow 68 = .ok (.getfield 69, 3) := by decide +kernel
theorem d_OC_holdsNow_71 : decode b_OC_holdsNow 71 = .ok (.iconst 0, 1) := by decide +kernel
theorem d_OC_holdsNow_72 : decode b_OC_holdsNow 72 = .ok (.iaload, 1) := by decide +kernel
theorem d_OC_holdsNow_73 : decode b_OC_holdsNow 73 = .ok (.iadd, 1) := by decide +kernel
theorem d_OC_holdsNow_74 : decode b_OC_holdsNow 74 = .ok (.if_icmp .ge 5, 3) := by decide +kernel
theorem d_OC_holdsNow_77 : decode b_OC_holdsNow 77 = .ok (.iconst 0, 1) := by decide +kernel
theorem d_OC_holdsNow_78 : decode b_OC_holdsNow 78 = .ok (.ireturn, 1) := by decide +kernel
theorem d_OC_holdsNow_79 : decode b_OC_holdsNow 79 = .ok (.aload_n 0, 1) := by decide +kernel
theorem d_OC_holdsNow_80 : decode b_OC_holdsNow 80 = .ok (.getfield 25, 3) := by decide +kernel
theorem d_OC_holdsNow_83 : decode b_OC_holdsNow 83 = .ok (.iload 5, 2) := by decide +kernel
theorem d_OC_holdsNow_85 : decode b_OC_holdsNow 85 = .ok (.iaload, 1) := by decide +kernel
theorem d_OC_holdsNow_86 : decode b_OC_holdsNow 86 = .ok (.iload 6, 2) := by decide +kernel
theorem d_OC_holdsNow_88 : decode b_OC_holdsNow 88 = .ok (.iadd, 1) := by decide +kernel
theorem d_OC_holdsNow_89 : decode b_OC_holdsNow 89 = .ok (.aload_n 1, 1) := by decide +kernel
theorem d_OC_holdsNow_90 : decode b_OC_holdsNow 90 = .ok (.getfield 72, 3) := by decide +kernel
theorem d_OC_holdsNow_93 : decode b_OC_holdsNow 93 = .ok (.iload 5, 2) := by decide +kernel
theorem d_OC_holdsNow_95 : decode b_OC_holdsNow 95 = .ok (.iaload, 1) := by decide +kernel
theorem d_OC_holdsNow_96 : decode b_OC_holdsNow 96 = .ok (.if_icmp .gt 7, 3) := by decide +kernel
theorem d_OC_holdsNow_99 : decode b_OC_holdsNow 99 = .ok (.iconst 1, 1) := by decide +kernel
theorem d_OC_holdsNow_100 : decode b_OC_holdsNow 100 = .ok (.goto 4, 3) := by decide +kernel
theorem d_OC_holdsNow_103 : decode b_OC_holdsNow 103 = .ok (.iconst 0, 1) := by decide +kernel
theorem d_OC_holdsNow_104 : decode b_OC_holdsNow 104 = .ok (.ireturn, 1) := by decide +kernel
noncomputable def OC_holdsNow_J79 (S : St) (x5 : Int32) (x6 : Int32) : Option (Int32) :=
  chk (inb x5 5) <|
    chk (inb x5 5) <|
    if (S 2 (ix x5)) < ((S 32 (ix x5)) + x6) then
      some 0
    else
      some 1
noncomputable def OC_holdsNow (S : St) (x3 : Int32) : Option (Int32) :=
  bnd (BT_eveningOf S x3) fun z1 =>
    bnd (BT_bidderOf S x3) fun z2 =>
    bnd (BT_amountOf S x3) fun z3 =>
    chk (inb z1 10) <|
    if z3 < (S 22 (ix z1)) then
      some 0
    else
      chk (inb z1 10) <|
      if (S 29 (ix z1)) = z2 then
        some 0
      else
        chk (inb z1 10) <|
        if (S 29 (ix z1)) = (-1) then
          OC_holdsNow_J79 S z2 z3
        else
          chk (inb z1 10) <|
          if ((S 30 (ix z1)) + (S 24 0)) ≤ z3 then
            OC_holdsNow_J79 S z2 z3
          else
            some 0
set_option maxHeartbeats 4000000 in
set_option maxRecDepth 100000 in
theorem c_OC_holdsNow (l : Launch) (w : gw) (S : St) (x3 : Int32)  {z : Int32} (h : (OC_holdsNow S x3) = some z) : gMi l w y_OC_holdsNow b_OC_holdsNow 7 (some .boolean) (rmm 1 21) [.ref (gad w 27), .ref (gad w 1), .ref (gad w 25), .int x3] S z S := by
  unfold OC_holdsNow at h
  refine g_met (Qc := gQi w z S) (by decide +kernel) (Nat.le_of_ble_eq_true rfl) ?_
  intro p e s m args below meth c A Q ls hQ C hG hl
  have hx := C.1
  have hb := C.2.1
  have hl : lv_has ls 7 [(0, .ref (gad w 27)), (1, .ref (gad w 1)), (2, .ref (gad w 25)), (3, .int x3)] := hl
  have J79 : ∀ (x5 : Int32) (x6 : Int32), OC_holdsNow_J79 S x5 x6 = some z → ∀ (ls : Array Slot) (H : Heap) (locs : List Loc), GH w s A S H locs → lv_has ls 7 [(0, .ref (gad w 27)), (1, .ref (gad w 1)), (5, .int x5), (6, .int x6)] → W p l e (rmm 1 21) s m args below meth c H locs 0 0 Q (F0 m 79 ls []) := by
    intro x5 x6 h ls H locs hG hl
    unfold OC_holdsNow_J79 at h
    refine lv_aload_n hx hb d_OC_holdsNow_79 rfl (lv_at hl 0 rfl) ?_
    refine g_get C hG (hG.lt (Nat.le_of_ble_eq_true rfl)) (ce27 w _) rfl inC3 4 (Nat.le_of_ble_eq_true rfl) qw105 rfl d_OC_holdsNow_80 ?_
    refine lv_iload hx hb d_OC_holdsNow_83 (lv_at hl 2 rfl) ?_
    obtain ⟨hi1, h⟩ := chk_some h
    refine g_iald (j := ix x5) C hG (hG.lt (Nat.le_of_ble_eq_true rfl)) (ce32 w _) (inb_in hi1) rfl d_OC_holdsNow_85 ?_
    refine lv_iload hx hb d_OC_holdsNow_86 (lv_at hl 3 rfl) ?_
    refine lv_iadd hx hb d_OC_holdsNow_88 ?_
    refine lv_aload_n hx hb d_OC_holdsNow_89 rfl (lv_at hl 1 rfl) ?_
    refine g_get C hG (hG.lt (Nat.le_of_ble_eq_true rfl)) (ce1 w _) rfl inC6 0 (Nat.le_of_ble_eq_true rfl) qw30 rfl d_OC_holdsNow_90 ?_
    refine lv_iload hx hb d_OC_holdsNow_93 (lv_at hl 2 rfl) ?_
    obtain ⟨hi2, h⟩ := chk_some h
    refine g_iald (j := ix x5) C hG (hG.lt (Nat.le_of_ble_eq_true rfl)) (ce2 w _) (inb_in hi2) rfl d_OC_holdsNow_95 ?_
    refine lv_icmp_gt (tgt := 103) hx hb d_OC_holdsNow_96 (by decide) (fun hc => ?_) (fun hc => ?_)
    · replace h := it_t h hc
      refine lv_iconst (v := 0) hx hb d_OC_holdsNow_103 (by decide) ?_
      exact g_zret C hG (Or.inl rfl) (Option.some.inj h) rfl hQ d_OC_holdsNow_104
    · replace h := it_f h hc
      refine lv_iconst (v := 1) hx hb d_OC_holdsNow_99 (by decide) ?_
      refine lv_goto (tgt := 104) hx hb d_OC_holdsNow_100 (by decide) ?_
      exact g_zret C hG (Or.inr rfl) (Option.some.inj h) rfl hQ d_OC_holdsNow_104
  refine lv_aload_n hx hb d_OC_holdsNow_0 rfl (lv_at hl 2 rfl) ?_
  refine lv_iload_n hx hb d_OC_holdsNow_1 rfl (lv_at hl 3 rfl) ?_
  obtain ⟨z1, hz1, h⟩ := bnd_some h
  refine g_goi hG (g_runV (As := [.int x3]) (rest := []) C hG (c_BT_eveningOf l w S x3 hz1 _) (hG.lt (Nat.le_of_ble_eq_true rfl)) (ce25 w _) rfl vw_OC_50 rfl rfl ⟨by decide, by decide⟩ rfl hl.1 rfl (Nat.le_of_ble_eq_true rfl) d_OC_holdsNow_2 ⟨Nat.zero_le _, Nat.zero_le _⟩) (fun H locs hG => ?_)
  refine lv_istore (lv' := [(4, .int z1), (0, .ref (gad w 27)), (1, .ref (gad w 1)), (2, .ref (gad w 25)), (3, .int x3)]) hx hb d_OC_holdsNow_5 hl (by decide) rfl (fun ls hl => ?_)
  refine lv_aload_n hx hb d_OC_holdsNow_7 rfl (lv_at hl 3 rfl) ?_
  refine lv_iload_n hx hb d_OC_holdsNow_8 rfl (lv_at hl 4 rfl) ?_
  obtain ⟨z2, hz2, h⟩ := bnd_some h
  refine g_goi hG (g_runV (As := [.int x3]) (rest := []) C hG (c_BT_bidderOf l w S x3 hz2 _) (hG.lt (Nat.le_of_ble_eq_true rfl)) (ce25 w _) rfl vw_OC_54 rfl rfl ⟨by decide, by decide⟩ rfl hl.1 rfl (Nat.le_of_ble_eq_true rfl) d_OC_holdsNow_9 ⟨Nat.zero_le _, Nat.zero_le _⟩) (fun H locs hG => ?_)
  refine lv_istore (lv' := [(5, .int z2), (4, .int z1), (0, .ref (gad w 27)), (1, .ref (gad w 1)), (2, .ref (gad w 25)), (3, .int x3)]) hx hb d_OC_holdsNow_12 hl (by decide) rfl (fun ls hl => ?_)
  refine lv_aload_n hx hb d_OC_holdsNow_14 rfl (lv_at hl 4 rfl) ?_
  refine lv_iload_n hx hb d_OC_holdsNow_15 rfl (lv_at hl 5 rfl) ?_
  obtain ⟨z3, hz3, h⟩ := bnd_some h
  refine g_goi hG (g_runV (As := [.int x3]) (rest := []) C hG (c_BT_amountOf l w S x3 hz3 _) (hG.lt (Nat.le_of_ble_eq_true rfl)) (ce25 w _) rfl vw_OC_57 rfl rfl ⟨by decide, by decide⟩ rfl hl.1 rfl (Nat.le_of_ble_eq_true rfl) d_OC_holdsNow_16 ⟨Nat.zero_le _, Nat.zero_le _⟩) (fun H locs hG => ?_)
  refine lv_istore (lv' := [(6, .int z3), (5, .int z2), (4, .int z1), (0, .ref (gad w 27)), (1, .ref (gad w 1)), (2, .ref (gad w 25)), (3, .int x3)]) hx hb d_OC_holdsNow_19 hl (by decide) rfl (fun ls hl => ?_)
  refine lv_iload hx hb d_OC_holdsNow_21 (lv_at hl 0 rfl) ?_
  refine lv_aload_n hx hb d_OC_holdsNow_23 rfl (lv_at hl 4 rfl) ?_
  refine g_get C hG (hG.lt (Nat.le_of_ble_eq_true rfl)) (ce1 w _) rfl inC6 5 (Nat.le_of_ble_eq_true rfl) qw44 rfl d_OC_holdsNow_24 ?_
  refine lv_iload hx hb d_OC_holdsNow_27 (lv_at hl 2 rfl) ?_
  obtain ⟨hi3, h⟩ := chk_some h
  refine g_iald (j := ix z1) C hG (hG.lt (Nat.le_of_ble_eq_true rfl)) (ce22 w _) (inb_in hi3) rfl d_OC_holdsNow_29 ?_
  refine lv_icmp_lt (tgt := 45) hx hb d_OC_holdsNow_30 (by decide) (fun hc => ?_) (fun hc => ?_)
  · replace h := it_t h hc
    refine lv_iconst (v := 0) hx hb d_OC_holdsNow_45 (by decide) ?_
    exact g_zret C hG (Or.inl rfl) (Option.some.inj h) rfl hQ d_OC_holdsNow_46
  · replace h := it_f h hc
    refine lv_aload_n hx hb d_OC_holdsNow_33 rfl (lv_at hl 3 rfl) ?_
    refine g_get C hG (hG.lt (Nat.le_of_ble_eq_true rfl)) (ce27 w _) rfl inC3 1 (Nat.le_of_ble_eq_true rfl) qw101 rfl d_OC_holdsNow_34 ?_
    refine lv_iload hx hb d_OC_holdsNow_37 (lv_at hl 2 rfl) ?_
    obtain ⟨hi4, h⟩ := chk_some h
    refine g_iald (j := ix z1) C hG (hG.lt (Nat.le_of_ble_eq_true rfl)) (ce29 w _) (inb_in hi4) rfl d_OC_holdsNow_39 ?_
    refine lv_iload hx hb d_OC_holdsNow_40 (lv_at hl 1 rfl) ?_
    refine lv_icmp_ne (tgt := 47) hx hb d_OC_holdsNow_42 (by decide) (fun hc => ?_) (fun hc => ?_)
    · replace h := it_f h hc
      refine lv_aload_n hx hb d_OC_holdsNow_47 rfl (lv_at hl 3 rfl) ?_
      refine g_get C hG (hG.lt (Nat.le_of_ble_eq_true rfl)) (ce27 w _) rfl inC3 1 (Nat.le_of_ble_eq_true rfl) qw101 rfl d_OC_holdsNow_48 ?_
      refine lv_iload hx hb d_OC_holdsNow_51 (lv_at hl 2 rfl) ?_
      obtain ⟨hi5, h⟩ := chk_some h
      refine g_iald (j := ix z1) C hG (hG.lt (Nat.le_of_ble_eq_true rfl)) (ce29 w _) (inb_in hi5) rfl d_OC_holdsNow_53 ?_
      refine lv_iconst (v := (-1)) hx hb d_OC_holdsNow_54 (by decide) ?_
      refine lv_icmp_eq (tgt := 79) hx hb d_OC_holdsNow_55 (by decide) (fun hc => ?_) (fun hc => ?_)
      · replace h := it_t h hc
        exact J79 _ _ h ls _ _ hG (lv_sub hl [3, 4, 1, 0] rfl)
      · replace h := it_f h hc
        refine lv_iload hx hb d_OC_holdsNow_58 (lv_at hl 0 rfl) ?_
        refine lv_aload_n hx hb d_OC_holdsNow_60 rfl (lv_at hl 3 rfl) ?_
        refine g_get C hG (hG.lt (Nat.le_of_ble_eq_true rfl)) (ce27 w _) rfl inC3 2 (Nat.le_of_ble_eq_true rfl) qw103 rfl d_OC_holdsNow_61 ?_
        refine lv_iload hx hb d_OC_holdsNow_64 (lv_at hl 2 rfl) ?_
        obtain ⟨hi6, h⟩ := chk_some h
        refine g_iald (j := ix z1) C hG (hG.lt (Nat.le_of_ble_eq_true rfl)) (ce30 w _) (inb_in hi6) rfl d_OC_holdsNow_66 ?_
        refine lv_aload_n hx hb d_OC_holdsNow_67 rfl (lv_at hl 4 rfl) ?_
        refine g_get C hG (hG.lt (Nat.le_of_ble_eq_true rfl)) (ce1 w _) rfl inC6 7 (Nat.le_of_ble_eq_true rfl) qw50 rfl d_OC_holdsNow_68 ?_
        refine lv_iconst (v := 0) hx hb d_OC_holdsNow_71 (by decide) ?_
        refine g_iald (j := 0) C hG (hG.lt (Nat.le_of_ble_eq_true rfl)) (ce24 w _) (inb_in (by decide)) rfl d_OC_holdsNow_72 ?_
        refine lv_iadd hx hb d_OC_holdsNow_73 ?_
        refine lv_icmp_ge (tgt := 79) hx hb d_OC_holdsNow_74 (by decide) (fun hc => ?_) (fun hc => ?_)
        · replace h := it_t h hc
          exact J79 _ _ h ls _ _ hG (lv_sub hl [3, 4, 1, 0] rfl)
        · replace h := it_f h hc
          refine lv_iconst (v := 0) hx hb d_OC_holdsNow_77 (by decide) ?_
          exact g_zret C hG (Or.inl rfl) (Option.some.inj h) rfl hQ d_OC_holdsNow_78
    · replace h := it_t h hc
      refine lv_iconst (v := 0) hx hb d_OC_holdsNow_45 (by decide) ?_
      exact g_zret C hG (Or.inl rfl) (Option.some.inj h) rfl hQ d_OC_holdsNow_46
theorem d_OC_lead_0 : decode b_OC_lead 0 = .ok (.aload_n 0, 1) := by decide +kernel
theorem d_OC_lead_1 : decode b_OC_lead 1 = .ok (.getfield 15, 3) := by decide +kernel
theorem d_OC_lead_4 : decode b_OC_lead 4 = .ok (.iload_n 1, 1) := by decide +kernel
theorem d_OC_lead_5 : decode b_OC_lead 5 = .ok (.iaload, 1) := by decide +kernel
theorem d_OC_lead_6 : decode b_OC_lead 6 = .ok (.istore 4, 2) := by decide +kernel
theorem d_OC_lead_8 : decode b_OC_lead 8 = .ok (.iload 4, 2) := by decide +kernel
theorem d_OC_lead_10 : decode b_OC_lead 10 = .ok (.ifCond .lt 25, 3) := by decide +kernel
theorem d_OC_lead_13 : decode b_OC_lead 13 = .ok (.iload 4, 2) := by decide +kernel
theorem d_OC_lead_15 : decode b_OC_lead 15 = .ok (.iconst 5, 1) := by decide +kernel
theorem d_OC_lead_16 : decode b_OC_lead 16 = .ok (.if_icmp .ge 19, 3) := by decide +kernel
theorem d_OC_lead_19 : decode b_OC_lead 19 = .ok (.aload_n 0, 1) := by decide +kernel
theorem d_OC_lead_20 : decode b_OC_lead 20 = .ok (.getfield 25, 3) := by decide +kernel
theorem d_OC_lead_23 : decode b_OC_lead 23 = .ok (.iload 4, 2) := by decide +kernel
theorem d_OC_lead_25 : decode b_OC_lead 25 = .ok (.dup2, 1) := by decide +kernel
theorem d_OC_lead_26 : decode b_OC_lead 26 = .ok (.iaload, 1) := by decide +kernel
theorem d_OC_lead_27 : decode b_OC_lead 27 = .ok (.aload_n 0, 1) := by decide +kernel
theorem d_OC_lead_28 : decode b_OC_lead 28 = .ok (.getfield 19, 3) := by decide +kernel
theorem d_OC_lead_31 : decode b_OC_lead 31 = .ok (.iload_n 1, 1) := by decide +kernel
theorem d_OC_lead_32 : decode b_OC_lead 32 = .ok (.iaload, 1) := by decide +kernel
theorem d_OC_lead_33 : decode b_OC_lead 33 = .ok (.isub, 1) := by decide +kernel
theorem d_OC_lead_34 : decode b_OC_lead 34 = .ok (.iastore, 1) := by decide +kernel
theorem d_OC_lead_35 : decode b_OC_lead 35 = .ok (.aload_n 0, 1) := by decide +kernel
theorem d_OC_lead_36 : decode b_OC_lead 36 = .ok (.getfield 22, 3) := by decide +kernel
theorem d_OC_lead_39 : decode b_OC_lead 39 = .ok (.iload_n 1, 1) := by decide +kernel
theorem d_OC_lead_40 : decode b_OC_lead 40 = .ok (.aload_n 0, 1) := by decide +kernel
theorem d_OC_lead_41 : decode b_OC_lead 41 = .ok (.getfield 19, 3) := by decide +kernel
theorem d_OC_lead_44 : decode b_OC_lead 44 = .ok (.iload_n 1, 1) := by decide +kernel
theorem d_OC_lead_45 : decode b_OC_lead 45 = .ok (.iaload, 1) := by decide +kernel
theorem d_OC_lead_46 : decode b_OC_lead 46 = .ok (.iastore, 1) := by decide +kernel
theorem d_OC_lead_47 : decode b_OC_lead 47 = .ok (.aload_n 0, 1) := by decide +kernel
theorem d_OC_lead_48 : decode b_OC_lead 48 = .ok (.getfield 15, 3) := by decide +kernel
theorem d_OC_lead_51 : decode b_OC_lead 51 = .ok (.iload_n 1, 1) := by decide +kernel
theorem d_OC_lead_52 : decode b_OC_lead 52 = .ok (.iload_n 2, 1) := by decide +kernel
theorem d_OC_lead_53 : decode b_OC_lead 53 = .ok (.iastore, 1) := by decide +kernel
theorem d_OC_lead_54 : decode b_OC_lead 54 = .ok (.aload_n 0, 1) := by decide +kernel
theorem d_OC_lead_55 : decode b_OC_lead 55 = .ok (.getfield 19, 3) := by decide +kernel
theorem d_OC_lead_58 : decode b_OC_lead 58 = .ok (.iload_n 1, 1) := by decide +kernel
theorem d_OC_lead_59 : decode b_OC_lead 59 = .ok (.iload_n 3, 1) := by decide +kernel
theorem d_OC_lead_60 : decode b_OC_lead 60 = .ok (.iastore, 1) := by decide +kernel
theorem d_OC_lead_61 : decode b_OC_lead 61 = .ok (.aload_n 0, 1) := by decide +kernel
theorem d_OC_lead_62 : decode b_OC_lead 62 = .ok (.getfield 25, 3) := by decide +kernel
theorem d_OC_lead_65 : decode b_OC_lead 65 = .ok (.iload_n 2, 1) := by decide +kernel
theorem d_OC_lead_66 : decode b_OC_lead 66 = .ok (.dup2, 1) := by decide +kernel
theorem d_OC_lead_67 : decode b_OC_lead 67 = .ok (.iaload, 1) := by decide +kernel
theorem d_OC_lead_68 : decode b_OC_lead 68 = .ok (.iload_n 3, 1) := by decide +kernel
theorem d_OC_lead_69 : decode b_OC_lead 69 = .ok (.iadd, 1) := by decide +kernel
theorem d_OC_lead_70 : decode b_OC_lead 70 = .ok (.iastore, 1) := by decide +kernel
theorem d_OC_lead_71 : decode b_OC_lead 71 = .ok (.aload_n 0, 1) := by decide +kernel
theorem d_OC_lead_72 : decode b_OC_lead 72 = .ok (.dup, 1) := by decide +kernel
theorem d_OC_lead_73 : decode b_OC_lead 73 = .ok (.getfield 28, 3) := by decide +kernel
theorem d_OC_lead_76 : decode b_OC_lead 76 = .ok (.iconst 1, 1) := by decide +kernel
theorem d_OC_lead_77 : decode b_OC_lead 77 = .ok (.iadd, 1) := by decide +kernel
theorem d_OC_lead_78 : decode b_OC_lead 78 = .ok (.putfield 28, 3) := by decide +kernel
theorem d_OC_lead_81 : decode b_OC_lead 81 = .ok (.return_, 1) := by decide +kernel
noncomputable def OC_lead_J35 (S : St) (x1 : Int32) (x2 : Int32) (x3 : Int32) : Option (St) :=
  chk (inb x1 10) <|
    chk (inb x1 10) <|
    chk (inb x1 10) <|
    chk (inb x1 10) <|
    chk (inb x2 5) <|
    chk (inb x2 5) <|
    some (up (up (up (up (up S 31 (ix x1) (S 30 (ix x1))) 29 (ix x1) x2) 30 (ix x1) x3) 32 (ix x2) (((up (up (up S 31 (ix x1) (S 30 (ix x1))) 29 (ix x1) x2) 30 (ix x1) x3) 32 (ix x2)) + x3)) 27 5 (((up (up (up (up S 31 (ix x1) (S 30 (ix x1))) 29 (ix x1) x2) 30 (ix x1) x3) 32 (ix x2) (((up (up (up S 31 (ix x1) (S 30 (ix x1))) 29 (ix x1) x2) 30 (ix x1) x3) 32 (ix x2)) + x3)) 27 5) + 1))
noncomputable def OC_lead (S : St) (x1 : Int32) (x2 : Int32) (x3 : Int32) : Option (St) :=
  chk (inb x1 10) <|
    if (S 29 (ix x1)) < 0 then
      OC_lead_J35 S x1 x2 x3
    else
      if 5 ≤ (S 29 (ix x1)) then
        OC_lead_J35 S x1 x2 x3
      else
        chk (inb (S 29 (ix x1)) 5) <|
        chk (inb x1 10) <|
        chk (inb (S 29 (ix x1)) 5) <|
        OC_lead_J35 (up S 32 (ix (S 29 (ix x1))) ((S 32 (ix (S 29 (ix x1)))) - (S 30 (ix x1)))) x1 x2 x3
set_option maxHeartbeats 4000000 in
set_option maxRecDepth 100000 in
theorem c_OC_lead (l : Launch) (w : gw) (S : St) (x1 : Int32) (x2 : Int32) (x3 : Int32)  {z : St} (h : (OC_lead S x1 x2 x3) = some z) : gMv l w y_OC_lead b_OC_lead 5 none (rmm 0 0) [.ref (gad w 27), .int x1, .int x2, .int x3] S z := by
  unfold OC_lead at h
  refine g_met (Qc := gQv w z) (by decide +kernel) (Nat.le_of_ble_eq_true rfl) ?_
  intro p e s m args below meth c A Q ls hQ C hG hl
  have hx := C.1
  have hb := C.2.1
  have hl : lv_has ls 5 [(0, .ref (gad w 27)), (1, .int x1), (2, .int x2), (3, .int x3)] := hl
  have J35 : ∀ (S : St), OC_lead_J35 S x1 x2 x3 = some z → ∀ (ls : Array Slot) (H : Heap) (locs : List Loc), GH w s A S H locs → lv_has ls 5 [(0, .ref (gad w 27)), (1, .int x1), (2, .int x2), (3, .int x3)] → W p l e (rmm 0 0) s m args below meth c H locs 0 0 Q (F0 m 35 ls []) := by
    intro S h ls H locs hG hl
    unfold OC_lead_J35 at h
    refine lv_aload_n hx hb d_OC_lead_35 rfl (lv_at hl 0 rfl) ?_
    refine g_get C hG (hG.lt (Nat.le_of_ble_eq_true rfl)) (ce27 w _) rfl inC3 3 (Nat.le_of_ble_eq_true rfl) qw104 rfl d_OC_lead_36 ?_
    refine lv_iload_n hx hb d_OC_lead_39 rfl (lv_at hl 1 rfl) ?_
    refine lv_aload_n hx hb d_OC_lead_40 rfl (lv_at hl 0 rfl) ?_
    refine g_get C hG (hG.lt (Nat.le_of_ble_eq_true rfl)) (ce27 w _) rfl inC3 2 (Nat.le_of_ble_eq_true rfl) qw103 rfl d_OC_lead_41 ?_
    refine lv_iload_n hx hb d_OC_lead_44 rfl (lv_at hl 1 rfl) ?_
    obtain ⟨hi1, h⟩ := chk_some h
    refine g_iald (j := ix x1) C hG (hG.lt (Nat.le_of_ble_eq_true rfl)) (ce30 w _) (inb_in hi1) rfl d_OC_lead_45 ?_
    obtain ⟨hi2, h⟩ := chk_some h
    refine g_iast (j := ix x1) (x := S 30 (ix x1)) C hG (hG.lt (Nat.le_of_ble_eq_true rfl)) (ce31 w) (inb_in hi2) rfl d_OC_lead_46 (fun H locs hG => ?_)
    refine lv_aload_n hx hb d_OC_lead_47 rfl (lv_at hl 0 rfl) ?_
    refine g_get C hG (hG.lt (Nat.le_of_ble_eq_true rfl)) (ce27 w _) rfl inC3 1 (Nat.le_of_ble_eq_true rfl) qw101 rfl d_OC_lead_48 ?_
    refine lv_iload_n hx hb d_OC_lead_51 rfl (lv_at hl 1 rfl) ?_
    refine lv_iload_n hx hb d_OC_lead_52 rfl (lv_at hl 2 rfl) ?_
    obtain ⟨hi3, h⟩ := chk_some h
    refine g_iast (j := ix x1) (x := x2) C hG (hG.lt (Nat.le_of_ble_eq_true rfl)) (ce29 w) (inb_in hi3) rfl d_OC_lead_53 (fun H locs hG => ?_)
    refine lv_aload_n hx hb d_OC_lead_54 rfl (lv_at hl 0 rfl) ?_
    refine g_get C hG (hG.lt (Nat.le_of_ble_eq_true rfl)) (ce27 w _) rfl inC3 2 (Nat.le_of_ble_eq_true rfl) qw103 rfl d_OC_lead_55 ?_
    refine lv_iload_n hx hb d_OC_lead_58 rfl (lv_at hl 1 rfl) ?_
    refine lv_iload_n hx hb d_OC_lead_59 rfl (lv_at hl 3 rfl) ?_
    obtain ⟨hi4, h⟩ := chk_some h
    refine g_iast (j := ix x1) (x := x3) C hG (hG.lt (Nat.le_of_ble_eq_true rfl)) (ce30 w) (inb_in hi4) rfl d_OC_lead_60 (fun H locs hG => ?_)
    refine lv_aload_n hx hb d_OC_lead_61 rfl (lv_at hl 0 rfl) ?_
    refine g_get C hG (hG.lt (Nat.le_of_ble_eq_true rfl)) (ce27 w _) rfl inC3 4 (Nat.le_of_ble_eq_true rfl) qw105 rfl d_OC_lead_62 ?_
    refine lv_iload_n hx hb d_OC_lead_65 rfl (lv_at hl 2 rfl) ?_
    refine lv_dup2_11 hx hb d_OC_lead_66 rfl rfl ?_
    obtain ⟨hi5, h⟩ := chk_some h
    refine g_iald (j := ix x2) C hG (hG.lt (Nat.le_of_ble_eq_true rfl)) (ce32 w _) (inb_in hi5) rfl d_OC_lead_67 ?_
    refine lv_iload_n hx hb d_OC_lead_68 rfl (lv_at hl 3 rfl) ?_
    refine lv_iadd hx hb d_OC_lead_69 ?_
    obtain ⟨hi6, h⟩ := chk_some h
    refine g_iast (j := ix x2) (x := ((up (up (up S 31 (ix x1) (S 30 (ix x1))) 29 (ix x1) x2) 30 (ix x1) x3) 32 (ix x2)) + x3) C hG (hG.lt (Nat.le_of_ble_eq_true rfl)) (ce32 w) (inb_in hi6) rfl d_OC_lead_70 (fun H locs hG => ?_)
    refine lv_aload_n hx hb d_OC_lead_71 rfl (lv_at hl 0 rfl) ?_
    refine lv_dup hx hb d_OC_lead_72 rfl ?_
    refine g_get C hG (hG.lt (Nat.le_of_ble_eq_true rfl)) (ce27 w _) rfl inC3 5 (Nat.le_of_ble_eq_true rfl) qw107 rfl d_OC_lead_73 ?_
    refine lv_iconst (v := 1) hx hb d_OC_lead_76 (by decide) ?_
    refine lv_iadd hx hb d_OC_lead_77 ?_
    refine g_put (x := ((up (up (up (up S 31 (ix x1) (S 30 (ix x1))) 29 (ix x1) x2) 30 (ix x1) x3) 32 (ix x2) (((up (up (up S 31 (ix x1) (S 30 (ix x1))) 29 (ix x1) x2) 30 (ix x1) x3) 32 (ix x2)) + x3)) 27 5) + 1) C hG (hG.lt (Nat.le_of_ble_eq_true rfl)) (ce27 w _) rfl inC3 okC3 nmC3 5 (Nat.le_of_ble_eq_true rfl) qw107 rfl rfl rfl (Nat.le_of_ble_eq_true rfl) rfl d_OC_lead_78 (fun H locs hG => ?_)
    exact g_vret C hG (Option.some.inj h) hQ d_OC_lead_81
  refine lv_aload_n hx hb d_OC_lead_0 rfl (lv_at hl 0 rfl) ?_
  refine g_get C hG (hG.lt (Nat.le_of_ble_eq_true rfl)) (ce27 w _) rfl inC3 1 (Nat.le_of_ble_eq_true rfl) qw101 rfl d_OC_lead_1 ?_
  refine lv_iload_n hx hb d_OC_lead_4 rfl (lv_at hl 1 rfl) ?_
  obtain ⟨hi7, h⟩ := chk_some h
  refine g_iald (j := ix x1) C hG (hG.lt (Nat.le_of_ble_eq_true rfl)) (ce29 w _) (inb_in hi7) rfl d_OC_lead_5 ?_
  refine lv_istore (lv' := [(4, .int (S 29 (ix x1))), (0, .ref (gad w 27)), (1, .int x1), (2, .int x2), (3, .int x3)]) hx hb d_OC_lead_6 hl (by decide) rfl (fun ls hl => ?_)
  refine lv_iload hx hb d_OC_lead_8 (lv_at hl 0 rfl) ?_
  refine lv_if_lt (tgt := 35) hx hb d_OC_lead_10 (by decide) (fun hc => ?_) (fun hc => ?_)
  · replace h := it_t h hc
    exact J35 _ h ls _ _ hG (lv_sub hl [1, 2, 3, 4] rfl)
  · replace h := it_f h hc
    refine lv_iload hx hb d_OC_lead_13 (lv_at hl 0 rfl) ?_
    refine lv_iconst (v := 5) hx hb d_OC_lead_15 (by decide) ?_
    refine lv_icmp_ge (tgt := 35) hx hb d_OC_lead_16 (by decide) (fun hc => ?_) (fun hc => ?_)
    · replace h := it_t h hc
      exact J35 _ h ls _ _ hG (lv_sub hl [1, 2, 3, 4] rfl)
    · replace h := it_f h hc
      refine lv_aload_n hx hb d_OC_lead_19 rfl (lv_at hl 1 rfl) ?_
      refine g_get C hG (hG.lt (Nat.le_of_ble_eq_true rfl)) (ce27 w _) rfl inC3 4 (Nat.le_of_ble_eq_true rfl) qw105 rfl d_OC_lead_20 ?_
      refine lv_iload hx hb d_OC_lead_23 (lv_at hl 0 rfl) ?_
      refine lv_dup2_11 hx hb d_OC_lead_25 rfl rfl ?_
      obtain ⟨hi8, h⟩ := chk_some h
      refine g_iald (j := ix (S 29 (ix x1))) C hG (hG.lt (Nat.le_of_ble_eq_true rfl)) (ce32 w _) (inb_in hi8) rfl d_OC_lead_26 ?_
      refine lv_aload_n hx hb d_OC_lead_27 rfl (lv_at hl 1 rfl) ?_
      refine g_get C hG (hG.lt (Nat.le_of_ble_eq_true rfl)) (ce27 w _) rfl inC3 2 (Nat.le_of_ble_eq_true rfl) qw103 rfl d_OC_lead_28 ?_
      refine lv_iload_n hx hb d_OC_lead_31 rfl (lv_at hl 2 rfl) ?_
      obtain ⟨hi9, h⟩ := chk_some h
      refine g_iald (j := ix x1) C hG (hG.lt (Nat.le_of_ble_eq_true rfl)) (ce30 w _) (inb_in hi9) rfl d_OC_lead_32 ?_
      refine lv_isub hx hb d_OC_lead_33 ?_
      obtain ⟨hi10, h⟩ := chk_some h
      refine g_iast (j := ix (S 29 (ix x1))) (x := (S 32 (ix (S 29 (ix x1)))) - (S 30 (ix x1))) C hG (hG.lt (Nat.le_of_ble_eq_true rfl)) (ce32 w) (inb_in hi10) rfl d_OC_lead_34 (fun H locs hG => ?_)
      exact J35 _ h ls _ _ hG (lv_sub hl [1, 2, 3, 4] rfl)
theorem d_OC_priceOf_0 : decode b_OC_priceOf 0 = .ok (.aload_n 1, 1) := by decide +kernel
theorem d_OC_priceOf_1 : decode b_OC_priceOf 1 = .ok (.getfield 69, 3) := by decide +kernel
theorem d_OC_priceOf_4 : decode b_OC_priceOf 4 = .ok (.iconst 1, 1) := by decide +kernel
theorem d_OC_priceOf_5 : decode b_OC_priceOf 5 = .ok (.iaload, 1) := by decide +kernel
theorem d_OC_priceOf_6 : decode b_OC_priceOf 6 = .ok (.ifCond .ne 10, 3) := by decide +kernel
theorem d_OC_priceOf_9 : decode b_OC_priceOf 9 = .ok (.aload_n 0, 1) := by decide +kernel
theorem d_OC_priceOf_10 : decode b_OC_priceOf 10 = .ok (.getfield 19, 3) := by decide +kernel
theorem d_OC_priceOf_13 : decode b_OC_priceOf 13 = .ok (.iload_n 2, 1) := by decide +kernel
theorem d_OC_priceOf_14 : decode b_OC_priceOf 14 = .ok (.iaload, 1) := by decide +kernel
theorem d_OC_priceOf_15 : decode b_OC_priceOf 15 = .ok (.ireturn, 1) := by decide +kernel
theorem d_OC_priceOf_16 : decode b_OC_priceOf 16 = .ok (.aload_n 0, 1) := by decide +kernel
theorem d_OC_priceOf_17 : decode b_OC_priceOf 17 = .ok (.getfield 22, 3) := by decide +kernel
theorem d_OC_priceOf_20 : decode b_OC_priceOf 20 = .ok (.iload_n 2, 1) := by decide +kernel
theorem d_OC_priceOf_21 : decode b_OC_priceOf 21 = .ok (.iaload, 1) := by decide +kernel
theorem d_OC_priceOf_22 : decode b_OC_priceOf 22 = .ok (.aload_n 1, 1) := by decide +kernel
theorem d_OC_priceOf_23 : decode b_OC_priceOf 23 = .ok (.getfield 64, 3) := by decide +kernel
theorem d_OC_priceOf_26 : decode b_OC_priceOf 26 = .ok (.iload_n 2, 1) := by decide +kernel
theorem d_OC_priceOf_27 : decode b_OC_priceOf 27 = .ok (.iaload, 1) := by decide +kernel
theorem d_OC_priceOf_28 : decode b_OC_priceOf 28 = .ok (.invokestatic 75, 3) := by decide +kernel
theorem d_OC_priceOf_31 : decode b_OC_priceOf 31 = .ok (.ireturn, 1) := by decide +kernel
noncomputable def OC_priceOf (S : St) (x2 : Int32) : Option (Int32) :=
  if (S 24 1) = 0 then
      chk (inb x2 10) <|
      some (S 30 (ix x2))
    else
      chk (inb x2 10) <|
      chk (inb x2 10) <|
      some (mx (S 31 (ix x2)) (S 22 (ix x2)))
set_option maxHeartbeats 4000000 in
set_option maxRecDepth 100000 in
theorem c_OC_priceOf (l : Launch) (w : gw) (S : St) (x2 : Int32)  {z : Int32} (h : (OC_priceOf S x2) = some z) : gMi l w y_OC_priceOf b_OC_priceOf 3 (some .int) (rmm 1 21) [.ref (gad w 27), .ref (gad w 1), .int x2] S z S := by
  unfold OC_priceOf at h
  refine g_met (Qc := gQi w z S) (by decide +kernel) (Nat.le_of_ble_eq_true rfl) ?_
  intro p e s m args below meth c A Q ls hQ C hG hl
  have hx := C.1
  have hb := C.2.1
  have hl : lv_has ls 3 [(0, .ref (gad w 27)), (1, .ref (gad w 1)), (2, .int x2)] := hl
  refine lv_aload_n hx hb d_OC_priceOf_0 rfl (lv_at hl 1 rfl) ?_
  refine g_get C hG (hG.lt (Nat.le_of_ble_eq_true rfl)) (ce1 w _) rfl inC6 7 (Nat.le_of_ble_eq_true rfl) qw50 rfl d_OC_priceOf_1 ?_
  refine lv_iconst (v := 1) hx hb d_OC_priceOf_4 (by decide) ?_
  refine g_iald (j := 1) C hG (hG.lt (Nat.le_of_ble_eq_true rfl)) (ce24 w _) (inb_in (by decide)) rfl d_OC_priceOf_5 ?_
  refine lv_if_ne (tgt := 16) hx hb d_OC_priceOf_6 (by decide) (fun hc => ?_) (fun hc => ?_)
  · replace h := it_f h hc
    refine lv_aload_n hx hb d_OC_priceOf_16 rfl (lv_at hl 0 rfl) ?_
    refine g_get C hG (hG.lt (Nat.le_of_ble_eq_true rfl)) (ce27 w _) rfl inC3 3 (Nat.le_of_ble_eq_true rfl) qw104 rfl d_OC_priceOf_17 ?_
    refine lv_iload_n hx hb d_OC_priceOf_20 rfl (lv_at hl 2 rfl) ?_
    obtain ⟨hi1, h⟩ := chk_some h
    refine g_iald (j := ix x2) C hG (hG.lt (Nat.le_of_ble_eq_true rfl)) (ce31 w _) (inb_in hi1) rfl d_OC_priceOf_21 ?_
    refine lv_aload_n hx hb d_OC_priceOf_22 rfl (lv_at hl 1 rfl) ?_
    refine g_get C hG (hG.lt (Nat.le_of_ble_eq_true rfl)) (ce1 w _) rfl inC6 5 (Nat.le_of_ble_eq_true rfl) qw44 rfl d_OC_priceOf_23 ?_
    refine lv_iload_n hx hb d_OC_priceOf_26 rfl (lv_at hl 2 rfl) ?_
    obtain ⟨hi2, h⟩ := chk_some h
    refine g_iald (j := ix x2) C hG (hG.lt (Nat.le_of_ble_eq_true rfl)) (ce22 w _) (inb_in hi2) rfl d_OC_priceOf_27 ?_
    refine g_max C hl.1 qw376 ⟨by decide, by decide⟩ (Nat.le_of_ble_eq_true rfl) ⟨Nat.zero_le _, Nat.zero_le _⟩ d_OC_priceOf_28 ?_
    exact g_iret C hG (Option.some.inj h) rfl hQ d_OC_priceOf_31
  · replace h := it_t h hc
    refine lv_aload_n hx hb d_OC_priceOf_9 rfl (lv_at hl 0 rfl) ?_
    refine g_get C hG (hG.lt (Nat.le_of_ble_eq_true rfl)) (ce27 w _) rfl inC3 2 (Nat.le_of_ble_eq_true rfl) qw103 rfl d_OC_priceOf_10 ?_
    refine lv_iload_n hx hb d_OC_priceOf_13 rfl (lv_at hl 2 rfl) ?_
    obtain ⟨hi3, h⟩ := chk_some h
    refine g_iald (j := ix x2) C hG (hG.lt (Nat.le_of_ble_eq_true rfl)) (ce30 w _) (inb_in hi3) rfl d_OC_priceOf_14 ?_
    exact g_iret C hG (Option.some.inj h) rfl hQ d_OC_priceOf_15
theorem d_OC_pricesOf_0 : decode b_OC_pricesOf 0 = .ok (.iconst 0, 1) := by decide +kernel
theorem d_OC_pricesOf_1 : decode b_OC_pricesOf 1 = .ok (.istore_n 3, 1) := by decide +kernel
theorem d_OC_pricesOf_2 : decode b_OC_pricesOf 2 = .ok (.iconst 0, 1) := by decide +kernel
theorem d_OC_pricesOf_3 : decode b_OC_pricesOf 3 = .ok (.istore 4, 2) := by decide +kernel
theorem d_OC_pricesOf_5 : decode b_OC_pricesOf 5 = .ok (.iload 4, 2) := by decide +kernel
theorem d_OC_pricesOf_7 : decode b_OC_pricesOf 7 = .ok (.bipush 10, 2) := by decide +kernel
theorem d_OC_pricesOf_9 : decode b_OC_pricesOf 9 = .ok (.if_icmp .ge 30, 3) := by decide +kernel
theorem d_OC_pricesOf_12 : decode b_OC_pricesOf 12 = .ok (.aload_n 0, 1) := by decide +kernel
theorem d_OC_pricesOf_13 : decode b_OC_pricesOf 13 = .ok (.getfield 15, 3) := by decide +kernel
theorem d_OC_pricesOf_16 : decode b_OC_pricesOf 16 = .ok (.iload 4, 2) := by decide +kernel
theorem d_OC_pricesOf_18 : decode b_OC_pricesOf 18 = .ok (.iaload, 1) := by decide +kernel
theorem d_OC_pricesOf_19 : decode b_OC_pricesOf 19 = .ok (.iload_n 2, 1) := by decide +kernel
theorem d_OC_pricesOf_20 : decode b_OC_pricesOf 20 = .ok (.if_icmp .ne 13, 3) := by decide +kernel
theorem d_OC_pricesOf_23 : decode b_OC_pricesOf 23 = .ok (.iload_n 3, 1) := by decide +kernel
theorem d_OC_pricesOf_24 : decode b_OC_pricesOf 24 = .ok (.aload_n 0, 1) := by decide +kernel
theorem d_OC_pricesOf_25 : decode b_OC_pricesOf 25 = .ok (.aload_n 1, 1) := by decide +kernel
theorem d_OC_pricesOf_26 : decode b_OC_pricesOf 26 = .ok (.iload 4, 2) := by decide +kernel
theorem d_OC_pricesOf_28 : decode b_OC_pricesOf 28 = .ok (.invokevirtual 81, 3) := by decide +kernel
theorem d_OC_pricesOf_31 : decode b_OC_pricesOf 31 = .ok (.iadd, 1) := by decide +kernel
theorem d_OC_pricesOf_32 : decode b_OC_pricesOf 32 = .ok (.istore_n 3, 1) := by decide +kernel
theorem d_OC_pricesOf_33 : decode b_OC_pricesOf 33 = .ok (.iinc 4 1, 3) := by decide +kernel
theorem d_OC_pricesOf_36 : decode b_OC_pricesOf 36 = .ok (.goto (-31), 3) := by decide +kernel
theorem d_OC_pricesOf_39 : decode b_OC_pricesOf 39 = .ok (.iload_n 3, 1) := by decide +kernel
theorem d_OC_pricesOf_40 : decode b_OC_pricesOf 40 = .ok (.ireturn, 1) := by decide +kernel
noncomputable def OC_pricesOf_L5 (S : St) (x2 : Int32) (x3 : Int32) (x4 : Int32) : Option ((Int32 × Int32) × Nat) :=
  if 10 ≤ x4 then
      some ((x3, x4), 1)
    else
      chk (inb x4 10) <|
      if (S 29 (ix x4)) = x2 then
        bnd (OC_priceOf S x4) fun z1 =>
        some ((x3 + z1, x4 + 1), 0)
      else
        some ((x3, x4 + 1), 0)
noncomputable def OC_pricesOf_J39 (S : St) (x3 : Int32) : Option (Int32) :=
  some x3
noncomputable def OC_pricesOf (S : St) (x2 : Int32) : Option (Int32) :=
  bnd (lp (σ := Int32 × Int32) (fun q => OC_pricesOf_L5 S x2 q.1 q.2) FZ (0, 0)) fun z2 =>
    OC_pricesOf_J39 S z2.1.1
set_option maxHeartbeats 4000000 in
set_option maxRecDepth 100000 in
theorem L_OC_pricesOf_5 (C : gCx p s m args meth c y_OC_pricesOf.cls b_OC_pricesOf 5 (some .int)) : ∀ (S : St) (x2 : Int32) (n : Nat) (x3 : Int32) (x4 : Int32) (r : (Int32 × Int32) × Nat), lp (σ := Int32 × Int32) (fun q => OC_pricesOf_L5 S x2 q.1 q.2) n (x3, x4) = some r → (∀ (y3 : Int32) (y4 : Int32), r = ((y3, y4), 1) → ∀ (ls : Array Slot) (H : Heap) (locs : List Loc), GH w s A S H locs → lv_has ls 5 [(3, .int y3)] → W p l e (rmm 2 43) s m args below meth c H locs 0 0 Q (F0 m 39 ls [])) → ∀ (ls : Array Slot) (H : Heap) (locs : List Loc), GH w s A S H locs → lv_has ls 5 [(0, .ref (gad w 27)), (1, .ref (gad w 1)), (2, .int x2), (3, .int x3), (4, .int x4)] → W p l e (rmm 2 43) s m args below meth c H locs 0 0 Q (F0 m 5 ls []) := by
  have hx := C.1
  have hb := C.2.1
  intro S x2 n
  induction n with
  | zero => intro x3 x4 r h; cases h
  | succ n ih =>
    intro x3 x4 r h k1 ls H locs hG hl
    obtain ⟨z, h, hr⟩ := lp_succ h
    have h : OC_pricesOf_L5 S x2 x3 x4 = some z := h
    unfold OC_pricesOf_L5 at h
    refine lv_iload hx hb d_OC_pricesOf_5 (lv_at hl 4 rfl) ?_
    refine lv_bipush (v := 10) hx hb d_OC_pricesOf_7 (by decide) ?_
    refine lv_icmp_ge (tgt := 39) hx hb d_OC_pricesOf_9 (by decide) (fun hc => ?_) (fun hc => ?_)
    · replace h := it_t h hc
      exact k1 _ _ (lp_exit h hr) ls _ _ hG (lv_sub hl [3] rfl)
    · replace h := it_f h hc
      refine lv_aload_n hx hb d_OC_pricesOf_12 rfl (lv_at hl 0 rfl) ?_
      refine g_get C hG (hG.lt (Nat.le_of_ble_eq_true rfl)) (ce27 w _) rfl inC3 1 (Nat.le_of_ble_eq_true rfl) qw101 rfl d_OC_pricesOf_13 ?_
      refine lv_iload hx hb d_OC_pricesOf_16 (lv_at hl 4 rfl) ?_
      obtain ⟨hi1, h⟩ := chk_some h
      refine g_iald (j := ix x4) C hG (hG.lt (Nat.le_of_ble_eq_true rfl)) (ce29 w _) (inb_in hi1) rfl d_OC_pricesOf_18 ?_
      refine lv_iload_n hx hb d_OC_pricesOf_19 rfl (lv_at hl 2 rfl) ?_
      refine lv_icmp_ne (tgt := 33) hx hb d_OC_pricesOf_20 (by decide) (fun hc => ?_) (fun hc => ?_)
      · replace h := it_f h hc
        refine lv_iinc (v := x4 + 1) (lv' := [(4, .int (x4 + 1)), (0, .ref (gad w 27)), (1, .ref (gad w 1)), (2, .int x2), (3, .int x3)]) hx hb d_OC_pricesOf_33 hl (k := 4) rfl (congrArg (HAdd.hAdd x4) (by decide : Int32.ofInt 1 = 1)) (by decide) rfl (fun ls hl => ?_)
        refine lv_goto (tgt := 5) hx hb d_OC_pricesOf_36 (by decide) ?_
        exact ih _ _ _ (lp_back h hr) k1 ls _ _ hG (lv_sub hl [1, 2, 3, 4, 0] rfl)
      · replace h := it_t h hc
        refine lv_iload_n hx hb d_OC_pricesOf_23 rfl (lv_at hl 3 rfl) ?_
        refine lv_aload_n hx hb d_OC_pricesOf_24 rfl (lv_at hl 0 rfl) ?_
        refine lv_aload_n hx hb d_OC_pricesOf_25 rfl (lv_at hl 1 rfl) ?_
        refine lv_iload hx hb d_OC_pricesOf_26 (lv_at hl 4 rfl) ?_
        obtain ⟨z1, hz1, h⟩ := bnd_some h
        refine g_goi hG (g_runV (As := [.ref (gad w 1), .int x4]) (rest := [.int x3]) C hG (c_OC_priceOf l w S x4 hz1 _) (hG.lt (Nat.le_of_ble_eq_true rfl)) (ce27 w _) rfl vw_OC_81 rfl rfl ⟨by decide, by decide⟩ rfl hl.1 rfl (Nat.le_of_ble_eq_true rfl) d_OC_pricesOf_28 ⟨Nat.zero_le _, Nat.zero_le _⟩) (fun H locs hG => ?_)
        refine lv_iadd hx hb d_OC_pricesOf_31 ?_
        refine lv_istore_n (lv' := [(3, .int (x3 + z1)), (0, .ref (gad w 27)), (1, .ref (gad w 1)), (2, .int x2), (4, .int x4)]) hx hb d_OC_pricesOf_32 rfl hl (by decide) rfl (fun ls hl => ?_)
        refine lv_iinc (v := x4 + 1) (lv' := [(4, .int (x4 + 1)), (3, .int (x3 + z1)), (0, .ref (gad w 27)), (1, .ref (gad w 1)), (2, .int x2)]) hx hb d_OC_pricesOf_33 hl (k := 4) rfl (congrArg (HAdd.hAdd x4) (by decide : Int32.ofInt 1 = 1)) (by decide) rfl (fun ls hl => ?_)
        refine lv_goto (tgt := 5) hx hb d_OC_pricesOf_36 (by decide) ?_
        exact ih _ _ _ (lp_back h hr) k1 ls _ _ hG (lv_sub hl [2, 3, 4, 1, 0] rfl)
set_option maxHeartbeats 4000000 in
set_option maxRecDepth 100000 in
theorem c_OC_pricesOf (l : Launch) (w : gw) (S : St) (x2 : Int32)  {z : Int32} (h : (OC_pricesOf S x2) = some z) : gMi l w y_OC_pricesOf b_OC_pricesOf 5 (some .int) (rmm 2 43) [.ref (gad w 27), .ref (gad w 1), .int x2] S z S := by
  unfold OC_pricesOf at h
  refine g_met (Qc := gQi w z S) (by decide +kernel) (Nat.le_of_ble_eq_true rfl) ?_
  intro p e s m args below meth c A Q ls hQ C hG hl
  have hx := C.1
  have hb := C.2.1
  have hl : lv_has ls 5 [(0, .ref (gad w 27)), (1, .ref (gad w 1)), (2, .int x2)] := hl
  have J39 : ∀ (x3 : Int32), OC_pricesOf_J39 S x3 = some z → ∀ (ls : Array Slot) (H : Heap) (locs : List Loc), GH w s A S H locs → lv_has ls 5 [(3, .int x3)] → W p l e (rmm 2 43) s m args below meth c H locs 0 0 Q (F0 m 39 ls []) := by
    intro x3 h ls H locs hG hl
    unfold OC_pricesOf_J39 at h
    refine lv_iload_n hx hb d_OC_pricesOf_39 rfl (lv_at hl 0 rfl) ?_
    exact g_iret C hG (Option.some.inj h) rfl hQ d_OC_pricesOf_40
  refine lv_iconst (v := 0) hx hb d_OC_pricesOf_0 (by decide) ?_
  refine lv_istore_n (lv' := [(3, .int 0), (0, .ref (gad w 27)), (1, .ref (gad w 1)), (2, .int x2)]) hx hb d_OC_pricesOf_1 rfl hl (by decide) rfl (fun ls hl => ?_)
  refine lv_iconst (v := 0) hx hb d_OC_pricesOf_2 (by decide) ?_
  refine lv_istore (lv' := [(4, .int 0), (3, .int 0), (0, .ref (gad w 27)), (1, .ref (gad w 1)), (2, .int x2)]) hx hb d_OC_pricesOf_3 hl (by decide) rfl (fun ls hl => ?_)
  obtain ⟨z2, hz2, h⟩ := bnd_some h
  refine L_OC_pricesOf_5 C _ _ FZ _ _ _ hz2 ?_ ls _ _ hG (lv_sub hl [2, 3, 4, 1, 0] rfl)
  intro y3 y4 e9 ls H locs hG hl
  subst e9
  exact J39 _ h ls _ _ hG (lv_sub hl [0] rfl)
theorem d_OC_allPrices_0 : decode b_OC_allPrices 0 = .ok (.iconst 0, 1) := by decide +kernel
theorem d_OC_allPrices_1 : decode b_OC_allPrices 1 = .ok (.istore_n 2, 1) := by decide +kernel
theorem d_OC_allPrices_2 : decode b_OC_allPrices 2 = .ok (.iconst 0, 1) := by decide +kernel
theorem d_OC_allPrices_3 : decode b_OC_allPrices 3 = .ok (.istore_n 3, 1) := by decide +kernel
theorem d_OC_allPrices_4 : decode b_OC_allPrices 4 = .ok (.iload_n 3, 1) := by decide +kernel
theorem d_OC_allPrices_5 : decode b_OC_allPrices 5 = .ok (.iconst 5, 1) := by decide +kernel
theorem d_OC_allPrices_6 : decode b_OC_allPrices 6 = .ok (.if_icmp .ge 18, 3) := by decide +kernel
theorem d_OC_allPrices_9 : decode b_OC_allPrices 9 = .ok (.iload_n 2, 1) := by decide +kernel
theorem d_OC_allPrices_10 : decode b_OC_allPrices 10 = .ok (.aload_n 0, 1) := by decide +kernel
theorem d_OC_allPrices_11 : decode b_OC_allPrices 11 = .ok (.aload_n 1, 1) := by decide +kernel
theorem d_OC_allPrices_12 : decode b_OC_allPrices 12 = .ok (.iload_n 3, 1) := by decide +kernel
theorem d_OC_allPrices_13 : decode b_OC_allPrices 13 = .ok (.invokevirtual 85, 3) := by decide +kernel
theorem d_OC_allPrices_16 : decode b_OC_allPrices 16 = .ok (.iadd, 1) := by decide +kernel
theorem d_OC_allPrices_17 : decode b_OC_allPrices 17 = .ok (.istore_n 2, 1) := by decide +kernel
theorem d_OC_allPrices_18 : decode b_OC_allPrices 18 = .ok (.iinc 3 1, 3) := by decide +kernel
theorem d_OC_allPrices_21 : decode b_OC_allPrices 21 = .ok (.goto (-17), 3) := by decide +kernel
theorem d_OC_allPrices_24 : decode b_OC_allPrices 24 = .ok (.iload_n 2, 1) := by decide +kernel
theorem d_OC_allPrices_25 : decode b_OC_allPrices 25 = .ok (.ireturn, 1) := by decide +kernel
noncomputable def OC_allPrices_L4 (S : St) (x2 : Int32) (x3 : Int32) : Option ((Int32 × Int32) × Nat) :=
  if 5 ≤ x3 then
      some ((x2, x3), 1)
    else
      bnd (OC_pricesOf S x3) fun z1 =>
      some ((x2 + z1, x3 + 1), 0)
noncomputable def OC_allPrices_J24 (S : St) (x2 : Int32) : Option (Int32) :=
  some x2
noncomputable def OC_allPrices (S : St) : Option (Int32) :=
  bnd (lp (σ := Int32 × Int32) (fun q => OC_allPrices_L4 S q.1 q.2) FZ (0, 0)) fun z2 =>
    OC_allPrices_J24 S z2.1.1
set_option maxHeartbeats 4000000 in
set_option maxRecDepth 100000 in
theorem L_OC_allPrices_4 (C : gCx p s m args meth c y_OC_allPrices.cls b_OC_allPrices 4 (some .int)) : ∀ (S : St) (n : Nat) (x2 : Int32) (x3 : Int32) (r : (Int32 × Int32) × Nat), lp (σ := Int32 × Int32) (fun q => OC_allPrices_L4 S q.1 q.2) n (x2, x3) = some r → (∀ (y2 : Int32) (y3 : Int32), r = ((y2, y3), 1) → ∀ (ls : Array Slot) (H : Heap) (locs : List Loc), GH w s A S H locs → lv_has ls 4 [(2, .int y2)] → W p l e (rmm 3 67) s m args below meth c H locs 0 0 Q (F0 m 24 ls [])) → ∀ (ls : Array Slot) (H : Heap) (locs : List Loc), GH w s A S H locs → lv_has ls 4 [(0, .ref (gad w 27)), (1, .ref (gad w 1)), (2, .int x2), (3, .int x3)] → W p l e (rmm 3 67) s m args below meth c H locs 0 0 Q (F0 m 4 ls []) := by
  have hx := C.1
  have hb := C.2.1
  intro S n
  induction n with
  | zero => intro x2 x3 r h; cases h
  | succ n ih =>
    intro x2 x3 r h k1 ls H locs hG hl
    obtain ⟨z, h, hr⟩ := lp_succ h
    have h : OC_allPrices_L4 S x2 x3 = some z := h
    unfold OC_allPrices_L4 at h
    refine lv_iload_n hx hb d_OC_allPrices_4 rfl (lv_at hl 3 rfl) ?_
    refine lv_iconst (v := 5) hx hb d_OC_allPrices_5 (by decide) ?_
    refine lv_icmp_ge (tgt := 24) hx hb d_OC_allPrices_6 (by decide) (fun hc => ?_) (fun hc => ?_)
    · replace h := it_t h hc
      exact k1 _ _ (lp_exit h hr) ls _ _ hG (lv_sub hl [2] rfl)
    · replace h := it_f h hc
      refine lv_iload_n hx hb d_OC_allPrices_9 rfl (lv_at hl 2 rfl) ?_
      refine lv_aload_n hx hb d_OC_allPrices_10 rfl (lv_at hl 0 rfl) ?_
      refine lv_aload_n hx hb d_OC_allPrices_11 rfl (lv_at hl 1 rfl) ?_
      refine lv_iload_n hx hb d_OC_allPrices_12 rfl (lv_at hl 3 rfl) ?_
      obtain ⟨z1, hz1, h⟩ := bnd_some h
      refine g_goi hG (g_runV (As := [.ref (gad w 1), .int x3]) (rest := [.int x2]) C hG (c_OC_pricesOf l w S x3 hz1 _) (hG.lt (Nat.le_of_ble_eq_true rfl)) (ce27 w _) rfl vw_OC_85 rfl rfl ⟨by decide, by decide⟩ rfl hl.1 rfl (Nat.le_of_ble_eq_true rfl) d_OC_allPrices_13 ⟨Nat.zero_le _, Nat.zero_le _⟩) (fun H locs hG => ?_)
      refine lv_iadd hx hb d_OC_allPrices_16 ?_
      refine lv_istore_n (lv' := [(2, .int (x2 + z1)), (0, .ref (gad w 27)), (1, .ref (gad w 1)), (3, .int x3)]) hx hb d_OC_allPrices_17 rfl hl (by decide) rfl (fun ls hl => ?_)
      refine lv_iinc (v := x3 + 1) (lv' := [(3, .int (x3 + 1)), (2, .int (x2 + z1)), (0, .ref (gad w 27)), (1, .ref (gad w 1))]) hx hb d_OC_allPrices_18 hl (k := 3) rfl (congrArg (HAdd.hAdd x3) (by decide : Int32.ofInt 1 = 1)) (by decide) rfl (fun ls hl => ?_)
      refine lv_goto (tgt := 4) hx hb d_OC_allPrices_21 (by decide) ?_
      exact ih _ _ _ (lp_back h hr) k1 ls _ _ hG (lv_sub hl [2, 3, 1, 0] rfl)
set_option maxHeartbeats 4000000 in
set_option maxRecDepth 100000 in
theorem c_OC_allPrices (l : Launch) (w : gw) (S : St)   {z : Int32} (h : (OC_allPrices S) = some z) : gMi l w y_OC_allPrices b_OC_allPrices 4 (some .int) (rmm 3 67) [.ref (gad w 27), .ref (gad w 1)] S z S := by
  unfold OC_allPrices at h
  refine g_met (Qc := gQi w z S) (by decide +kernel) (Nat.le_of_ble_eq_true rfl) ?_
  intro p e s m args below meth c A Q ls hQ C hG hl
  have hx := C.1
  have hb := C.2.1
  have hl : lv_has ls 4 [(0, .ref (gad w 27)), (1, .ref (gad w 1))] := hl
  have J24 : ∀ (x2 : Int32), OC_allPrices_J24 S x2 = some z → ∀ (ls : Array Slot) (H : Heap) (locs : List Loc), GH w s A S H locs → lv_has ls 4 [(2, .int x2)] → W p l e (rmm 3 67) s m args below meth c H locs 0 0 Q (F0 m 24 ls []) := by
    intro x2 h ls H locs hG hl
    unfold OC_allPrices_J24 at h
    refine lv_iload_n hx hb d_OC_allPrices_24 rfl (lv_at hl 0 rfl) ?_
    exact g_iret C hG (Option.some.inj h) rfl hQ d_OC_allPrices_25
  refine lv_iconst (v := 0) hx hb d_OC_allPrices_0 (by decide) ?_
  refine lv_istore_n (lv' := [(2, .int 0), (0, .ref (gad w 27)), (1, .ref (gad w 1))]) hx hb d_OC_allPrices_1 rfl hl (by decide) rfl (fun ls hl => ?_)
  refine lv_iconst (v := 0) hx hb d_OC_allPrices_2 (by decide) ?_
  refine lv_istore_n (lv' := [(3, .int 0), (2, .int 0), (0, .ref (gad w 27)), (1, .ref (gad w 1))]) hx hb d_OC_allPrices_3 rfl hl (by decide) rfl (fun ls hl => ?_)
  obtain ⟨z2, hz2, h⟩ := bnd_some h
  refine L_OC_allPrices_4 C _ FZ _ _ _ hz2 ?_ ls _ _ hG (lv_sub hl [2, 3, 1, 0] rfl)
  intro y2 y3 e9 ls H locs hG hl
  subst e9
  exact J24 _ h ls _ _ hG (lv_sub hl [0] rfl)
theorem d_OC_eveningsOf_0 : decode b_OC_eveningsOf 0 = .ok (.iconst 0, 1) := by decide +kernel
theorem d_OC_eveningsOf_1 : decode b_OC_eveningsOf 1 = .ok (.istore_n 2, 1) := by decide +kernel
theorem d_OC_eveningsOf_2 : decode b_OC_eveningsOf 2 = .ok (.iconst 0, 1) := by decide +kernel
theorem d_OC_eveningsOf_3 : decode b_OC_eveningsOf 3 = .ok (.istore_n 3, 1) := by decide +kernel
theorem d_OC_eveningsOf_4 : decode b_OC_eveningsOf 4 = .ok (.iload_n 3, 1) := by decide +kernel
theorem d_OC_eveningsOf_5 : decode b_OC_eveningsOf 5 = .ok (.bipush 10, 2) := by decide +kernel
theorem d_OC_eveningsOf_7 : decode b_OC_eveningsOf 7 = .ok (.if_icmp .ge 25, 3) := by decide +kernel
theorem d_OC_eveningsOf_10 : decode b_OC_eveningsOf 10 = .ok (.aload_n 0, 1) := by decide +kernel
theorem d_OC_eveningsOf_11 : decode b_OC_eveningsOf 11 = .ok (.getfield 15, 3) := by decide +kernel
theorem d_OC_eveningsOf_14 : decode b_OC_eveningsOf 14 = .ok (.iload_n 3, 1) := by decide +kernel
theorem d_OC_eveningsOf_15 : decode b_OC_eveningsOf 15 = .ok (.iaload, 1) := by decide +kernel
theorem d_OC_eveningsOf_16 : decode b_OC_eveningsOf 16 = .ok (.iload_n 1, 1) := by decide +kernel
theorem d_OC_eveningsOf_17 : decode b_OC_eveningsOf 17 = .ok (.if_icmp .ne 9, 3) := by decide +kernel
theorem d_OC_eveningsOf_20 : decode b_OC_eveningsOf 20 = .ok (.iload_n 2, 1) := by decide +kernel
theorem d_OC_eveningsOf_21 : decode b_OC_eveningsOf 21 = .ok (.iconst 1, 1) := by decide +kernel
theorem d_OC_eveningsOf_22 : decode b_OC_eveningsOf 22 = .ok (.iload_n 3, 1) := by decide +kernel
theorem d_OC_eveningsOf_23 : decode b_OC_eveningsOf 23 = .ok (.ishl, 1) := by decide +kernel
theorem d_OC_eveningsOf_24 : decode b_OC_eveningsOf 24 = .ok (.ior, 1) := by decide +kernel
theorem d_OC_eveningsOf_25 : decode b_OC_eveningsOf 25 = .ok (.istore_n 2, 1) := by decide +kernel
theorem d_OC_eveningsOf_26 : decode b_OC_eveningsOf 26 = .ok (.iinc 3 1, 3) := by decide +kernel
theorem d_OC_eveningsOf_29 : decode b_OC_eveningsOf 29 = .ok (.goto (-25), 3) := by decide +kernel
theorem d_OC_eveningsOf_32 : decode b_OC_eveningsOf 32 = .ok (.iload_n 2, 1) := by decide +kernel
theorem d_OC_eveningsOf_33 : decode b_OC_eveningsOf 33 = .ok (.ireturn, 1) := by decide +kernel
noncomputable def OC_eveningsOf_L4 (S : St) (x1 : Int32) (x2 : Int32) (x3 : Int32) : Option ((Int32 × Int32) × Nat) :=
  if 10 ≤ x3 then
      some ((x2, x3), 1)
    else
      chk (inb x3 10) <|
      if (S 29 (ix x3)) = x1 then
        some ((x2 ||| ((1 : Int32) <<< (x3 &&& 31)), x3 + 1), 0)
      else
        some ((x2, x3 + 1), 0)
noncomputable def OC_eveningsOf_J32 (S : St) (x2 : Int32) : Option (Int32) :=
  some x2
noncomputable def OC_eveningsOf (S : St) (x1 : Int32) : Option (Int32) :=
  bnd (lp (σ := Int32 × Int32) (fun q => OC_eveningsOf_L4 S x1 q.1 q.2) FZ (0, 0)) fun z1 =>
    OC_eveningsOf_J32 S z1.1.1
set_option maxHeartbeats 4000000 in
set_option maxRecDepth 100000 in
theorem L_OC_eveningsOf_4 (C : gCx p s m args meth c y_OC_eveningsOf.cls b_OC_eveningsOf 4 (some .int)) : ∀ (S : St) (x1 : Int32) (n : Nat) (x2 : Int32) (x3 : Int32) (r : (Int32 × Int32) × Nat), lp (σ := Int32 × Int32) (fun q => OC_eveningsOf_L4 S x1 q.1 q.2) n (x2, x3) = some r → (∀ (y2 : Int32) (y3 : Int32), r = ((y2, y3), 1) → ∀ (ls : Array Slot) (H : Heap) (locs : List Loc), GH w s A S H locs → lv_has ls 4 [(2, .int y2)] → W p l e (rmm 0 0) s m args below meth c H locs 0 0 Q (F0 m 32 ls [])) → ∀ (ls : Array Slot) (H : Heap) (locs : List Loc), GH w s A S H locs → lv_has ls 4 [(0, .ref (gad w 27)), (1, .int x1), (2, .int x2), (3, .int x3)] → W p l e (rmm 0 0) s m args below meth c H locs 0 0 Q (F0 m 4 ls []) := by
  have hx := C.1
  have hb := C.2.1
  intro S x1 n
  induction n with
  | zero => intro x2 x3 r h; cases h
  | succ n ih =>
    intro x2 x3 r h k1 ls H locs hG hl
    obtain ⟨z, h, hr⟩ := lp_succ h
    have h : OC_eveningsOf_L4 S x1 x2 x3 = some z := h
    unfold OC_eveningsOf_L4 at h
    refine lv_iload_n hx hb d_OC_eveningsOf_4 rfl (lv_at hl 3 rfl) ?_
    refine lv_bipush (v := 10) hx hb d_OC_eveningsOf_5 (by decide) ?_
    refine lv_icmp_ge (tgt := 32) hx hb d_OC_eveningsOf_7 (by decide) (fun hc => ?_) (fun hc => ?_)
    · replace h := it_t h hc
      exact k1 _ _ (lp_exit h hr) ls _ _ hG (lv_sub hl [2] rfl)
    · replace h := it_f h hc
      refine lv_aload_n hx hb d_OC_eveningsOf_10 rfl (lv_at hl 0 rfl) ?_
      refine g_get C hG (hG.lt (Nat.le_of_ble_eq_true rfl)) (ce27 w _) rfl inC3 1 (Nat.le_of_ble_eq_true rfl) qw101 rfl d_OC_eveningsOf_11 ?_
      refine lv_iload_n hx hb d_OC_eveningsOf_14 rfl (lv_at hl 3 rfl) ?_
      obtain ⟨hi1, h⟩ := chk_some h
      refine g_iald (j := ix x3) C hG (hG.lt (Nat.le_of_ble_eq_true rfl)) (ce29 w _) (inb_in hi1) rfl d_OC_eveningsOf_15 ?_
      refine lv_iload_n hx hb d_OC_eveningsOf_16 rfl (lv_at hl 1 rfl) ?_
      refine lv_icmp_ne (tgt := 26) hx hb d_OC_eveningsOf_17 (by decide) (fun hc => ?_) (fun hc => ?_)
      · replace h := it_f h hc
        refine lv_iinc (v := x3 + 1) (lv' := [(3, .int (x3 + 1)), (0, .ref (gad w 27)), (1, .int x1), (2, .int x2)]) hx hb d_OC_eveningsOf_26 hl (k := 3) rfl (congrArg (HAdd.hAdd x3) (by decide : Int32.ofInt 1 = 1)) (by decide) rfl (fun ls hl => ?_)
        refine lv_goto (tgt := 4) hx hb d_OC_eveningsOf_29 (by decide) ?_
        exact ih _ _ _ (lp_back h hr) k1 ls _ _ hG (lv_sub hl [1, 2, 3, 0] rfl)
      · replace h := it_t h hc
        refine lv_iload_n hx hb d_OC_eveningsOf_20 rfl (lv_at hl 2 rfl) ?_
        refine lv_iconst (v := 1) hx hb d_OC_eveningsOf_21 (by decide) ?_
        refine lv_iload_n hx hb d_OC_eveningsOf_22 rfl (lv_at hl 3 rfl) ?_
        refine lv_ishl hx hb d_OC_eveningsOf_23 ?_
        refine lv_ior hx hb d_OC_eveningsOf_24 ?_
        refine lv_istore_n (lv' := [(2, .int (x2 ||| ((1 : Int32) <<< (x3 &&& 31)))), (0, .ref (gad w 27)), (1, .int x1), (3, .int x3)]) hx hb d_OC_eveningsOf_25 rfl hl (by decide) rfl (fun ls hl => ?_)
        refine lv_iinc (v := x3 + 1) (lv' := [(3, .int (x3 + 1)), (2, .int (x2 ||| ((1 : Int32) <<< (x3 &&& 31)))), (0, .ref (gad w 27)), (1, .int x1)]) hx hb d_OC_eveningsOf_26 hl (k := 3) rfl (congrArg (HAdd.hAdd x3) (by decide : Int32.ofInt 1 = 1)) (by decide) rfl (fun ls hl => ?_)
        refine lv_goto (tgt := 4) hx hb d_OC_eveningsOf_29 (by decide) ?_
        exact ih _ _ _ (lp_back h hr) k1 ls _ _ hG (lv_sub hl [2, 3, 1, 0] rfl)
set_option maxHeartbeats 4000000 in
set_option maxRecDepth 100000 in
theorem c_OC_eveningsOf (l : Launch) (w : gw) (S : St) (x1 : Int32)  {z : Int32} (h : (OC_eveningsOf S x1) = some z) : gMi l w y_OC_eveningsOf b_OC_eveningsOf 4 (some .int) (rmm 0 0) [.ref (gad w 27), .int x1] S z S := by
  unfold OC_eveningsOf at h
  refine g_met (Qc := gQi w z S) (by decide +kernel) (Nat.le_of_ble_eq_true rfl) ?_
  intro p e s m args below meth c A Q ls hQ C hG hl
  have hx := C.1
  have hb := C.2.1
  have hl : lv_has ls 4 [(0, .ref (gad w 27)), (1, .int x1)] := hl
  have J32 : ∀ (x2 : Int32), OC_eveningsOf_J32 S x2 = some z → ∀ (ls : Array Slot) (H : Heap) (locs : List Loc), GH w s A S H locs → lv_has ls 4 [(2, .int x2)] → W p l e (rmm 0 0) s m args below meth c H locs 0 0 Q (F0 m 32 ls []) := by
    intro x2 h ls H locs hG hl
    unfold OC_eveningsOf_J32 at h
    refine lv_iload_n hx hb d_OC_eveningsOf_32 rfl (lv_at hl 0 rfl) ?_
    exact g_iret C hG (Option.some.inj h) rfl hQ d_OC_eveningsOf_33
  refine lv_iconst (v := 0) hx hb d_OC_eveningsOf_0 (by decide) ?_
  refine lv_istore_n (lv' := [(2, .int 0), (0, .ref (gad w 27)), (1, .int x1)]) hx hb d_OC_eveningsOf_1 rfl hl (by decide) rfl (fun ls hl => ?_)
  refine lv_iconst (v := 0) hx hb d_OC_eveningsOf_2 (by decide) ?_
  refine lv_istore_n (lv' := [(3, .int 0), (2, .int 0), (0, .ref (gad w 27)), (1, .int x1)]) hx hb d_OC_eveningsOf_3 rfl hl (by decide) rfl (fun ls hl => ?_)
  obtain ⟨z1, hz1, h⟩ := bnd_some h
  refine L_OC_eveningsOf_4 C _ _ FZ _ _ _ hz1 ?_ ls _ _ hG (lv_sub hl [2, 3, 1, 0] rfl)
  intro y2 y3 e9 ls H locs hG hl
  subst e9
  exact J32 _ h ls _ _ hG (lv_sub hl [0] rfl)
theorem d_OC_numberOwned_0 : decode b_OC_numberOwned 0 = .ok (.iconst 0, 1) := by decide +kernel
theorem d_OC_numberOwned_1 : decode b_OC_numberOwned 1 = .ok (.istore_n 1, 1) := by decide +kernel
theorem d_OC_numberOwned_2 : decode b_OC_numberOwned 2 = .ok (.iconst 0, 1) := by decide +kernel
theorem d_OC_numberOwned_3 : decode b_OC_numberOwned 3 = .ok (.istore_n 2, 1) := by decide +kernel
theorem d_OC_numberOwned_4 : decode b_OC_numberOwned 4 = .ok (.iload_n 2, 1) := by decide +kernel
theorem d_OC_numberOwned_5 : decode b_OC_numberOwned 5 = .ok (.bipush 10, 2) := by decide +kernel
theorem d_OC_numberOwned_7 : decode b_OC_numberOwned 7 = .ok (.if_icmp .ge 22, 3) := by decide +kernel
theorem d_OC_numberOwned_10 : decode b_OC_numberOwned 10 = .ok (.aload_n 0, 1) := by decide +kernel
theorem d_OC_numberOwned_11 : decode b_OC_numberOwned 11 = .ok (.getfield 15, 3) := by decide +kernel
theorem d_OC_numberOwned_14 : decode b_OC_numberOwned 14 = .ok (.iload_n 2, 1) := by decide +kernel
theorem d_OC_numberOwned_15 : decode b_OC_numberOwned 15 = .ok (.iaload, 1) := by decide +kernel
theorem d_OC_numberOwned_16 : decode b_OC_numberOwned 16 = .ok (.iconst (-1), 1) := by decide +kernel
theorem d_OC_numberOwned_17 : decode b_OC_numberOwned 17 = .ok (.if_icmp .eq 6, 3) := by decide +kernel
theorem d_OC_numberOwned_20 : decode b_OC_numberOwned 20 = .ok (.iinc 1 1, 3) := by decide +kernel
theorem d_OC_numberOwned_23 : decode b_OC_numberOwned 23 = .ok (.iinc 2 1, 3) := by decide +kernel
theorem d_OC_numberOwned_26 : decode b_OC_numberOwned 26 = .ok (.goto (-22), 3) := by decide +kernel
theorem d_OC_numberOwned_29 : decode b_OC_numberOwned 29 = .ok (.iload_n 1, 1) := by decide +kernel
theorem d_OC_numberOwned_30 : decode b_OC_numberOwned 30 = .ok (.ireturn, 1) := by decide +kernel
noncomputable def OC_numberOwned_L4 (S : St) (x1 : Int32) (x2 : Int32) : Option ((Int32 × Int32) × Nat) :=
  if 10 ≤ x2 then
      some ((x1, x2), 1)
    else
      chk (inb x2 10) <|
      if (S 29 (ix x2)) = (-1) then
        some ((x1, x2 + 1), 0)
      else
        some ((x1 + 1, x2 + 1), 0)
noncomputable def OC_numberOwned_J29 (S : St) (x1 : Int32) : Option (Int32) :=
  some x1
noncomputable def OC_numberOwned (S : St) : Option (Int32) :=
  bnd (lp (σ := Int32 × Int32) (fun q => OC_numberOwned_L4 S q.1 q.2) FZ (0, 0)) fun z1 =>
    OC_numberOwned_J29 S z1.1.1
set_option maxHeartbeats 4000000 in
set_option maxRecDepth 100000 in
theorem L_OC_numberOwned_4 (C : gCx p s m args meth c y_OC_numberOwned.cls b_OC_numberOwned 3 (some .int)) : ∀ (S : St) (n : Nat) (x1 : Int32) (x2 : Int32) (r : (Int32 × Int32) × Nat), lp (σ := Int32 × Int32) (fun q => OC_numberOwned_L4 S q.1 q.2) n (x1, x2) = some r → (∀ (y1 : Int32) (y2 : Int32), r = ((y1, y2), 1) → ∀ (ls : Array Slot) (H : Heap) (locs : List Loc), GH w s A S H locs → lv_has ls 3 [(1, .int y1)] → W p l e (rmm 0 0) s m args below meth c H locs 0 0 Q (F0 m 29 ls [])) → ∀ (ls : Array Slot) (H : Heap) (locs : List Loc), GH w s A S H locs → lv_has ls 3 [(0, .ref (gad w 27)), (1, .int x1), (2, .int x2)] → W p l e (rmm 0 0) s m args below meth c H locs 0 0 Q (F0 m 4 ls []) := by
  have hx := C.1
  have hb := C.2.1
  intro S n
  induction n with
  | zero => intro x1 x2 r h; cases h
  | succ n ih =>
    intro x1 x2 r h k1 ls H locs hG hl
    obtain ⟨z, h, hr⟩ := lp_succ h
    have h : OC_numberOwned_L4 S x1 x2 = some z := h
    unfold OC_numberOwned_L4 at h
    refine lv_iload_n hx hb d_OC_numberOwned_4 rfl (lv_at hl 2 rfl) ?_
    refine lv_bipush (v := 10) hx hb d_OC_numberOwned_5 (by decide) ?_
    refine lv_icmp_ge (tgt := 29) hx hb d_OC_numberOwned_7 (by decide) (fun hc => ?_) (fun hc => ?_)
    · replace h := it_t h hc
      exact k1 _ _ (lp_exit h hr) ls _ _ hG (lv_sub hl [1] rfl)
    · replace h := it_f h hc
      refine lv_aload_n hx hb d_OC_numberOwned_10 rfl (lv_at hl 0 rfl) ?_
      refine g_get C hG (hG.lt (Nat.le_of_ble_eq_true rfl)) (ce27 w _) rfl inC3 1 (Nat.le_of_ble_eq_true rfl) qw101 rfl d_OC_numberOwned_11 ?_
      refine lv_iload_n hx hb d_OC_numberOwned_14 rfl (lv_at hl 2 rfl) ?_
      obtain ⟨hi1, h⟩ := chk_some h
      refine g_iald (j := ix x2) C hG (hG.lt (Nat.le_of_ble_eq_true rfl)) (ce29 w _) (inb_in hi1) rfl d_OC_numberOwned_15 ?_
      refine lv_iconst (v := (-1)) hx hb d_OC_numberOwned_16 (by decide) ?_
      refine lv_icmp_eq (tgt := 23) hx hb d_OC_numberOwned_17 (by decide) (fun hc => ?_) (fun hc => ?_)
      · replace h := it_t h hc
        refine lv_iinc (v := x2 + 1) (lv' := [(2, .int (x2 + 1)), (0, .ref (gad w 27)), (1, .int x1)]) hx hb d_OC_numberOwned_23 hl (k := 2) rfl (congrArg (HAdd.hAdd x2) (by decide : Int32.ofInt 1 = 1)) (by decide) rfl (fun ls hl => ?_)
        refine lv_goto (tgt := 4) hx hb d_OC_numberOwned_26 (by decide) ?_
        exact ih _ _ _ (lp_back h hr) k1 ls _ _ hG (lv_sub hl [1, 2, 0] rfl)
      · replace h := it_f h hc
        refine lv_iinc (v := x1 + 1) (lv' := [(1, .int (x1 + 1)), (0, .ref (gad w 27)), (2, .int x2)]) hx hb d_OC_numberOwned_20 hl (k := 1) rfl (congrArg (HAdd.hAdd x1) (by decide : Int32.ofInt 1 = 1)) (by decide) rfl (fun ls hl => ?_)
        refine lv_iinc (v := x2 + 1) (lv' := [(2, .int (x2 + 1)), (1, .int (x1 + 1)), (0, .ref (gad w 27))]) hx hb d_OC_numberOwned_23 hl (k := 2) rfl (congrArg (HAdd.hAdd x2) (by decide : Int32.ofInt 1 = 1)) (by decide) rfl (fun ls hl => ?_)
        refine lv_goto (tgt := 4) hx hb d_OC_numberOwned_26 (by decide) ?_
        exact ih _ _ _ (lp_back h hr) k1 ls _ _ hG (lv_sub hl [2, 1, 0] rfl)
set_option maxHeartbeats 4000000 in
set_option maxRecDepth 100000 in
theorem c_OC_numberOwned (l : Launch) (w : gw) (S : St)   {z : Int32} (h : (OC_numberOwned S) = some z) : gMi l w y_OC_numberOwned b_OC_numberOwned 3 (some .int) (rmm 0 0) [.ref (gad w 27)] S z S := by
  unfold OC_numberOwned at h
  refine g_met (Qc := gQi w z S) (by decide +kernel) (Nat.le_of_ble_eq_true rfl) ?_
  intro p e s m args below meth c A Q ls hQ C hG hl
  have hx := C.1
  have hb := C.2.1
  have hl : lv_has ls 3 [(0, .ref (gad w 27))] := hl
  have J29 : ∀ (x1 : Int32), OC_numberOwned_J29 S x1 = some z → ∀ (ls : Array Slot) (H : Heap) (locs : List Loc), GH w s A S H locs → lv_has ls 3 [(1, .int x1)] → W p l e (rmm 0 0) s m args below meth c H locs 0 0 Q (F0 m 29 ls []) := by
    intro x1 h ls H locs hG hl
    unfold OC_numberOwned_J29 at h
    refine lv_iload_n hx hb d_OC_numberOwned_29 rfl (lv_at hl 0 rfl) ?_
    exact g_iret C hG (Option.some.inj h) rfl hQ d_OC_numberOwned_30
  refine lv_iconst (v := 0) hx hb d_OC_numberOwned_0 (by decide) ?_
  refine lv_istore_n (lv' := [(1, .int 0), (0, .ref (gad w 27))]) hx hb d_OC_numberOwned_1 rfl hl (by decide) rfl (fun ls hl => ?_)
  refine lv_iconst (v := 0) hx hb d_OC_numberOwned_2 (by decide) ?_
  refine lv_istore_n (lv' := [(2, .int 0), (1, .int 0), (0, .ref (gad w 27))]) hx hb d_OC_numberOwned_3 rfl hl (by decide) rfl (fun ls hl => ?_)
  obtain ⟨z1, hz1, h⟩ := bnd_some h
  refine L_OC_numberOwned_4 C _ FZ _ _ _ hz1 ?_ ls _ _ hG (lv_sub hl [2, 1, 0] rfl)
  intro y1 y2 e9 ls H locs hG hl
  subst e9
  exact J29 _ h ls _ _ hG (lv_sub hl [0] rfl)
theorem d_OC_costToMeet_0 : decode b_OC_costToMeet 0 = .ok (.aload_n 0, 1) := by decide +kernel
theorem d_OC_costToMeet_1 : decode b_OC_costToMeet 1 = .ok (.getfield 15, 3) := by decide +kernel
theorem d_OC_costToMeet_4 : decode b_OC_costToMeet 4 = .ok (.iload_n 3, 1) := by decide +kernel
theorem d_OC_costToMeet_5 : decode b_OC_costToMeet 5 = .ok (.iaload, 1) := by decide +kernel
theorem d_OC_costToMeet_6 : decode b_OC_costToMeet 6 = .ok (.istore 4, 2) := by decide +kernel
theorem d_OC_costToMeet_8 : decode b_OC_costToMeet 8 = .ok (.iload 4, 2) := by decide +kernel
theorem d_OC_costToMeet_10 : decode b_OC_costToMeet 10 = .ok (.iconst (-1), 1) := by decide +kernel
theorem d_OC_costToMeet_11 : decode b_OC_costToMeet 11 = .ok (.if_icmp .ne 14, 3) := by decide +kernel
theorem d_OC_costToMeet_14 : decode b_OC_costToMeet 14 = .ok (.aload_n 1, 1) := by decide +kernel
theorem d_OC_costToMeet_15 : decode b_OC_costToMeet 15 = .ok (.getfield 64, 3) := by decide +kernel
theorem d_OC_costToMeet_18 : decode b_OC_costToMeet 18 = .ok (.iload_n 3, 1) := by decide +kernel
theorem d_OC_costToMeet_19 : decode b_OC_costToMeet 19 = .ok (.iaload, 1) := by decide +kernel
theorem d_OC_costToMeet_20 : decode b_OC_costToMeet 20 = .ok (.iconst 1, 1) := by decide +kernel
theorem d_OC_costToMeet_21 : decode b_OC_costToMeet 21 = .ok (.invokestatic 75, 3) := by decide +kernel
theorem d_OC_costToMeet_24 : decode b_OC_costToMeet 24 = .ok (.ireturn, 1) := by decide +kernel
theorem d_OC_costToMeet_25 : decode b_OC_costToMeet 25 = .ok (.iload_n 2, 1) := by decide +kernel
theorem d_OC_costToMeet_26 : decode b_OC_costToMeet 26 = .ok (.iload 4, 2) := by decide +kernel
theorem d_OC_costToMeet_28 : decode b_OC_costToMeet 28 = .ok (.ishr, 1) := by decide +kernel
theorem d_OC_costToMeet_29 : decode b_OC_costToMeet 29 = .ok (.iconst 1, 1) := by decide +kernel
theorem d_OC_costToMeet_30 : decode b_OC_costToMeet 30 = .ok (.iand, 1) := by decide +kernel
theorem d_OC_costToMeet_31 : decode b_OC_costToMeet 31 = .ok (.iconst 1, 1) := by decide +kernel
theorem d_OC_costToMeet_32 : decode b_OC_costToMeet 32 = .ok (.if_icmp .ne 7, 3) := by decide +kernel
theorem d_OC_costToMeet_35 : decode b_OC_costToMeet 35 = .ok (.iconst 1, 1) := by decide +kernel
theorem d_OC_costToMeet_36 : decode b_OC_costToMeet 36 = .ok (.goto 4, 3) := by decide +kernel
theorem d_OC_costToMeet_39 : decode b_OC_costToMeet 39 = .ok (.iconst 0, 1) := by decide +kernel
theorem d_OC_costToMeet_40 : decode b_OC_costToMeet 40 = .ok (.istore 5, 2) := by decide +kernel
theorem d_OC_costToMeet_42 : decode b_OC_costToMeet 42 = .ok (.iload 5, 2) := by decide +kernel
theorem d_OC_costToMeet_44 : decode b_OC_costToMeet 44 = .ok (.ifCond .eq 7, 3) := by decide +kernel
theorem d_OC_costToMeet_47 : decode b_OC_costToMeet 47 = .ok (.iconst 0, 1) := by decide +kernel
theorem d_OC_costToMeet_48 : decode b_OC_costToMeet 48 = .ok (.goto 16, 3) := by decide +kernel
theorem d_OC_costToMeet_51 : decode b_OC_costToMeet 51 = .ok (.aload_n 0, 1) := by decide +kernel
theorem d_OC_costToMeet_52 : decode b_OC_costToMeet 52 = .ok (.getfield 19, 3) := by decide +kernel
theorem d_OC_costToMeet_55 : decode b_OC_costToMeet 55 = .ok (.iload_n 3, 1) := by decide +kernel
theorem d_OC_costToMeet_56 : decode b_OC_costToMeet 56 = .ok (.iaload, 1) := by decide +kernel
theorem d_OC_costToMeet_57 : decode b_OC_costToMeet 57 = .ok (.aload_n 1, 1) := by decide +kernel
theorem d_OC_costToMeet_58 : decode b_OC_costToMeet 58 = .ok (.getfield 69, 3) := by decide +kernel
theorem d_OC_costToMeet_61 : decode b_OC_costToMeet 61 = .ok (.iconst 0, 1) := by decide +kernel
theorem d_OC_costToMeet_62 : decode b_OC_costToMeet 62 = .ok (.iaload, 1) := by decide +kernel
theorem d_OC_costToMeet_63 : decode b_OC_costToMeet 63 = .ok (.iadd, 1) := by decide +kernel
theorem d_OC_costToMeet_64 : decode b_OC_costToMeet 64 = .ok (.ireturn, 1) := by decide +kernel
noncomputable def OC_costToMeet_J40 (S : St) (x3 : Int32) (t0 : Int32) : Option (Int32) :=
  if t0 = 0 then
      chk (inb x3 10) <|
      some ((S 30 (ix x3)) + (S 24 0))
    else
      some 0
noncomputable def OC_costToMeet (S : St) (x2 : Int32) (x3 : Int32) : Option (Int32) :=
  chk (inb x3 10) <|
    if (S 29 (ix x3)) = (-1) then
      chk (inb x3 10) <|
      some (mx (S 22 (ix x3)) 1)
    else
      if ((x2 >>> ((S 29 (ix x3)) &&& 31)) &&& 1) = 1 then
        OC_costToMeet_J40 S x3 1
      else
        OC_costToMeet_J40 S x3 0
set_option maxHeartbeats 4000000 in
set_option maxRecDepth 100000 in
theorem c_OC_costToMeet (l : Launch) (w : gw) (S : St) (x2 : Int32) (x3 : Int32)  {z : Int32} (h : (OC_costToMeet S x2 x3) = some z) : gMi l w y_OC_costToMeet b_OC_costToMeet 6 (some .int) (rmm 1 21) [.ref (gad w 27), .ref (gad w 1), .int x2, .int x3] S z S := by
  unfold OC_costToMeet at h
  refine g_met (Qc := gQi w z S) (by decide +kernel) (Nat.le_of_ble_eq_true rfl) ?_
  intro p e s m args below meth c A Q ls hQ C hG hl
  have hx := C.1
  have hb := C.2.1
  have hl : lv_has ls 6 [(0, .ref (gad w 27)), (1, .ref (gad w 1)), (2, .int x2), (3, .int x3)] := hl
  have J40 : ∀ (t0 : Int32), OC_costToMeet_J40 S x3 t0 = some z → ∀ (ls : Array Slot) (H : Heap) (locs : List Loc), GH w s A S H locs → lv_has ls 6 [(0, .ref (gad w 27)), (1, .ref (gad w 1)), (3, .int x3)] → W p l e (rmm 1 21) s m args below meth c H locs 0 0 Q (F0 m 40 ls [.int t0]) := by
    intro t0 h ls H locs hG hl
    unfold OC_costToMeet_J40 at h
    refine lv_istore (lv' := [(5, .int t0), (0, .ref (gad w 27)), (1, .ref (gad w 1)), (3, .int x3)]) hx hb d_OC_costToMeet_40 hl (by decide) rfl (fun ls hl => ?_)
    refine lv_iload hx hb d_OC_costToMeet_42 (lv_at hl 0 rfl) ?_
    refine lv_if_eq (tgt := 51) hx hb d_OC_costToMeet_44 (by decide) (fun hc => ?_) (fun hc => ?_)
    · replace h := it_t h hc
      refine lv_aload_n hx hb d_OC_costToMeet_51 rfl (lv_at hl 1 rfl) ?_
      refine g_get C hG (hG.lt (Nat.le_of_ble_eq_true rfl)) (ce27 w _) rfl inC3 2 (Nat.le_of_ble_eq_true rfl) qw103 rfl d_OC_costToMeet_52 ?_
      refine lv_iload_n hx hb d_OC_costToMeet_55 rfl (lv_at hl 3 rfl) ?_
      obtain ⟨hi1, h⟩ := chk_some h
      refine g_iald (j := ix x3) C hG (hG.lt (Nat.le_of_ble_eq_true rfl)) (ce30 w _) (inb_in hi1) rfl d_OC_costToMeet_56 ?_
      refine lv_aload_n hx hb d_OC_costToMeet_57 rfl (lv_at hl 2 rfl) ?_
      refine g_get C hG (hG.lt (Nat.le_of_ble_eq_true rfl)) (ce1 w _) rfl inC6 7 (Nat.le_of_ble_eq_true rfl) qw50 rfl d_OC_costToMeet_58 ?_
      refine lv_iconst (v := 0) hx hb d_OC_costToMeet_61 (by decide) ?_
      refine g_iald (j := 0) C hG (hG.lt (Nat.le_of_ble_eq_true rfl)) (ce24 w _) (inb_in (by decide)) rfl d_OC_costToMeet_62 ?_
      refine lv_iadd hx hb d_OC_costToMeet_63 ?_
      exact g_iret C hG (Option.some.inj h) rfl hQ d_OC_costToMeet_64
    · replace h := it_f h hc
      refine lv_iconst (v := 0) hx hb d_OC_costToMeet_47 (by decide) ?_
      refine lv_goto (tgt := 64) hx hb d_OC_costToMeet_48 (by decide) ?_
      exact g_iret C hG (Option.some.inj h) rfl hQ d_OC_costToMeet_64
  refine lv_aload_n hx hb d_OC_costToMeet_0 rfl (lv_at hl 0 rfl) ?_
  refine g_get C hG (hG.lt (Nat.le_of_ble_eq_true rfl)) (ce27 w _) rfl inC3 1 (Nat.le_of_ble_eq_true rfl) qw101 rfl d_OC_costToMeet_1 ?_
  refine lv_iload_n hx hb d_OC_costToMeet_4 rfl (lv_at hl 3 rfl) ?_
  obtain ⟨hi2, h⟩ := chk_some h
  refine g_iald (j := ix x3) C hG (hG.lt (Nat.le_of_ble_eq_true rfl)) (ce29 w _) (inb_in hi2) rfl d_OC_costToMeet_5 ?_
  refine lv_istore (lv' := [(4, .int (S 29 (ix x3))), (0, .ref (gad w 27)), (1, .ref (gad w 1)), (2, .int x2), (3, .int x3)]) hx hb d_OC_costToMeet_6 hl (by decide) rfl (fun ls hl => ?_)
  refine lv_iload hx hb d_OC_costToMeet_8 (lv_at hl 0 rfl) ?_
  refine lv_iconst (v := (-1)) hx hb d_OC_costToMeet_10 (by decide) ?_
  refine lv_icmp_ne (tgt := 25) hx hb d_OC_costToMeet_11 (by decide) (fun hc => ?_) (fun hc => ?_)
  · replace h := it_f h hc
    refine lv_iload_n hx hb d_OC_costToMeet_25 rfl (lv_at hl 3 rfl) ?_
    refine lv_iload hx hb d_OC_costToMeet_26 (lv_at hl 0 rfl) ?_
    refine lv_ishr hx hb d_OC_costToMeet_28 ?_
    refine lv_iconst (v := 1) hx hb d_OC_costToMeet_29 (by decide) ?_
    refine lv_iand hx hb d_OC_costToMeet_30 ?_
    refine lv_iconst (v := 1) hx hb d_OC_costToMeet_31 (by decide) ?_
    refine lv_icmp_ne (tgt := 39) hx hb d_OC_costToMeet_32 (by decide) (fun hc => ?_) (fun hc => ?_)
    · replace h := it_f h hc
      refine lv_iconst (v := 0) hx hb d_OC_costToMeet_39 (by decide) ?_
      exact J40 _ h ls _ _ hG (lv_sub hl [1, 2, 4] rfl)
    · replace h := it_t h hc
      refine lv_iconst (v := 1) hx hb d_OC_costToMeet_35 (by decide) ?_
      refine lv_goto (tgt := 40) hx hb d_OC_costToMeet_36 (by decide) ?_
      exact J40 _ h ls _ _ hG (lv_sub hl [1, 2, 4] rfl)
  · replace h := it_t h hc
    refine lv_aload_n hx hb d_OC_costToMeet_14 rfl (lv_at hl 2 rfl) ?_
    refine g_get C hG (hG.lt (Nat.le_of_ble_eq_true rfl)) (ce1 w _) rfl inC6 5 (Nat.le_of_ble_eq_true rfl) qw44 rfl d_OC_costToMeet_15 ?_
    refine lv_iload_n hx hb d_OC_costToMeet_18 rfl (lv_at hl 4 rfl) ?_
    obtain ⟨hi3, h⟩ := chk_some h
    refine g_iald (j := ix x3) C hG (hG.lt (Nat.le_of_ble_eq_true rfl)) (ce22 w _) (inb_in hi3) rfl d_OC_costToMeet_19 ?_
    refine lv_iconst (v := 1) hx hb d_OC_costToMeet_20 (by decide) ?_
    refine g_max C hl.1 qw376 ⟨by decide, by decide⟩ (Nat.le_of_ble_eq_true rfl) ⟨Nat.zero_le _, Nat.zero_le _⟩ d_OC_costToMeet_21 ?_
    exact g_iret C hG (Option.some.inj h) rfl hQ d_OC_costToMeet_24
