variable {p : Program} {l : Launch} {e : Env} {s : State} {m : MethodId} {args : Array Value} {below : List Frame} {meth : Method} {c : Code} {A : Nat → Prop} {Q : State → Prop} {w : gw} {S : St}
theorem d_SH_hasItems_0 : decode b_SH_hasItems 0 = .ok (.iload_n 1, 1) := by decide +kernel
theorem d_SH_hasItems_1 : decode b_SH_hasItems 1 = .ok (.ifCond .lt 31, 3) := by decide +kernel
theorem d_SH_hasItems_4 : decode b_SH_hasItems 4 = .ok (.iload_n 2, 1) := by decide +kernel
theorem d_SH_hasItems_5 : decode b_SH_hasItems 5 = .ok (.ifCond .lt 27, 3) := by decide +kernel
theorem d_SH_hasItems_8 : decode b_SH_hasItems 8 = .ok (.iload_n 2, 1) := by decide +kernel
theorem d_SH_hasItems_9 : decode b_SH_hasItems 9 = .ok (.aload_n 0, 1) := by decide +kernel
theorem d_SH_hasItems_10 : decode b_SH_hasItems 10 = .ok (.getfield 15, 3) := by decide +kernel
theorem d_SH_hasItems_13 : decode b_SH_hasItems 13 = .ok (.arraylength, 1) := by decide +kernel
theorem d_SH_hasItems_14 : decode b_SH_hasItems 14 = .ok (.if_icmp .gt 18, 3) := by decide +kernel
theorem d_SH_hasItems_17 : decode b_SH_hasItems 17 = .ok (.iload_n 1, 1) := by decide +kernel
theorem d_SH_hasItems_18 : decode b_SH_hasItems 18 = .ok (.aload_n 0, 1) := by decide +kernel
theorem d_SH_hasItems_19 : decode b_SH_hasItems 19 = .ok (.getfield 15, 3) := by decide +kernel
theorem d_SH_hasItems_22 : decode b_SH_hasItems 22 = .ok (.arraylength, 1) := by decide +kernel
theorem d_SH_hasItems_23 : decode b_SH_hasItems 23 = .ok (.iload_n 2, 1) := by decide +kernel
theorem d_SH_hasItems_24 : decode b_SH_hasItems 24 = .ok (.isub, 1) := by decide +kernel
theorem d_SH_hasItems_25 : decode b_SH_hasItems 25 = .ok (.if_icmp .gt 7, 3) := by decide +kernel
theorem d_SH_hasItems_28 : decode b_SH_hasItems 28 = .ok (.iconst 1, 1) := by decide +kernel
theorem d_SH_hasItems_29 : decode b_SH_hasItems 29 = .ok (.goto 4, 3) := by decide +kernel
theorem d_SH_hasItems_32 : decode b_SH_hasItems 32 = .ok (.iconst 0, 1) := by decide +kernel
theorem d_SH_hasItems_33 : decode b_SH_hasItems 33 = .ok (.ireturn, 1) := by decide +kernel
noncomputable def SH_hasItems (w : gw) (S : St) (a0 : Nat) (x1 : Int32) (x2 : Int32) : Option (Int32) :=
  if x1 < 0 then
      some 0
    else
      if x2 < 0 then
        some 0
      else
        if (Int32.ofNat (gln w (a0 + 1))) < x2 then
          some 0
        else
          if ((Int32.ofNat (gln w (a0 + 1))) - x2) < x1 then
            some 0
          else
            some 1
set_option maxHeartbeats 4000000 in
set_option maxRecDepth 100000 in
theorem c_SH_hasItems (l : Launch) (w : gw) (S : St) (a0 : Nat) (x1 : Int32) (x2 : Int32) (ha0 : shO w a0) {z : Int32} (h : (SH_hasItems w S a0 x1 x2) = some z) : gMi l w y_SH_hasItems b_SH_hasItems 3 (some .boolean) (rmm 0 0) [.ref (gad w a0), .int x1, .int x2] S z S := by
  unfold SH_hasItems at h
  refine g_met (Qc := gQi w z S) (by decide +kernel) (Nat.le_of_ble_eq_true rfl) ?_
  intro p e s m args below meth c A Q ls hQ C hG hl
  have hx := C.1
  have hb := C.2.1
  have hl : lv_has ls 3 [(0, .ref (gad w a0)), (1, .int x1), (2, .int x2)] := hl
  refine lv_iload_n hx hb d_SH_hasItems_0 rfl (lv_at hl 1 rfl) ?_
  refine lv_if_lt (tgt := 32) hx hb d_SH_hasItems_1 (by decide) (fun hc => ?_) (fun hc => ?_)
  · replace h := it_t h hc
    refine lv_iconst (v := 0) hx hb d_SH_hasItems_32 (by decide) ?_
    exact g_zret C hG (Or.inl rfl) (Option.some.inj h) rfl hQ d_SH_hasItems_33
  · replace h := it_f h hc
    refine lv_iload_n hx hb d_SH_hasItems_4 rfl (lv_at hl 2 rfl) ?_
    refine lv_if_lt (tgt := 32) hx hb d_SH_hasItems_5 (by decide) (fun hc => ?_) (fun hc => ?_)
    · replace h := it_t h hc
      refine lv_iconst (v := 0) hx hb d_SH_hasItems_32 (by decide) ?_
      exact g_zret C hG (Or.inl rfl) (Option.some.inj h) rfl hQ d_SH_hasItems_33
    · replace h := it_f h hc
      refine lv_iload_n hx hb d_SH_hasItems_8 rfl (lv_at hl 2 rfl) ?_
      refine lv_aload_n hx hb d_SH_hasItems_9 rfl (lv_at hl 0 rfl) ?_
      refine g_get C hG ha0.lt (ha0.obj _) rfl inC4 1 (Nat.le_of_ble_eq_true rfl) qw577 rfl d_SH_hasItems_10 ?_
      refine g_alen (v := Int32.ofNat (gln w (a0 + 1))) C hG ha0.2.2 (ha0.arr _) rfl d_SH_hasItems_13 ?_
      refine lv_icmp_gt (tgt := 32) hx hb d_SH_hasItems_14 (by decide) (fun hc => ?_) (fun hc => ?_)
      · replace h := it_t h hc
        refine lv_iconst (v := 0) hx hb d_SH_hasItems_32 (by decide) ?_
        exact g_zret C hG (Or.inl rfl) (Option.some.inj h) rfl hQ d_SH_hasItems_33
      · replace h := it_f h hc
        refine lv_iload_n hx hb d_SH_hasItems_17 rfl (lv_at hl 1 rfl) ?_
        refine lv_aload_n hx hb d_SH_hasItems_18 rfl (lv_at hl 0 rfl) ?_
        refine g_get C hG ha0.lt (ha0.obj _) rfl inC4 1 (Nat.le_of_ble_eq_true rfl) qw577 rfl d_SH_hasItems_19 ?_
        refine g_alen (v := Int32.ofNat (gln w (a0 + 1))) C hG ha0.2.2 (ha0.arr _) rfl d_SH_hasItems_22 ?_
        refine lv_iload_n hx hb d_SH_hasItems_23 rfl (lv_at hl 2 rfl) ?_
        refine lv_isub hx hb d_SH_hasItems_24 ?_
        refine lv_icmp_gt (tgt := 32) hx hb d_SH_hasItems_25 (by decide) (fun hc => ?_) (fun hc => ?_)
        · replace h := it_t h hc
          refine lv_iconst (v := 0) hx hb d_SH_hasItems_32 (by decide) ?_
          exact g_zret C hG (Or.inl rfl) (Option.some.inj h) rfl hQ d_SH_hasItems_33
        · replace h := it_f h hc
          refine lv_iconst (v := 1) hx hb d_SH_hasItems_28 (by decide) ?_
          refine lv_goto (tgt := 33) hx hb d_SH_hasItems_29 (by decide) ?_
          exact g_zret C hG (Or.inr rfl) (Option.some.inj h) rfl hQ d_SH_hasItems_33
theorem d_SH_put_0 : decode b_SH_put 0 = .ok (.aload_n 0, 1) := by decide +kernel
theorem d_SH_put_1 : decode b_SH_put 1 = .ok (.getfield 9, 3) := by decide +kernel
theorem d_SH_put_4 : decode b_SH_put 4 = .ok (.ifCond .ne 14, 3) := by decide +kernel
theorem d_SH_put_7 : decode b_SH_put 7 = .ok (.aload_n 0, 1) := by decide +kernel
theorem d_SH_put_8 : decode b_SH_put 8 = .ok (.getfield 15, 3) := by decide +kernel
theorem d_SH_put_11 : decode b_SH_put 11 = .ok (.iload_n 1, 1) := by decide +kernel
theorem d_SH_put_12 : decode b_SH_put 12 = .ok (.iload_n 2, 1) := by decide +kernel
theorem d_SH_put_13 : decode b_SH_put 13 = .ok (.i2b, 1) := by decide +kernel
theorem d_SH_put_14 : decode b_SH_put 14 = .ok (.iastore, 1) := by decide +kernel
theorem d_SH_put_15 : decode b_SH_put 15 = .ok (.goto 29, 3) := by decide +kernel
theorem d_SH_put_18 : decode b_SH_put 18 = .ok (.aload_n 0, 1) := by decide +kernel
theorem d_SH_put_19 : decode b_SH_put 19 = .ok (.getfield 9, 3) := by decide +kernel
theorem d_SH_put_22 : decode b_SH_put 22 = .ok (.iconst 1, 1) := by decide +kernel
theorem d_SH_put_23 : decode b_SH_put 23 = .ok (.if_icmp .ne 14, 3) := by decide +kernel
theorem d_SH_put_26 : decode b_SH_put 26 = .ok (.aload_n 0, 1) := by decide +kernel
theorem d_SH_put_27 : decode b_SH_put 27 = .ok (.getfield 15, 3) := by decide +kernel
theorem d_SH_put_30 : decode b_SH_put 30 = .ok (.iload_n 1, 1) := by decide +kernel
theorem d_SH_put_31 : decode b_SH_put 31 = .ok (.iload_n 2, 1) := by decide +kernel
theorem d_SH_put_32 : decode b_SH_put 32 = .ok (.i2s, 1) := by decide +kernel
theorem d_SH_put_33 : decode b_SH_put 33 = .ok (.iastore, 1) := by decide +kernel
theorem d_SH_put_34 : decode b_SH_put 34 = .ok (.goto 10, 3) := by decide +kernel
theorem d_SH_put_37 : decode b_SH_put 37 = .ok (.aload_n 0, 1) := by decide +kernel
theorem d_SH_put_38 : decode b_SH_put 38 = .ok (.getfield 15, 3) := by decide +kernel
theorem d_SH_put_41 : decode b_SH_put 41 = .ok (.iload_n 1, 1) := by decide +kernel
theorem d_SH_put_42 : decode b_SH_put 42 = .ok (.iload_n 2, 1) := by decide +kernel
theorem d_SH_put_43 : decode b_SH_put 43 = .ok (.iastore, 1) := by decide +kernel
theorem d_SH_put_44 : decode b_SH_put 44 = .ok (.return_, 1) := by decide +kernel
noncomputable def SH_put (w : gw) (S : St) (a0 : Nat) (x1 : Int32) (x2 : Int32) : Option (St) :=
  if (S a0 0) = 0 then
      chk (inb x1 (gln w (a0 + 1))) <|
      some (up S (a0 + 1) (ix x1) x2.toInt8.toInt32)
    else
      if (S a0 0) = 1 then
        chk (inb x1 (gln w (a0 + 1))) <|
        some (up S (a0 + 1) (ix x1) x2.toInt16.toInt32)
      else
        chk (inb x1 (gln w (a0 + 1))) <|
        some (up S (a0 + 1) (ix x1) x2)
set_option maxHeartbeats 4000000 in
set_option maxRecDepth 100000 in
theorem c_SH_put (l : Launch) (w : gw) (S : St) (a0 : Nat) (x1 : Int32) (x2 : Int32) (ha0 : shO w a0) {z : St} (h : (SH_put w S a0 x1 x2) = some z) : gMv l w y_SH_put b_SH_put 3 none (rmm 0 0) [.ref (gad w a0), .int x1, .int x2] S z := by
  unfold SH_put at h
  refine g_met (Qc := gQv w z) (by decide +kernel) (Nat.le_of_ble_eq_true rfl) ?_
  intro p e s m args below meth c A Q ls hQ C hG hl
  have hx := C.1
  have hb := C.2.1
  have hl : lv_has ls 3 [(0, .ref (gad w a0)), (1, .int x1), (2, .int x2)] := hl
  refine lv_aload_n hx hb d_SH_put_0 rfl (lv_at hl 0 rfl) ?_
  refine g_get C hG ha0.lt (ha0.obj _) rfl inC4 0 (Nat.le_of_ble_eq_true rfl) qw575 rfl d_SH_put_1 ?_
  refine lv_if_ne (tgt := 18) hx hb d_SH_put_4 (by decide) (fun hc => ?_) (fun hc => ?_)
  · replace h := it_f h hc
    refine lv_aload_n hx hb d_SH_put_18 rfl (lv_at hl 0 rfl) ?_
    refine g_get C hG ha0.lt (ha0.obj _) rfl inC4 0 (Nat.le_of_ble_eq_true rfl) qw575 rfl d_SH_put_19 ?_
    refine lv_iconst (v := 1) hx hb d_SH_put_22 (by decide) ?_
    refine lv_icmp_ne (tgt := 37) hx hb d_SH_put_23 (by decide) (fun hc => ?_) (fun hc => ?_)
    · replace h := it_f h hc
      refine lv_aload_n hx hb d_SH_put_37 rfl (lv_at hl 0 rfl) ?_
      refine g_get C hG ha0.lt (ha0.obj _) rfl inC4 1 (Nat.le_of_ble_eq_true rfl) qw577 rfl d_SH_put_38 ?_
      refine lv_iload_n hx hb d_SH_put_41 rfl (lv_at hl 1 rfl) ?_
      refine lv_iload_n hx hb d_SH_put_42 rfl (lv_at hl 2 rfl) ?_
      obtain ⟨hi1, h⟩ := chk_some h
      refine g_iast (j := ix x1) (x := x2) C hG ha0.2.2 ha0.arr (inb_in hi1) rfl d_SH_put_43 (fun H locs hG => ?_)
      exact g_vret C hG (Option.some.inj h) hQ d_SH_put_44
    · replace h := it_t h hc
      refine lv_aload_n hx hb d_SH_put_26 rfl (lv_at hl 0 rfl) ?_
      refine g_get C hG ha0.lt (ha0.obj _) rfl inC4 1 (Nat.le_of_ble_eq_true rfl) qw577 rfl d_SH_put_27 ?_
      refine lv_iload_n hx hb d_SH_put_30 rfl (lv_at hl 1 rfl) ?_
      refine lv_iload_n hx hb d_SH_put_31 rfl (lv_at hl 2 rfl) ?_
      refine lv_i2s (v := x2.toInt16.toInt32) hx hb d_SH_put_32 rfl ?_
      obtain ⟨hi2, h⟩ := chk_some h
      refine g_iast (j := ix x1) (x := x2.toInt16.toInt32) C hG ha0.2.2 ha0.arr (inb_in hi2) rfl d_SH_put_33 (fun H locs hG => ?_)
      refine lv_goto (tgt := 44) hx hb d_SH_put_34 (by decide) ?_
      exact g_vret C hG (Option.some.inj h) hQ d_SH_put_44
  · replace h := it_t h hc
    refine lv_aload_n hx hb d_SH_put_7 rfl (lv_at hl 0 rfl) ?_
    refine g_get C hG ha0.lt (ha0.obj _) rfl inC4 1 (Nat.le_of_ble_eq_true rfl) qw577 rfl d_SH_put_8 ?_
    refine lv_iload_n hx hb d_SH_put_11 rfl (lv_at hl 1 rfl) ?_
    refine lv_iload_n hx hb d_SH_put_12 rfl (lv_at hl 2 rfl) ?_
    refine lv_i2b (v := x2.toInt8.toInt32) hx hb d_SH_put_13 rfl ?_
    obtain ⟨hi3, h⟩ := chk_some h
    refine g_iast (j := ix x1) (x := x2.toInt8.toInt32) C hG ha0.2.2 ha0.arr (inb_in hi3) rfl d_SH_put_14 (fun H locs hG => ?_)
    refine lv_goto (tgt := 44) hx hb d_SH_put_15 (by decide) ?_
    exact g_vret C hG (Option.some.inj h) hQ d_SH_put_44
theorem d_SH_sumOf_0 : decode b_SH_sumOf 0 = .ok (.lconst 0, 1) := by decide +kernel
theorem d_SH_sumOf_1 : decode b_SH_sumOf 1 = .ok (.lstore_n 2, 1) := by decide +kernel
theorem d_SH_sumOf_2 : decode b_SH_sumOf 2 = .ok (.iconst 0, 1) := by decide +kernel
theorem d_SH_sumOf_3 : decode b_SH_sumOf 3 = .ok (.istore 4, 2) := by decide +kernel
theorem d_SH_sumOf_5 : decode b_SH_sumOf 5 = .ok (.iload 4, 2) := by decide +kernel
theorem d_SH_sumOf_7 : decode b_SH_sumOf 7 = .ok (.iconst 5, 1) := by decide +kernel
theorem d_SH_sumOf_8 : decode b_SH_sumOf 8 = .ok (.if_icmp .ge 40, 3) := by decide +kernel
theorem d_SH_sumOf_11 : decode b_SH_sumOf 11 = .ok (.iload 4, 2) := by decide +kernel
theorem d_SH_sumOf_13 : decode b_SH_sumOf 13 = .ok (.aload_n 0, 1) := by decide +kernel
theorem d_SH_sumOf_14 : decode b_SH_sumOf 14 = .ok (.getfield 15, 3) := by decide +kernel
theorem d_SH_sumOf_17 : decode b_SH_sumOf 17 = .ok (.arraylength, 1) := by decide +kernel
theorem d_SH_sumOf_18 : decode b_SH_sumOf 18 = .ok (.if_icmp .ge 30, 3) := by decide +kernel
theorem d_SH_sumOf_21 : decode b_SH_sumOf 21 = .ok (.iload_n 1, 1) := by decide +kernel
theorem d_SH_sumOf_22 : decode b_SH_sumOf 22 = .ok (.iload 4, 2) := by decide +kernel
theorem d_SH_sumOf_24 : decode b_SH_sumOf 24 = .ok (.ishr, 1) := by decide +kernel
theorem d_SH_sumOf_25 : decode b_SH_sumOf 25 = .ok (.iconst 1, 1) := by decide +kernel
theorem d_SH_sumOf_26 : decode b_SH_sumOf 26 = .ok (.iand, 1) := by decide +kernel
theorem d_SH_sumOf_27 : decode b_SH_sumOf 27 = .ok (.iconst 1, 1) := by decide +kernel
theorem d_SH_sumOf_28 : decode b_SH_sumOf 28 = .ok (.if_icmp .ne 14, 3) := by decide +kernel
theorem d_SH_sumOf_31 : decode b_SH_sumOf 31 = .ok (.lload_n 2, 1) := by decide +kernel
theorem d_SH_sumOf_32 : decode b_SH_sumOf 32 = .ok (.aload_n 0, 1) := by decide +kernel
theorem d_SH_sumOf_33 : decode b_SH_sumOf 33 = .ok (.getfield 15, 3) := by decide +kernel
theorem d_SH_sumOf_36 : decode b_SH_sumOf 36 = .ok (.iload 4, 2) := by decide +kernel
theorem d_SH_sumOf_38 : decode b_SH_sumOf 38 = .ok (.iaload, 1) := by decide +kernel
theorem d_SH_sumOf_39 : decode b_SH_sumOf 39 = .ok (.i2l, 1) := by decide +kernel
theorem d_SH_sumOf_40 : decode b_SH_sumOf 40 = .ok (.ladd, 1) := by decide +kernel
theorem d_SH_sumOf_41 : decode b_SH_sumOf 41 = .ok (.lstore_n 2, 1) := by decide +kernel
theorem d_SH_sumOf_42 : decode b_SH_sumOf 42 = .ok (.iinc 4 1, 3) := by decide +kernel
theorem d_SH_sumOf_45 : decode b_SH_sumOf 45 = .ok (.goto (-40), 3) := by decide +kernel
theorem d_SH_sumOf_48 : decode b_SH_sumOf 48 = .ok (.lload_n 2, 1) := by decide +kernel
theorem d_SH_sumOf_49 : decode b_SH_sumOf 49 = .ok (.lreturn, 1) := by decide +kernel
noncomputable def SH_sumOf_L5 (w : gw) (S : St) (a0 : Nat) (x1 : Int32) (x2 : Int64) (x4 : Int32) : Option ((Int64 × Int32) × Nat) :=
  if 5 ≤ x4 then
      some ((x2, x4), 1)
    else
      if (Int32.ofNat (gln w (a0 + 1))) ≤ x4 then
        some ((x2, x4), 1)
      else
        if ((x1 >>> (x4 &&& 31)) &&& 1) = 1 then
          chk (inb x4 (gln w (a0 + 1))) <|
          some ((x2 + ((S (a0 + 1) (ix x4)).toInt64), x4 + 1), 0)
        else
          some ((x2, x4 + 1), 0)
noncomputable def SH_sumOf_J48 (w : gw) (S : St) (x2 : Int64) : Option (Int64) :=
  some x2
noncomputable def SH_sumOf (w : gw) (S : St) (a0 : Nat) (x1 : Int32) : Option (Int64) :=
  bnd (lp (σ := Int64 × Int32) (fun q => SH_sumOf_L5 w S a0 x1 q.1 q.2) FZ (0, 0)) fun z1 =>
    SH_sumOf_J48 w S z1.1.1
set_option maxHeartbeats 4000000 in
set_option maxRecDepth 100000 in
theorem L_SH_sumOf_5 (C : gCx p s m args meth c y_SH_sumOf.cls b_SH_sumOf 5 (some .long)) : ∀ (S : St) (a0 : Nat) (x1 : Int32) (ha0 : shO w a0) (n : Nat) (x2 : Int64) (x4 : Int32) (r : (Int64 × Int32) × Nat), lp (σ := Int64 × Int32) (fun q => SH_sumOf_L5 w S a0 x1 q.1 q.2) n (x2, x4) = some r → (∀ (y2 : Int64) (y4 : Int32), r = ((y2, y4), 1) → ∀ (ls : Array Slot) (H : Heap) (locs : List Loc), GH w s A S H locs → lv_has ls 5 [(2, .long y2)] → W p l e (rmm 0 0) s m args below meth c H locs 0 0 Q (F0 m 48 ls [])) → ∀ (ls : Array Slot) (H : Heap) (locs : List Loc), GH w s A S H locs → lv_has ls 5 [(0, .ref (gad w a0)), (1, .int x1), (2, .long x2), (4, .int x4)] → W p l e (rmm 0 0) s m args below meth c H locs 0 0 Q (F0 m 5 ls []) := by
  have hx := C.1
  have hb := C.2.1
  intro S a0 x1 ha0 n
  induction n with
  | zero => intro x2 x4 r h; cases h
  | succ n ih =>
    intro x2 x4 r h k1 ls H locs hG hl
    obtain ⟨z, h, hr⟩ := lp_succ h
    have h : SH_sumOf_L5 w S a0 x1 x2 x4 = some z := h
    unfold SH_sumOf_L5 at h
    refine lv_iload hx hb d_SH_sumOf_5 (lv_at hl 3 rfl) ?_
    refine lv_iconst (v := 5) hx hb d_SH_sumOf_7 (by decide) ?_
    refine lv_icmp_ge (tgt := 48) hx hb d_SH_sumOf_8 (by decide) (fun hc => ?_) (fun hc => ?_)
    · replace h := it_t h hc
      exact k1 _ _ (lp_exit h hr) ls _ _ hG (lv_sub hl [2] rfl)
    · replace h := it_f h hc
      refine lv_iload hx hb d_SH_sumOf_11 (lv_at hl 3 rfl) ?_
      refine lv_aload_n hx hb d_SH_sumOf_13 rfl (lv_at hl 0 rfl) ?_
      refine g_get C hG ha0.lt (ha0.obj _) rfl inC4 1 (Nat.le_of_ble_eq_true rfl) qw577 rfl d_SH_sumOf_14 ?_
      refine g_alen (v := Int32.ofNat (gln w (a0 + 1))) C hG ha0.2.2 (ha0.arr _) rfl d_SH_sumOf_17 ?_
      refine lv_icmp_ge (tgt := 48) hx hb d_SH_sumOf_18 (by decide) (fun hc => ?_) (fun hc => ?_)
      · replace h := it_t h hc
        exact k1 _ _ (lp_exit h hr) ls _ _ hG (lv_sub hl [2] rfl)
      · replace h := it_f h hc
        refine lv_iload_n hx hb d_SH_sumOf_21 rfl (lv_at hl 1 rfl) ?_
        refine lv_iload hx hb d_SH_sumOf_22 (lv_at hl 3 rfl) ?_
        refine lv_ishr hx hb d_SH_sumOf_24 ?_
        refine lv_iconst (v := 1) hx hb d_SH_sumOf_25 (by decide) ?_
        refine lv_iand hx hb d_SH_sumOf_26 ?_
        refine lv_iconst (v := 1) hx hb d_SH_sumOf_27 (by decide) ?_
        refine lv_icmp_ne (tgt := 42) hx hb d_SH_sumOf_28 (by decide) (fun hc => ?_) (fun hc => ?_)
        · replace h := it_f h hc
          refine lv_iinc (v := x4 + 1) (lv' := [(4, .int (x4 + 1)), (0, .ref (gad w a0)), (1, .int x1), (2, .long x2)]) hx hb d_SH_sumOf_42 hl (k := 3) rfl (congrArg (HAdd.hAdd x4) (by decide : Int32.ofInt 1 = 1)) (by decide) rfl (fun ls hl => ?_)
          refine lv_goto (tgt := 5) hx hb d_SH_sumOf_45 (by decide) ?_
          exact ih _ _ _ (lp_back h hr) k1 ls _ _ hG (lv_sub hl [1, 2, 3, 0] rfl)
        · replace h := it_t h hc
          refine lv_lload_n hx hb d_SH_sumOf_31 rfl (lv_at hl 2 rfl) ?_
          refine lv_aload_n hx hb d_SH_sumOf_32 rfl (lv_at hl 0 rfl) ?_
          refine g_get C hG ha0.lt (ha0.obj _) rfl inC4 1 (Nat.le_of_ble_eq_true rfl) qw577 rfl d_SH_sumOf_33 ?_
          refine lv_iload hx hb d_SH_sumOf_36 (lv_at hl 3 rfl) ?_
          obtain ⟨hi1, h⟩ := chk_some h
          refine g_iald (j := ix x4) C hG ha0.2.2 (ha0.arr _) (inb_in hi1) rfl d_SH_sumOf_38 ?_
          refine lv_i2l (v := (S (a0 + 1) (ix x4)).toInt64) hx hb d_SH_sumOf_39 rfl ?_
          refine lv_ladd hx hb d_SH_sumOf_40 ?_
          refine lv_lstore_n (lv' := [(2, .long (x2 + ((S (a0 + 1) (ix x4)).toInt64))), (0, .ref (gad w a0)), (1, .int x1), (4, .int x4)]) hx hb d_SH_sumOf_41 rfl hl (by decide) rfl (fun ls hl => ?_)
          refine lv_iinc (v := x4 + 1) (lv' := [(4, .int (x4 + 1)), (2, .long (x2 + ((S (a0 + 1) (ix x4)).toInt64))), (0, .ref (gad w a0)), (1, .int x1)]) hx hb d_SH_sumOf_42 hl (k := 3) rfl (congrArg (HAdd.hAdd x4) (by decide : Int32.ofInt 1 = 1)) (by decide) rfl (fun ls hl => ?_)
          refine lv_goto (tgt := 5) hx hb d_SH_sumOf_45 (by decide) ?_
          exact ih _ _ _ (lp_back h hr) k1 ls _ _ hG (lv_sub hl [2, 3, 1, 0] rfl)
set_option maxHeartbeats 4000000 in
set_option maxRecDepth 100000 in
theorem c_SH_sumOf (l : Launch) (w : gw) (S : St) (a0 : Nat) (x1 : Int32) (ha0 : shO w a0) {z : Int64} (h : (SH_sumOf w S a0 x1) = some z) : gMl l w y_SH_sumOf b_SH_sumOf 5 (some .long) (rmm 0 0) [.ref (gad w a0), .int x1] S z S := by
  unfold SH_sumOf at h
  refine g_met (Qc := gQl w z S) (by decide +kernel) (Nat.le_of_ble_eq_true rfl) ?_
  intro p e s m args below meth c A Q ls hQ C hG hl
  have hx := C.1
  have hb := C.2.1
  have hl : lv_has ls 5 [(0, .ref (gad w a0)), (1, .int x1)] := hl
  have J48 : ∀ (x2 : Int64), SH_sumOf_J48 w S x2 = some z → ∀ (ls : Array Slot) (H : Heap) (locs : List Loc), GH w s A S H locs → lv_has ls 5 [(2, .long x2)] → W p l e (rmm 0 0) s m args below meth c H locs 0 0 Q (F0 m 48 ls []) := by
    intro x2 h ls H locs hG hl
    unfold SH_sumOf_J48 at h
    refine lv_lload_n hx hb d_SH_sumOf_48 rfl (lv_at hl 0 rfl) ?_
    exact g_lret C hG (Option.some.inj h) rfl hQ d_SH_sumOf_49
  refine lv_lconst (v := 0) hx hb d_SH_sumOf_0 (by decide) ?_
  refine lv_lstore_n (lv' := [(2, .long 0), (0, .ref (gad w a0)), (1, .int x1)]) hx hb d_SH_sumOf_1 rfl hl (by decide) rfl (fun ls hl => ?_)
  refine lv_iconst (v := 0) hx hb d_SH_sumOf_2 (by decide) ?_
  refine lv_istore (lv' := [(4, .int 0), (2, .long 0), (0, .ref (gad w a0)), (1, .int x1)]) hx hb d_SH_sumOf_3 hl (by decide) rfl (fun ls hl => ?_)
  obtain ⟨z1, hz1, h⟩ := bnd_some h
  refine L_SH_sumOf_5 C _ _ _ ha0 FZ _ _ _ hz1 ?_ ls _ _ hG (lv_sub hl [2, 3, 1, 0] rfl)
  intro y2 y4 e9 ls H locs hG hl
  subst e9
  exact J48 _ h ls _ _ hG (lv_sub hl [0] rfl)
theorem d_X_findingAt_0 : decode b_X_findingAt 0 = .ok (.aload_n 0, 1) := by decide +kernel
theorem d_X_findingAt_1 : decode b_X_findingAt 1 = .ok (.ifnonnull 5, 3) := by decide +kernel
theorem d_X_findingAt_4 : decode b_X_findingAt 4 = .ok (.iconst 1, 1) := by decide +kernel
theorem d_X_findingAt_5 : decode b_X_findingAt 5 = .ok (.ireturn, 1) := by decide +kernel
theorem d_X_findingAt_6 : decode b_X_findingAt 6 = .ok (.aload_n 0, 1) := by decide +kernel
theorem d_X_findingAt_7 : decode b_X_findingAt 7 = .ok (.getfield 266, 3) := by decide +kernel
theorem d_X_findingAt_10 : decode b_X_findingAt 10 = .ok (.iload_n 1, 1) := by decide +kernel
theorem d_X_findingAt_11 : decode b_X_findingAt 11 = .ok (.if_icmp .eq 5, 3) := by decide +kernel
theorem d_X_findingAt_14 : decode b_X_findingAt 14 = .ok (.iconst 3, 1) := by decide +kernel
theorem d_X_findingAt_15 : decode b_X_findingAt 15 = .ok (.ireturn, 1) := by decide +kernel
theorem d_X_findingAt_16 : decode b_X_findingAt 16 = .ok (.aload_n 0, 1) := by decide +kernel
theorem d_X_findingAt_17 : decode b_X_findingAt 17 = .ok (.iload_n 2, 1) := by decide +kernel
theorem d_X_findingAt_18 : decode b_X_findingAt 18 = .ok (.iconst 1, 1) := by decide +kernel
theorem d_X_findingAt_19 : decode b_X_findingAt 19 = .ok (.invokevirtual 269, 3) := by decide +kernel
theorem d_X_findingAt_22 : decode b_X_findingAt 22 = .ok (.ifCond .eq 7, 3) := by decide +kernel
theorem d_X_findingAt_25 : decode b_X_findingAt 25 = .ok (.iconst 0, 1) := by decide +kernel
theorem d_X_findingAt_26 : decode b_X_findingAt 26 = .ok (.goto 4, 3) := by decide +kernel
theorem d_X_findingAt_29 : decode b_X_findingAt 29 = .ok (.iconst 2, 1) := by decide +kernel
theorem d_X_findingAt_30 : decode b_X_findingAt 30 = .ok (.ireturn, 1) := by decide +kernel
noncomputable def X_findingAt_n (w : gw) (S : St) (x1 : Int32) (x2 : Int32) : Option (Int32) :=
  some 1
set_option maxHeartbeats 4000000 in
set_option maxRecDepth 100000 in
theorem c_X_findingAt_n (l : Launch) (w : gw) (S : St) (x1 : Int32) (x2 : Int32)  {z : Int32} (h : (X_findingAt_n w S x1 x2) = some z) : gMi l w y_X_findingAt b_X_findingAt 3 (some .int) (rmm 1 22) [.null, .int x1, .int x2] S z S := by
  unfold X_findingAt_n at h
  refine g_met (Qc := gQi w z S) (by decide +kernel) (Nat.le_of_ble_eq_true rfl) ?_
  intro p e s m args below meth c A Q ls hQ C hG hl
  have hx := C.1
  have hb := C.2.1
  have hl : lv_has ls 3 [(0, .null), (1, .int x1), (2, .int x2)] := hl
  refine lv_aload_nN hx hb d_X_findingAt_0 rfl (lv_at hl 0 rfl) ?_
  refine lv_ifnonnullN hx hb d_X_findingAt_1 ?_
  refine lv_iconst (v := 1) hx hb d_X_findingAt_4 (by decide) ?_
  exact g_iret C hG (Option.some.inj h) rfl hQ d_X_findingAt_5
theorem d_X_read_0 : decode b_X_read 0 = .ok (.iload_n 1, 1) := by decide +kernel
theorem d_X_read_1 : decode b_X_read 1 = .ok (.invokestatic 140, 3) := by decide +kernel
theorem d_X_read_4 : decode b_X_read 4 = .ok (.ifCond .eq 10, 3) := by decide +kernel
theorem d_X_read_7 : decode b_X_read 7 = .ok (.iload_n 2, 1) := by decide +kernel
theorem d_X_read_8 : decode b_X_read 8 = .ok (.invokestatic 91, 3) := by decide +kernel
theorem d_X_read_11 : decode b_X_read 11 = .ok (.ifCond .ne 6, 3) := by decide +kernel
theorem d_X_read_14 : decode b_X_read 14 = .ok (.bipush (-2), 2) := by decide +kernel
theorem d_X_read_16 : decode b_X_read 16 = .ok (.ireturn, 1) := by decide +kernel
theorem d_X_read_17 : decode b_X_read 17 = .ok (.aload_n 0, 1) := by decide +kernel
theorem d_X_read_18 : decode b_X_read 18 = .ok (.getfield 56, 3) := by decide +kernel
theorem d_X_read_21 : decode b_X_read 21 = .ok (.iload_n 1, 1) := by decide +kernel
theorem d_X_read_22 : decode b_X_read 22 = .ok (.aaload, 1) := by decide +kernel
theorem d_X_read_23 : decode b_X_read 23 = .ok (.astore_n 3, 1) := by decide +kernel
theorem d_X_read_24 : decode b_X_read 24 = .ok (.aload_n 3, 1) := by decide +kernel
theorem d_X_read_25 : decode b_X_read 25 = .ok (.ifnonnull 9, 3) := by decide +kernel
theorem d_X_read_28 : decode b_X_read 28 = .ok (.aload_n 0, 1) := by decide +kernel
theorem d_X_read_29 : decode b_X_read 29 = .ok (.iconst 1, 1) := by decide +kernel
theorem d_X_read_30 : decode b_X_read 30 = .ok (.invokevirtual 143, 3) := by decide +kernel
theorem d_X_read_33 : decode b_X_read 33 = .ok (.ireturn, 1) := by decide +kernel
theorem d_X_read_34 : decode b_X_read 34 = .ok (.aload_n 3, 1) := by decide +kernel
theorem d_X_read_35 : decode b_X_read 35 = .ok (.getfield 147, 3) := by decide +kernel
theorem d_X_read_38 : decode b_X_read 38 = .ok (.arraylength, 1) := by decide +kernel
theorem d_X_read_39 : decode b_X_read 39 = .ok (.bipush 10, 2) := by decide +kernel
theorem d_X_read_41 : decode b_X_read 41 = .ok (.invokestatic 150, 3) := by decide +kernel
theorem d_X_read_44 : decode b_X_read 44 = .ok (.istore 4, 2) := by decide +kernel
theorem d_X_read_46 : decode b_X_read 46 = .ok (.iconst 0, 1) := by decide +kernel
theorem d_X_read_47 : decode b_X_read 47 = .ok (.istore 5, 2) := by decide +kernel
theorem d_X_read_49 : decode b_X_read 49 = .ok (.iload 5, 2) := by decide +kernel
theorem d_X_read_51 : decode b_X_read 51 = .ok (.iload 4, 2) := by decide +kernel
theorem d_X_read_53 : decode b_X_read 53 = .ok (.if_icmp .ge 45, 3) := by decide +kernel
theorem d_X_read_56 : decode b_X_read 56 = .ok (.aload_n 3, 1) := by decide +kernel
theorem d_X_read_57 : decode b_X_read 57 = .ok (.getfield 147, 3) := by decide +kernel
theorem d_X_read_60 : decode b_X_read 60 = .ok (.iload 5, 2) := by decide +kernel
theorem d_X_read_62 : decode b_X_read 62 = .ok (.iaload, 1) := by decide +kernel
theorem d_X_read_63 : decode b_X_read 63 = .ok (.invokestatic 112, 3) := by decide +kernel
theorem d_X_read_66 : decode b_X_read 66 = .ok (.ifCond .eq 32, 3) := by decide +kernel
theorem d_X_read_69 : decode b_X_read 69 = .ok (.aload_n 0, 1) := by decide +kernel
theorem d_X_read_70 : decode b_X_read 70 = .ok (.aload_n 0, 1) := by decide +kernel
theorem d_X_read_71 : decode b_X_read 71 = .ok (.getfield 10, 3) := by decide +kernel
theorem d_X_read_74 : decode b_X_read 74 = .ok (.getfield 115, 3) := by decide +kernel
theorem d_X_read_77 : decode b_X_read 77 = .ok (.iload_n 2, 1) := by decide +kernel
theorem d_X_read_78 : decode b_X_read 78 = .ok (.aaload, 1) := by decide +kernel
theorem d_X_read_79 : decode b_X_read 79 = .ok (.iload 5, 2) := by decide +kernel
theorem d_X_read_81 : decode b_X_read 81 = .ok (.aload_n 3, 1) := by decide +kernel
theorem d_X_read_82 : decode b_X_read 82 = .ok (.getfield 147, 3) := by decide +kernel
theorem d_X_read_85 : decode b_X_read 85 = .ok (.iload 5, 2) := by decide +kernel
theorem d_X_read_87 : decode b_X_read 87 = .ok (.iaload, 1) := by decide +kernel
theorem d_X_read_88 : decode b_X_read 88 = .ok (.invokevirtual 99, 3) := by decide +kernel
theorem d_X_read_91 : decode b_X_read 91 = .ok (.pop, 1) := by decide +kernel
theorem d_X_read_92 : decode b_X_read 92 = .ok (.iinc 5 1, 3) := by decide +kernel
theorem d_X_read_95 : decode b_X_read 95 = .ok (.goto (-46), 3) := by decide +kernel
theorem d_X_read_98 : decode b_X_read 98 = .ok (.iload 5, 2) := by decide +kernel
theorem d_X_read_100 : decode b_X_read 100 = .ok (.ireturn, 1) := by decide +kernel
noncomputable def X_read_L49 (w : gw) (S : St) (x2 : Int32) (a3 : Nat) (x4 : Int32) (x5 : Int32) : Option ((Int32 × St) × Nat) :=
  if x4 ≤ x5 then
      some ((x5, S), 1)
    else
      chk (inb x5 (gln w (a3 + 1))) <|
      if (X_isValue (S (a3 + 1) (ix x5))) = 0 then
        some ((x5, S), 1)
      else
        chk (inb x2 5) <|
        chk (inb x5 (gln w (a3 + 1))) <|
        bnd (X_replace S (5 + (ix x2)) 10 x5 (S (a3 + 1) (ix x5))) fun z1 =>
        some ((x5 + 1, z1.2), 0)
noncomputable def X_read_J98 (w : gw) (S : St) (x5 : Int32) : Option (Int32 × St) :=
  some (x5, S)
noncomputable def X_read (w : gw) (S : St) (x1 : Int32) (x2 : Int32) : Option (Int32 × St) :=
  if (X_isSheet x1) = 0 then
      some ((-2), S)
    else
      if (X_isBidder x2) = 0 then
        some ((-2), S)
      else
        chk (inb x1 4) <|
        if S 48 (ix x1) < 0 then
          bnd (X_finding S 1) fun z2 =>
          some (z2.1, z2.2)
        else
          chk (shB w (S 48 (ix x1))) <|
          bnd (lp (σ := Int32 × St) (fun q => X_read_L49 w q.2 x2 (ix (S 48 (ix x1))) (mn (Int32.ofNat (gln w ((ix (S 48 (ix x1))) + 1))) 10) q.1) FZ (0, S)) fun z3 =>
          X_read_J98 w z3.1.2 z3.1.1
set_option maxHeartbeats 4000000 in
set_option maxRecDepth 100000 in
theorem L_X_read_49 (C : gCx p s m args meth c y_X_read.cls b_X_read 6 (some .int)) : ∀ (x2 : Int32) (a3 : Nat) (x4 : Int32) (ha3 : shO w a3) (n : Nat) (x5 : Int32) (S : St) (r : (Int32 × St) × Nat), lp (σ := Int32 × St) (fun q => X_read_L49 w q.2 x2 a3 x4 q.1) n (x5, S) = some r → (∀ (y5 : Int32) (Sy : St), r = ((y5, Sy), 1) → ∀ (ls : Array Slot) (H : Heap) (locs : List Loc), GH w s A Sy H locs → lv_has ls 6 [(5, .int y5)] → W p l e (rmm 2 42) s m args below meth c H locs 0 0 Q (F0 m 98 ls [])) → ∀ (ls : Array Slot) (H : Heap) (locs : List Loc), GH w s A S H locs → lv_has ls 6 [(0, .ref (gad w 0)), (2, .int x2), (3, .ref (gad w a3)), (4, .int x4), (5, .int x5)] → W p l e (rmm 2 42) s m args below meth c H locs 0 0 Q (F0 m 49 ls []) := by
  have hx := C.1
  have hb := C.2.1
  intro x2 a3 x4 ha3 n
  induction n with
  | zero => intro x5 S r h; cases h
  | succ n ih =>
    intro x5 S r h k1 ls H locs hG hl
    obtain ⟨z, h, hr⟩ := lp_succ h
    have h : X_read_L49 w S x2 a3 x4 x5 = some z := h
    unfold X_read_L49 at h
    refine lv_iload hx hb d_X_read_49 (lv_at hl 4 rfl) ?_
    refine lv_iload hx hb d_X_read_51 (lv_at hl 3 rfl) ?_
    refine lv_icmp_ge (tgt := 98) hx hb d_X_read_53 (by decide) (fun hc => ?_) (fun hc => ?_)
    · replace h := it_t h hc
      exact k1 _ _ (lp_exit h hr) ls _ _ hG (lv_sub hl [4] rfl)
    · replace h := it_f h hc
      refine lv_aload_n hx hb d_X_read_56 rfl (lv_at hl 2 rfl) ?_
      refine g_get C hG ha3.lt (ha3.obj _) rfl inC4 1 (Nat.le_of_ble_eq_true rfl) qw578 rfl d_X_read_57 ?_
      refine lv_iload hx hb d_X_read_60 (lv_at hl 4 rfl) ?_
      obtain ⟨hi1, h⟩ := chk_some h
      refine g_iald (j := ix x5) C hG ha3.2.2 (ha3.arr _) (inb_in hi1) rfl d_X_read_62 ?_
      refine g_goi hG (g_runS (As := [.int (S (a3 + 1) (ix x5))]) (rest := []) C hG (c_X_isValue l w S (S (a3 + 1) (ix x5)) _) sw_X_112 rfl rfl ⟨by decide, by decide⟩ rfl hl.1 rfl (Nat.le_of_ble_eq_true rfl) d_X_read_63 ⟨Nat.zero_le _, Nat.zero_le _⟩) (fun H locs hG => ?_)
      refine lv_if_eq (tgt := 98) hx hb d_X_read_66 (by decide) (fun hc => ?_) (fun hc => ?_)
      · replace h := it_t h hc
        exact k1 _ _ (lp_exit h hr) ls _ _ hG (lv_sub hl [4] rfl)
      · replace h := it_f h hc
        refine lv_aload_n hx hb d_X_read_69 rfl (lv_at hl 0 rfl) ?_
        refine lv_aload_n hx hb d_X_read_70 rfl (lv_at hl 0 rfl) ?_
        refine g_get C hG (hG.lt (Nat.le_of_ble_eq_true rfl)) (ce0 w _) rfl inC7 0 (Nat.le_of_ble_eq_true rfl) qw199 rfl d_X_read_71 ?_
        refine g_get C hG (hG.lt (Nat.le_of_ble_eq_true rfl)) (ce1 w _) rfl inC6 2 (Nat.le_of_ble_eq_true rfl) qw37 rfl d_X_read_74 ?_
        refine lv_iload_n hx hb d_X_read_77 rfl (lv_at hl 1 rfl) ?_
        obtain ⟨hi2, h⟩ := chk_some h
        refine g_ald2 (j := ix x2) C hG (hG.lt (Nat.le_of_ble_eq_true rfl)) (ce4 w _) (inb_in hi2) rfl d_X_read_78 ?_
        have hr3 : ix x2 < 5 := row_lt (inb_in hi2)
        refine lv_iload hx hb d_X_read_79 (lv_at hl 4 rfl) ?_
        refine lv_aload_n hx hb d_X_read_81 rfl (lv_at hl 2 rfl) ?_
        refine g_get C hG ha3.lt (ha3.obj _) rfl inC4 1 (Nat.le_of_ble_eq_true rfl) qw578 rfl d_X_read_82 ?_
        refine lv_iload hx hb d_X_read_85 (lv_at hl 4 rfl) ?_
        obtain ⟨hi4, h⟩ := chk_some h
        refine g_iald (j := ix x5) C hG ha3.2.2 (ha3.arr _) (inb_in hi4) rfl d_X_read_87 ?_
        obtain ⟨z1, hz1, h⟩ := bnd_some h
        refine g_goi hG (g_runV (As := [.ref (gad w (5 + (ix x2))), .int x5, .int (S (a3 + 1) (ix x5))]) (rest := []) C hG (c_X_replace l w S (5 + (ix x2)) 10 x5 (S (a3 + 1) (ix x5)) ⟨(hG.lt (by omega)), (fun r => cr4 w r hr3)⟩ hz1 _) (hG.lt (Nat.le_of_ble_eq_true rfl)) (ce0 w _) rfl vw_X_99 rfl rfl ⟨by decide, by decide⟩ rfl hl.1 rfl (Nat.le_of_ble_eq_true rfl) d_X_read_88 ⟨Nat.zero_le _, Nat.zero_le _⟩) (fun H locs hG => ?_)
        refine lv_pop hx hb d_X_read_91 rfl ?_
        refine lv_iinc (v := x5 + 1) (lv' := [(5, .int (x5 + 1)), (0, .ref (gad w 0)), (2, .int x2), (3, .ref (gad w a3)), (4, .int x4)]) hx hb d_X_read_92 hl (k := 4) rfl (congrArg (HAdd.hAdd x5) (by decide : Int32.ofInt 1 = 1)) (by decide) rfl (fun ls hl => ?_)
        refine lv_goto (tgt := 49) hx hb d_X_read_95 (by decide) ?_
        exact ih _ _ _ (lp_back h hr) k1 ls _ _ hG (lv_sub hl [1, 2, 3, 4, 0] rfl)
set_option maxHeartbeats 4000000 in
set_option maxRecDepth 100000 in
theorem c_X_read (l : Launch) (w : gw) (S : St) (x1 : Int32) (x2 : Int32)  {z : Int32 × St} (h : (X_read w S x1 x2) = some z) : gMi l w y_X_read b_X_read 6 (some .int) (rmm 2 42) [.ref (gad w 0), .int x1, .int x2] S z.1 z.2 := by
  unfold X_read at h
  refine g_met (Qc := gQi w z.1 z.2) (by decide +kernel) (Nat.le_of_ble_eq_true rfl) ?_
  intro p e s m args below meth c A Q ls hQ C hG hl
  have hx := C.1
  have hb := C.2.1
  have hl : lv_has ls 6 [(0, .ref (gad w 0)), (1, .int x1), (2, .int x2)] := hl
  have J98 : ∀ (S : St) (x5 : Int32), X_read_J98 w S x5 = some z → ∀ (ls : Array Slot) (H : Heap) (locs : List Loc), GH w s A S H locs → lv_has ls 6 [(5, .int x5)] → W p l e (rmm 2 42) s m args below meth c H locs 0 0 Q (F0 m 98 ls []) := by
    intro S x5 h ls H locs hG hl
    unfold X_read_J98 at h
    refine lv_iload hx hb d_X_read_98 (lv_at hl 0 rfl) ?_
    exact g_iret C hG (sm_fst h) (sm_snd h) hQ d_X_read_100
  refine lv_iload_n hx hb d_X_read_0 rfl (lv_at hl 1 rfl) ?_
  refine g_goi hG (g_runS (As := [.int x1]) (rest := []) C hG (c_X_isSheet l w S x1 _) sw_X_140 rfl rfl ⟨by decide, by decide⟩ rfl hl.1 rfl (Nat.le_of_ble_eq_true rfl) d_X_read_1 ⟨Nat.zero_le _, Nat.zero_le _⟩) (fun H locs hG => ?_)
  refine lv_if_eq (tgt := 14) hx hb d_X_read_4 (by decide) (fun hc => ?_) (fun hc => ?_)
  · replace h := it_t h hc
    refine lv_bipush (v := (-2)) hx hb d_X_read_14 (by decide) ?_
    exact g_iret C hG (sm_fst h) (sm_snd h) hQ d_X_read_16
  · replace h := it_f h hc
    refine lv_iload_n hx hb d_X_read_7 rfl (lv_at hl 2 rfl) ?_
    refine g_goi hG (g_runS (As := [.int x2]) (rest := []) C hG (c_X_isBidder l w S x2 _) sw_X_91 rfl rfl ⟨by decide, by decide⟩ rfl hl.1 rfl (Nat.le_of_ble_eq_true rfl) d_X_read_8 ⟨Nat.zero_le _, Nat.zero_le _⟩) (fun H locs hG => ?_)
    refine lv_if_ne (tgt := 17) hx hb d_X_read_11 (by decide) (fun hc => ?_) (fun hc => ?_)
    · replace h := it_f h hc
      refine lv_aload_n hx hb d_X_read_17 rfl (lv_at hl 0 rfl) ?_
      refine g_get C hG (hG.lt (Nat.le_of_ble_eq_true rfl)) (ce0 w _) rfl inC7 7 (Nat.le_of_ble_eq_true rfl) qw206 rfl d_X_read_18 ?_
      refine lv_iload_n hx hb d_X_read_21 rfl (lv_at hl 1 rfl) ?_
      obtain ⟨hi5, h⟩ := chk_some h
      refine g_aldS (j := ix x1) C hG (inb_in hi5) rfl d_X_read_22 (fun hc => ?_) (fun hc => ?_)
      · replace h := it_t h hc
        refine lv_astore_nN (lv' := [(3, .null), (0, .ref (gad w 0)), (1, .int x1), (2, .int x2)]) hx hb d_X_read_23 rfl hl (by decide) rfl (fun ls hl => ?_)
        refine lv_aload_nN hx hb d_X_read_24 rfl (lv_at hl 0 rfl) ?_
        refine lv_ifnonnullN hx hb d_X_read_25 ?_
        refine lv_aload_n hx hb d_X_read_28 rfl (lv_at hl 1 rfl) ?_
        refine lv_iconst (v := 1) hx hb d_X_read_29 (by decide) ?_
        obtain ⟨z2, hz2, h⟩ := bnd_some h
        refine g_goi hG (g_runV (As := [.int 1]) (rest := []) C hG (c_X_finding l w S 1 hz2 _) (hG.lt (Nat.le_of_ble_eq_true rfl)) (ce0 w _) rfl vw_X_143 rfl rfl ⟨by decide, by decide⟩ rfl hl.1 rfl (Nat.le_of_ble_eq_true rfl) d_X_read_30 ⟨Nat.zero_le _, Nat.zero_le _⟩) (fun H locs hG => ?_)
        exact g_iret C hG (sm_fst h) (sm_snd h) hQ d_X_read_33
      · replace h := it_f h hc
        obtain ⟨hi6, h⟩ := chk_some h
        replace hi6 := shB_in hi6
        refine lv_astore_n (lv' := [(3, .ref (gad w (ix (S 48 (ix x1))))), (0, .ref (gad w 0)), (1, .int x1), (2, .int x2)]) hx hb d_X_read_23 rfl hl (by decide) rfl (fun ls hl => ?_)
        refine lv_aload_n hx hb d_X_read_24 rfl (lv_at hl 0 rfl) ?_
        refine lv_ifnonnull (tgt := 34) hx hb d_X_read_25 (by decide) ?_
        refine lv_aload_n hx hb d_X_read_34 rfl (lv_at hl 0 rfl) ?_
        refine g_get C hG hi6.lt (hi6.obj _) rfl inC4 1 (Nat.le_of_ble_eq_true rfl) qw578 rfl d_X_read_35 ?_
        refine g_alen (v := Int32.ofNat (gln w ((ix (S 48 (ix x1))) + 1))) C hG hi6.2.2 (hi6.arr _) rfl d_X_read_38 ?_
        refine lv_bipush (v := 10) hx hb d_X_read_39 (by decide) ?_
        refine g_min C hl.1 qw353 ⟨by decide, by decide⟩ (Nat.le_of_ble_eq_true rfl) ⟨Nat.zero_le _, Nat.zero_le _⟩ d_X_read_41 ?_
        refine lv_istore (lv' := [(4, .int (mn (Int32.ofNat (gln w ((ix (S 48 (ix x1))) + 1))) 10)), (3, .ref (gad w (ix (S 48 (ix x1))))), (0, .ref (gad w 0)), (1, .int x1), (2, .int x2)]) hx hb d_X_read_44 hl (by decide) rfl (fun ls hl => ?_)
        refine lv_iconst (v := 0) hx hb d_X_read_46 (by decide) ?_
        refine lv_istore (lv' := [(5, .int 0), (4, .int (mn (Int32.ofNat (gln w ((ix (S 48 (ix x1))) + 1))) 10)), (3, .ref (gad w (ix (S 48 (ix x1))))), (0, .ref (gad w 0)), (1, .int x1), (2, .int x2)]) hx hb d_X_read_47 hl (by decide) rfl (fun ls hl => ?_)
        obtain ⟨z3, hz3, h⟩ := bnd_some h
        refine L_X_read_49 C _ _ _ hi6 FZ _ _ _ hz3 ?_ ls _ _ hG (lv_sub hl [3, 5, 2, 1, 0] rfl)
        intro y5 Sy e9 ls H locs hG hl
        subst e9
        exact J98 _ _ h ls _ _ hG (lv_sub hl [0] rfl)
    · replace h := it_t h hc
      refine lv_bipush (v := (-2)) hx hb d_X_read_14 (by decide) ?_
      exact g_iret C hG (sm_fst h) (sm_snd h) hQ d_X_read_16
theorem d_X_lose_0 : decode b_X_lose 0 = .ok (.iload_n 1, 1) := by decide +kernel
theorem d_X_lose_1 : decode b_X_lose 1 = .ok (.invokestatic 140, 3) := by decide +kernel
theorem d_X_lose_4 : decode b_X_lose 4 = .ok (.ifCond .ne 6, 3) := by decide +kernel
theorem d_X_lose_7 : decode b_X_lose 7 = .ok (.bipush (-2), 2) := by decide +kernel
theorem d_X_lose_9 : decode b_X_lose 9 = .ok (.ireturn, 1) := by decide +kernel
theorem d_X_lose_10 : decode b_X_lose 10 = .ok (.aload_n 0, 1) := by decide +kernel
theorem d_X_lose_11 : decode b_X_lose 11 = .ok (.getfield 56, 3) := by decide +kernel
theorem d_X_lose_14 : decode b_X_lose 14 = .ok (.iload_n 1, 1) := by decide +kernel
theorem d_X_lose_15 : decode b_X_lose 15 = .ok (.aaload, 1) := by decide +kernel
theorem d_X_lose_16 : decode b_X_lose 16 = .ok (.astore_n 2, 1) := by decide +kernel
theorem d_X_lose_17 : decode b_X_lose 17 = .ok (.aload_n 2, 1) := by decide +kernel
theorem d_X_lose_18 : decode b_X_lose 18 = .ok (.ifnonnull 9, 3) := by decide +kernel
theorem d_X_lose_21 : decode b_X_lose 21 = .ok (.aload_n 0, 1) := by decide +kernel
theorem d_X_lose_22 : decode b_X_lose 22 = .ok (.iconst 1, 1) := by decide +kernel
theorem d_X_lose_23 : decode b_X_lose 23 = .ok (.invokevirtual 143, 3) := by decide +kernel
theorem d_X_lose_26 : decode b_X_lose 26 = .ok (.ireturn, 1) := by decide +kernel
theorem d_X_lose_27 : decode b_X_lose 27 = .ok (.aload_n 0, 1) := by decide +kernel
theorem d_X_lose_28 : decode b_X_lose 28 = .ok (.getfield 56, 3) := by decide +kernel
theorem d_X_lose_31 : decode b_X_lose 31 = .ok (.iload_n 1, 1) := by decide +kernel
theorem d_X_lose_32 : decode b_X_lose 32 = .ok (.aconst_null, 1) := by decide +kernel
theorem d_X_lose_33 : decode b_X_lose 33 = .ok (.aastore, 1) := by decide +kernel
theorem d_X_lose_34 : decode b_X_lose 34 = .ok (.aload_n 2, 1) := by decide +kernel
theorem d_X_lose_35 : decode b_X_lose 35 = .ok (.getfield 147, 3) := by decide +kernel
theorem d_X_lose_38 : decode b_X_lose 38 = .ok (.arraylength, 1) := by decide +kernel
theorem d_X_lose_39 : decode b_X_lose 39 = .ok (.ireturn, 1) := by decide +kernel
noncomputable def X_lose (w : gw) (S : St) (x1 : Int32) : Option (Int32 × St) :=
  if (X_isSheet x1) = 0 then
      some ((-2), S)
    else
      chk (inb x1 4) <|
      if S 48 (ix x1) < 0 then
        bnd (X_finding S 1) fun z1 =>
        some (z1.1, z1.2)
      else
        chk (shB w (S 48 (ix x1))) <|
        chk (inb x1 4) <|
        some (Int32.ofNat (gln w ((ix (S 48 (ix x1))) + 1)), up S 48 (ix x1) (-1))
set_option maxHeartbeats 4000000 in
set_option maxRecDepth 100000 in
theorem c_X_lose (l : Launch) (w : gw) (S : St) (x1 : Int32)  {z : Int32 × St} (h : (X_lose w S x1) = some z) : gMi l w y_X_lose b_X_lose 3 (some .int) (rmm 2 42) [.ref (gad w 0), .int x1] S z.1 z.2 := by
  unfold X_lose at h
  refine g_met (Qc := gQi w z.1 z.2) (by decide +kernel) (Nat.le_of_ble_eq_true rfl) ?_
  intro p e s m args below meth c A Q ls hQ C hG hl
  have hx := C.1
  have hb := C.2.1
  have hl : lv_has ls 3 [(0, .ref (gad w 0)), (1, .int x1)] := hl
  refine lv_iload_n hx hb d_X_lose_0 rfl (lv_at hl 1 rfl) ?_
  refine g_goi hG (g_runS (As := [.int x1]) (rest := []) C hG (c_X_isSheet l w S x1 _) sw_X_140 rfl rfl ⟨by decide, by decide⟩ rfl hl.1 rfl (Nat.le_of_ble_eq_true rfl) d_X_lose_1 ⟨Nat.zero_le _, Nat.zero_le _⟩) (fun H locs hG => ?_)
  refine lv_if_ne (tgt := 10) hx hb d_X_lose_4 (by decide) (fun hc => ?_) (fun hc => ?_)
  · replace h := it_f h hc
    refine lv_aload_n hx hb d_X_lose_10 rfl (lv_at hl 0 rfl) ?_
    refine g_get C hG (hG.lt (Nat.le_of_ble_eq_true rfl)) (ce0 w _) rfl inC7 7 (Nat.le_of_ble_eq_true rfl) qw206 rfl d_X_lose_11 ?_
    refine lv_iload_n hx hb d_X_lose_14 rfl (lv_at hl 1 rfl) ?_
    obtain ⟨hi1, h⟩ := chk_some h
    refine g_aldS (j := ix x1) C hG (inb_in hi1) rfl d_X_lose_15 (fun hc => ?_) (fun hc => ?_)
    · replace h := it_t h hc
      refine lv_astore_nN (lv' := [(2, .null), (0, .ref (gad w 0)), (1, .int x1)]) hx hb d_X_lose_16 rfl hl (by decide) rfl (fun ls hl => ?_)
      refine lv_aload_nN hx hb d_X_lose_17 rfl (lv_at hl 0 rfl) ?_
      refine lv_ifnonnullN hx hb d_X_lose_18 ?_
      refine lv_aload_n hx hb d_X_lose_21 rfl (lv_at hl 1 rfl) ?_
      refine lv_iconst (v := 1) hx hb d_X_lose_22 (by decide) ?_
      obtain ⟨z1, hz1, h⟩ := bnd_some h
      refine g_goi hG (g_runV (As := [.int 1]) (rest := []) C hG (c_X_finding l w S 1 hz1 _) (hG.lt (Nat.le_of_ble_eq_true rfl)) (ce0 w _) rfl vw_X_143 rfl rfl ⟨by decide, by decide⟩ rfl hl.1 rfl (Nat.le_of_ble_eq_true rfl) d_X_lose_23 ⟨Nat.zero_le _, Nat.zero_le _⟩) (fun H locs hG => ?_)
      exact g_iret C hG (sm_fst h) (sm_snd h) hQ d_X_lose_26
    · replace h := it_f h hc
      obtain ⟨hi2, h⟩ := chk_some h
      replace hi2 := shB_in hi2
      refine lv_astore_n (lv' := [(2, .ref (gad w (ix (S 48 (ix x1))))), (0, .ref (gad w 0)), (1, .int x1)]) hx hb d_X_lose_16 rfl hl (by decide) rfl (fun ls hl => ?_)
      refine lv_aload_n hx hb d_X_lose_17 rfl (lv_at hl 0 rfl) ?_
      refine lv_ifnonnull (tgt := 27) hx hb d_X_lose_18 (by decide) ?_
      refine lv_aload_n hx hb d_X_lose_27 rfl (lv_at hl 1 rfl) ?_
      refine g_get C hG (hG.lt (Nat.le_of_ble_eq_true rfl)) (ce0 w _) rfl inC7 7 (Nat.le_of_ble_eq_true rfl) qw206 rfl d_X_lose_28 ?_
      refine lv_iload_n hx hb d_X_lose_31 rfl (lv_at hl 2 rfl) ?_
      refine lv_null hx hb d_X_lose_32 ?_
      obtain ⟨hi3, h⟩ := chk_some h
      refine g_astN (j := ix x1) C hG (inb_in hi3) rfl d_X_lose_33 (fun H locs hG => ?_)
      refine lv_aload_n hx hb d_X_lose_34 rfl (lv_at hl 0 rfl) ?_
      refine g_get C hG hi2.lt (hi2.obj _) rfl inC4 1 (Nat.le_of_ble_eq_true rfl) qw578 rfl d_X_lose_35 ?_
      refine g_alen (v := Int32.ofNat (gln w ((ix (S 48 (ix x1))) + 1))) C hG hi2.2.2 (hi2.arr _) rfl d_X_lose_38 ?_
      exact g_iret C hG (sm_fst h) (sm_snd h) hQ d_X_lose_39
  · replace h := it_t h hc
    refine lv_bipush (v := (-2)) hx hb d_X_lose_7 (by decide) ?_
    exact g_iret C hG (sm_fst h) (sm_snd h) hQ d_X_lose_9
theorem d_X_copy_0 : decode b_X_copy 0 = .ok (.iload_n 1, 1) := by decide +kernel
theorem d_X_copy_1 : decode b_X_copy 1 = .ok (.invokestatic 140, 3) := by decide +kernel
theorem d_X_copy_4 : decode b_X_copy 4 = .ok (.ifCond .eq 10, 3) := by decide +kernel
theorem d_X_copy_7 : decode b_X_copy 7 = .ok (.iload_n 3, 1) := by decide +kernel
theorem d_X_copy_8 : decode b_X_copy 8 = .ok (.invokestatic 140, 3) := by decide +kernel
theorem d_X_copy_11 : decode b_X_copy 11 = .ok (.ifCond .ne 6, 3) := by decide +kernel
theorem d_X_copy_14 : decode b_X_copy 14 = .ok (.bipush (-2), 2) := by decide +kernel
theorem d_X_copy_16 : decode b_X_copy 16 = .ok (.ireturn, 1) := by decide +kernel
theorem d_X_copy_17 : decode b_X_copy 17 = .ok (.aload_n 0, 1) := by decide +kernel
theorem d_X_copy_18 : decode b_X_copy 18 = .ok (.getfield 56, 3) := by decide +kernel
theorem d_X_copy_21 : decode b_X_copy 21 = .ok (.iload_n 1, 1) := by decide +kernel
theorem d_X_copy_22 : decode b_X_copy 22 = .ok (.aaload, 1) := by decide +kernel
theorem d_X_copy_23 : decode b_X_copy 23 = .ok (.astore 6, 2) := by decide +kernel
theorem d_X_copy_25 : decode b_X_copy 25 = .ok (.aload_n 0, 1) := by decide +kernel
theorem d_X_copy_26 : decode b_X_copy 26 = .ok (.getfield 56, 3) := by decide +kernel
theorem d_X_copy_29 : decode b_X_copy 29 = .ok (.iload_n 3, 1) := by decide +kernel
theorem d_X_copy_30 : decode b_X_copy 30 = .ok (.aaload, 1) := by decide +kernel
theorem d_X_copy_31 : decode b_X_copy 31 = .ok (.astore 7, 2) := by decide +kernel
theorem d_X_copy_33 : decode b_X_copy 33 = .ok (.aload 6, 2) := by decide +kernel
theorem d_X_copy_35 : decode b_X_copy 35 = .ok (.ifnull 8, 3) := by decide +kernel
theorem d_X_copy_38 : decode b_X_copy 38 = .ok (.aload 7, 2) := by decide +kernel
theorem d_X_copy_40 : decode b_X_copy 40 = .ok (.ifnonnull 9, 3) := by decide +kernel
theorem d_X_copy_43 : decode b_X_copy 43 = .ok (.aload_n 0, 1) := by decide +kernel
theorem d_X_copy_44 : decode b_X_copy 44 = .ok (.iconst 1, 1) := by decide +kernel
theorem d_X_copy_45 : decode b_X_copy 45 = .ok (.invokevirtual 143, 3) := by decide +kernel
theorem d_X_copy_48 : decode b_X_copy 48 = .ok (.ireturn, 1) := by decide +kernel
theorem d_X_copy_49 : decode b_X_copy 49 = .ok (.aload 6, 2) := by decide +kernel
theorem d_X_copy_51 : decode b_X_copy 51 = .ok (.getfield 266, 3) := by decide +kernel
theorem d_X_copy_54 : decode b_X_copy 54 = .ok (.aload 7, 2) := by decide +kernel
theorem d_X_copy_56 : decode b_X_copy 56 = .ok (.getfield 266, 3) := by decide +kernel
theorem d_X_copy_59 : decode b_X_copy 59 = .ok (.if_icmp .eq 9, 3) := by decide +kernel
theorem d_X_copy_62 : decode b_X_copy 62 = .ok (.aload_n 0, 1) := by decide +kernel
theorem d_X_copy_63 : decode b_X_copy 63 = .ok (.iconst 4, 1) := by decide +kernel
theorem d_X_copy_64 : decode b_X_copy 64 = .ok (.invokevirtual 143, 3) := by decide +kernel
theorem d_X_copy_67 : decode b_X_copy 67 = .ok (.ireturn, 1) := by decide +kernel
theorem d_X_copy_68 : decode b_X_copy 68 = .ok (.aload 6, 2) := by decide +kernel
theorem d_X_copy_70 : decode b_X_copy 70 = .ok (.iload_n 2, 1) := by decide +kernel
theorem d_X_copy_71 : decode b_X_copy 71 = .ok (.iload 5, 2) := by decide +kernel
theorem d_X_copy_73 : decode b_X_copy 73 = .ok (.invokevirtual 269, 3) := by decide +kernel
theorem d_X_copy_76 : decode b_X_copy 76 = .ok (.ifCond .eq 15, 3) := by decide +kernel
theorem d_X_copy_79 : decode b_X_copy 79 = .ok (.aload 7, 2) := by decide +kernel
theorem d_X_copy_81 : decode b_X_copy 81 = .ok (.iload 4, 2) := by decide +kernel
theorem d_X_copy_83 : decode b_X_copy 83 = .ok (.iload 5, 2) := by decide +kernel
theorem d_X_copy_85 : decode b_X_copy 85 = .ok (.invokevirtual 269, 3) := by decide +kernel
theorem d_X_copy_88 : decode b_X_copy 88 = .ok (.ifCond .ne 9, 3) := by decide +kernel
theorem d_X_copy_91 : decode b_X_copy 91 = .ok (.aload_n 0, 1) := by decide +kernel
theorem d_X_copy_92 : decode b_X_copy 92 = .ok (.iconst 2, 1) := by decide +kernel
theorem d_X_copy_93 : decode b_X_copy 93 = .ok (.invokevirtual 143, 3) := by decide +kernel
theorem d_X_copy_96 : decode b_X_copy 96 = .ok (.ireturn, 1) := by decide +kernel
theorem d_X_copy_97 : decode b_X_copy 97 = .ok (.aload 6, 2) := by decide +kernel
theorem d_X_copy_99 : decode b_X_copy 99 = .ok (.getfield 147, 3) := by decide +kernel
theorem d_X_copy_102 : decode b_X_copy 102 = .ok (.iload_n 2, 1) := by decide +kernel
theorem d_X_copy_103 : decode b_X_copy 103 = .ok (.aload 7, 2) := by decide +kernel
theorem d_X_copy_105 : decode b_X_copy 105 = .ok (.getfield 147, 3) := by decide +kernel
theorem d_X_copy_108 : decode b_X_copy 108 = .ok (.iload 4, 2) := by decide +kernel
theorem d_X_copy_110 : decode b_X_copy 110 = .ok (.iload 5, 2) := by decide +kernel
theorem d_X_copy_112 : decode b_X_copy 112 = .ok (.invokestatic 273, 3) := by decide +kernel
theorem d_X_copy_115 : decode b_X_copy 115 = .ok (.iconst 1, 1) := by decide +kernel
theorem d_X_copy_116 : decode b_X_copy 116 = .ok (.ireturn, 1) := by decide +kernel
noncomputable def X_copy_J43 (w : gw) (S : St) : Option (Int32 × St) :=
  bnd (X_finding S 1) fun z1 =>
    some (z1.1, z1.2)
noncomputable def X_copy_J91 (w : gw) (S : St) : Option (Int32 × St) :=
  bnd (X_finding S 2) fun z2 =>
    some (z2.1, z2.2)
noncomputable def X_copy (w : gw) (S : St) (x1 : Int32) (x2 : Int32) (x3 : Int32) (x4 : Int32) (x5 : Int32) : Option (Int32 × St) :=
  if (X_isSheet x1) = 0 then
      some ((-2), S)
    else
      if (X_isSheet x3) = 0 then
        some ((-2), S)
      else
        chk (inb x1 4) <|
        if S 48 (ix x1) < 0 then
          chk (inb x3 4) <|
          if S 48 (ix x3) < 0 then
            X_copy_J43 w S
          else
            chk (shB w (S 48 (ix x3))) <|
            X_copy_J43 w S
        else
          chk (shB w (S 48 (ix x1))) <|
          chk (inb x3 4) <|
          if S 48 (ix x3) < 0 then
            X_copy_J43 w S
          else
            chk (shB w (S 48 (ix x3))) <|
            if (S (ix (S 48 (ix x1))) 0) = (S (ix (S 48 (ix x3))) 0) then
              bnd (SH_hasItems w S (ix (S 48 (ix x1))) x2 x5) fun z3 =>
              if z3 = 0 then
                X_copy_J91 w S
              else
                bnd (SH_hasItems w S (ix (S 48 (ix x3))) x4 x5) fun z4 =>
                if z4 = 0 then
                  X_copy_J91 w S
                else
                  chk (cpB x2 x4 x5 (gln w ((ix (S 48 (ix x1))) + 1)) (gln w ((ix (S 48 (ix x3))) + 1))) <|
                  some (1, upR S ((ix (S 48 (ix x3))) + 1) (va_cpy (S ((ix (S 48 (ix x1))) + 1)) (S ((ix (S 48 (ix x3))) + 1)) (ix x2) (ix x4) (ix x5)))
            else
              bnd (X_finding S 4) fun z5 =>
              some (z5.1, z5.2)
set_option maxHeartbeats 4000000 in
set_option maxRecDepth 100000 in
theorem c_X_copy (l : Launch) (w : gw) (S : St) (x1 : Int32) (x2 : Int32) (x3 : Int32) (x4 : Int32) (x5 : Int32)  {z : Int32 × St} (h : (X_copy w S x1 x2 x3 x4 x5) = some z) : gMi l w y_X_copy b_X_copy 8 (some .int) (rmm 2 42) [.ref (gad w 0), .int x1, .int x2, .int x3, .int x4, .int x5] S z.1 z.2 := by
  unfold X_copy at h
  refine g_met (Qc := gQi w z.1 z.2) (by decide +kernel) (Nat.le_of_ble_eq_true rfl) ?_
  intro p e s m args below meth c A Q ls hQ C hG hl
  have hx := C.1
  have hb := C.2.1
  have hl : lv_has ls 8 [(0, .ref (gad w 0)), (1, .int x1), (2, .int x2), (3, .int x3), (4, .int x4), (5, .int x5)] := hl
  have J43 : ∀ (S : St), X_copy_J43 w S = some z → ∀ (ls : Array Slot) (H : Heap) (locs : List Loc), GH w s A S H locs → lv_has ls 8 [(0, .ref (gad w 0))] → W p l e (rmm 2 42) s m args below meth c H locs 0 0 Q (F0 m 43 ls []) := by
    intro S h ls H locs hG hl
    unfold X_copy_J43 at h
    refine lv_aload_n hx hb d_X_copy_43 rfl (lv_at hl 0 rfl) ?_
    refine lv_iconst (v := 1) hx hb d_X_copy_44 (by decide) ?_
    obtain ⟨z1, hz1, h⟩ := bnd_some h
    refine g_goi hG (g_runV (As := [.int 1]) (rest := []) C hG (c_X_finding l w S 1 hz1 _) (hG.lt (Nat.le_of_ble_eq_true rfl)) (ce0 w _) rfl vw_X_143 rfl rfl ⟨by decide, by decide⟩ rfl hl.1 rfl (Nat.le_of_ble_eq_true rfl) d_X_copy_45 ⟨Nat.zero_le _, Nat.zero_le _⟩) (fun H locs hG => ?_)
    exact g_iret C hG (sm_fst h) (sm_snd h) hQ d_X_copy_48
  have J91 : ∀ (S : St), X_copy_J91 w S = some z → ∀ (ls : Array Slot) (H : Heap) (locs : List Loc), GH w s A S H locs → lv_has ls 8 [(0, .ref (gad w 0))] → W p l e (rmm 2 42) s m args below meth c H locs 0 0 Q (F0 m 91 ls []) := by
    intro S h ls H locs hG hl
    unfold X_copy_J91 at h
    refine lv_aload_n hx hb d_X_copy_91 rfl (lv_at hl 0 rfl) ?_
    refine lv_iconst (v := 2) hx hb d_X_copy_92 (by decide) ?_
    obtain ⟨z2, hz2, h⟩ := bnd_some h
    refine g_goi hG (g_runV (As := [.int 2]) (rest := []) C hG (c_X_finding l w S 2 hz2 _) (hG.lt (Nat.le_of_ble_eq_true rfl)) (ce0 w _) rfl vw_X_143 rfl rfl ⟨by decide, by decide⟩ rfl hl.1 rfl (Nat.le_of_ble_eq_true rfl) d_X_copy_93 ⟨Nat.zero_le _, Nat.zero_le _⟩) (fun H locs hG => ?_)
    exact g_iret C hG (sm_fst h) (sm_snd h) hQ d_X_copy_96
  refine lv_iload_n hx hb d_X_copy_0 rfl (lv_at hl 1 rfl) ?_
  refine g_goi hG (g_runS (As := [.int x1]) (rest := []) C hG (c_X_isSheet l w S x1 _) sw_X_140 rfl rfl ⟨by decide, by decide⟩ rfl hl.1 rfl (Nat.le_of_ble_eq_true rfl) d_X_copy_1 ⟨Nat.zero_le _, Nat.zero_le _⟩) (fun H locs hG => ?_)
  refine lv_if_eq (tgt := 14) hx hb d_X_copy_4 (by decide) (fun hc => ?_) (fun hc => ?_)
  · replace h := it_t h hc
    refine lv_bipush (v := (-2)) hx hb d_X_copy_14 (by decide) ?_
    exact g_iret C hG (sm_fst h) (sm_snd h) hQ d_X_copy_16
  · replace h := it_f h hc
    refine lv_iload_n hx hb d_X_copy_7 rfl (lv_at hl 3 rfl) ?_
    refine g_goi hG (g_runS (As := [.int x3]) (rest := []) C hG (c_X_isSheet l w S x3 _) sw_X_140 rfl rfl ⟨by decide, by decide⟩ rfl hl.1 rfl (Nat.le_of_ble_eq_true rfl) d_X_copy_8 ⟨Nat.zero_le _, Nat.zero_le _⟩) (fun H locs hG => ?_)
    refine lv_if_ne (tgt := 17) hx hb d_X_copy_11 (by decide) (fun hc => ?_) (fun hc => ?_)
    · replace h := it_f h hc
      refine lv_aload_n hx hb d_X_copy_17 rfl (lv_at hl 0 rfl) ?_
      refine g_get C hG (hG.lt (Nat.le_of_ble_eq_true rfl)) (ce0 w _) rfl inC7 7 (Nat.le_of_ble_eq_true rfl) qw206 rfl d_X_copy_18 ?_
      refine lv_iload_n hx hb d_X_copy_21 rfl (lv_at hl 1 rfl) ?_
      obtain ⟨hi1, h⟩ := chk_some h
      refine g_aldS (j := ix x1) C hG (inb_in hi1) rfl d_X_copy_22 (fun hc => ?_) (fun hc => ?_)
      · replace h := it_t h hc
        refine lv_astoreN (lv' := [(6, .null), (0, .ref (gad w 0)), (1, .int x1), (2, .int x2), (3, .int x3), (4, .int x4), (5, .int x5)]) hx hb d_X_copy_23 hl (by decide) rfl (fun ls hl => ?_)
        refine lv_aload_n hx hb d_X_copy_25 rfl (lv_at hl 1 rfl) ?_
        refine g_get C hG (hG.lt (Nat.le_of_ble_eq_true rfl)) (ce0 w _) rfl inC7 7 (Nat.le_of_ble_eq_true rfl) qw206 rfl d_X_copy_26 ?_
        refine lv_iload_n hx hb d_X_copy_29 rfl (lv_at hl 4 rfl) ?_
        obtain ⟨hi3, h⟩ := chk_some h
        refine g_aldS (j := ix x3) C hG (inb_in hi3) rfl d_X_copy_30 (fun hc => ?_) (fun hc => ?_)
        · replace h := it_t h hc
          refine lv_astoreN (lv' := [(7, .null), (6, .null), (0, .ref (gad w 0)), (1, .int x1), (2, .int x2), (3, .int x3), (4, .int x4), (5, .int x5)]) hx hb d_X_copy_31 hl (by decide) rfl (fun ls hl => ?_)
          refine lv_aloadN hx hb d_X_copy_33 (lv_at hl 1 rfl) ?_
          refine lv_ifnullN (tgt := 43) hx hb d_X_copy_35 (by decide) ?_
          exact J43 _ h ls _ _ hG (lv_sub hl [2] rfl)
        · replace h := it_f h hc
          obtain ⟨hi4, h⟩ := chk_some h
          replace hi4 := shB_in hi4
          refine lv_astore (lv' := [(7, .ref (gad w (ix (S 48 (ix x3))))), (6, .null), (0, .ref (gad w 0)), (1, .int x1), (2, .int x2), (3, .int x3), (4, .int x4), (5, .int x5)]) hx hb d_X_copy_31 hl (by decide) rfl (fun ls hl => ?_)
          refine lv_aloadN hx hb d_X_copy_33 (lv_at hl 1 rfl) ?_
          refine lv_ifnullN (tgt := 43) hx hb d_X_copy_35 (by decide) ?_
          exact J43 _ h ls _ _ hG (lv_sub hl [2] rfl)
      · replace h := it_f h hc
        obtain ⟨hi2, h⟩ := chk_some h
        replace hi2 := shB_in hi2
        refine lv_astore (lv' := [(6, .ref (gad w (ix (S 48 (ix x1))))), (0, .ref (gad w 0)), (1, .int x1), (2, .int x2), (3, .int x3), (4, .int x4), (5, .int x5)]) hx hb d_X_copy_23 hl (by decide) rfl (fun ls hl => ?_)
        refine lv_aload_n hx hb d_X_copy_25 rfl (lv_at hl 1 rfl) ?_
        refine g_get C hG (hG.lt (Nat.le_of_ble_eq_true rfl)) (ce0 w _) rfl inC7 7 (Nat.le_of_ble_eq_true rfl) qw206 rfl d_X_copy_26 ?_
        refine lv_iload_n hx hb d_X_copy_29 rfl (lv_at hl 4 rfl) ?_
        obtain ⟨hi5, h⟩ := chk_some h
        refine g_aldS (j := ix x3) C hG (inb_in hi5) rfl d_X_copy_30 (fun hc => ?_) (fun hc => ?_)
        · replace h := it_t h hc
          refine lv_astoreN (lv' := [(7, .null), (6, .ref (gad w (ix (S 48 (ix x1))))), (0, .ref (gad w 0)), (1, .int x1), (2, .int x2), (3, .int x3), (4, .int x4), (5, .int x5)]) hx hb d_X_copy_31 hl (by decide) rfl (fun ls hl => ?_)
          refine lv_aload hx hb d_X_copy_33 (lv_at hl 1 rfl) ?_
          refine lv_ifnull hx hb d_X_copy_35 ?_
          refine lv_aloadN hx hb d_X_copy_38 (lv_at hl 0 rfl) ?_
          refine lv_ifnonnullN hx hb d_X_copy_40 ?_
          exact J43 _ h ls _ _ hG (lv_sub hl [2] rfl)
        · replace h := it_f h hc
          obtain ⟨hi6, h⟩ := chk_some h
          replace hi6 := shB_in hi6
          refine lv_astore (lv' := [(7, .ref (gad w (ix (S 48 (ix x3))))), (6, .ref (gad w (ix (S 48 (ix x1))))), (0, .ref (gad w 0)), (1, .int x1), (2, .int x2), (3, .int x3), (4, .int x4), (5, .int x5)]) hx hb d_X_copy_31 hl (by decide) rfl (fun ls hl => ?_)
          refine lv_aload hx hb d_X_copy_33 (lv_at hl 1 rfl) ?_
          refine lv_ifnull hx hb d_X_copy_35 ?_
          refine lv_aload hx hb d_X_copy_38 (lv_at hl 0 rfl) ?_
          refine lv_ifnonnull (tgt := 49) hx hb d_X_copy_40 (by decide) ?_
          refine lv_aload hx hb d_X_copy_49 (lv_at hl 1 rfl) ?_
          refine g_get C hG hi2.lt (hi2.obj _) rfl inC4 0 (Nat.le_of_ble_eq_true rfl) qw576 rfl d_X_copy_51 ?_
          refine lv_aload hx hb d_X_copy_54 (lv_at hl 0 rfl) ?_
          refine g_get C hG hi6.lt (hi6.obj _) rfl inC4 0 (Nat.le_of_ble_eq_true rfl) qw576 rfl d_X_copy_56 ?_
          refine lv_icmp_eq (tgt := 68) hx hb d_X_copy_59 (by decide) (fun hc => ?_) (fun hc => ?_)
          · replace h := it_t h hc
            refine lv_aload hx hb d_X_copy_68 (lv_at hl 1 rfl) ?_
            refine lv_iload_n hx hb d_X_copy_70 rfl (lv_at hl 4 rfl) ?_
            refine lv_iload hx hb d_X_copy_71 (lv_at hl 7 rfl) ?_
            obtain ⟨z3, hz3, h⟩ := bnd_some h
            refine g_goi hG (g_runV (As := [.int x2, .int x5]) (rest := []) C hG (c_SH_hasItems l w S (ix (S 48 (ix x1))) x2 x5 hi2 hz3 _) hi2.lt (hi2.obj _) rfl vw_X_269 rfl rfl ⟨by decide, by decide⟩ rfl hl.1 rfl (Nat.le_of_ble_eq_true rfl) d_X_copy_73 ⟨Nat.zero_le _, Nat.zero_le _⟩) (fun H locs hG => ?_)
            refine lv_if_eq (tgt := 91) hx hb d_X_copy_76 (by decide) (fun hc => ?_) (fun hc => ?_)
            · replace h := it_t h hc
              exact J91 _ h ls _ _ hG (lv_sub hl [2] rfl)
            · replace h := it_f h hc
              refine lv_aload hx hb d_X_copy_79 (lv_at hl 0 rfl) ?_
              refine lv_iload hx hb d_X_copy_81 (lv_at hl 6 rfl) ?_
              refine lv_iload hx hb d_X_copy_83 (lv_at hl 7 rfl) ?_
              obtain ⟨z4, hz4, h⟩ := bnd_some h
              refine g_goi hG (g_runV (As := [.int x4, .int x5]) (rest := []) C hG (c_SH_hasItems l w S (ix (S 48 (ix x3))) x4 x5 hi6 hz4 _) hi6.lt (hi6.obj _) rfl vw_X_269 rfl rfl ⟨by decide, by decide⟩ rfl hl.1 rfl (Nat.le_of_ble_eq_true rfl) d_X_copy_85 ⟨Nat.zero_le _, Nat.zero_le _⟩) (fun H locs hG => ?_)
              refine lv_if_ne (tgt := 97) hx hb d_X_copy_88 (by decide) (fun hc => ?_) (fun hc => ?_)
              · replace h := it_f h hc
                refine lv_aload hx hb d_X_copy_97 (lv_at hl 1 rfl) ?_
                refine g_get C hG hi2.lt (hi2.obj _) rfl inC4 1 (Nat.le_of_ble_eq_true rfl) qw578 rfl d_X_copy_99 ?_
                refine lv_iload_n hx hb d_X_copy_102 rfl (lv_at hl 4 rfl) ?_
                refine lv_aload hx hb d_X_copy_103 (lv_at hl 0 rfl) ?_
                refine g_get C hG hi6.lt (hi6.obj _) rfl inC4 1 (Nat.le_of_ble_eq_true rfl) qw578 rfl d_X_copy_105 ?_
                refine lv_iload hx hb d_X_copy_108 (lv_at hl 6 rfl) ?_
                refine lv_iload hx hb d_X_copy_110 (lv_at hl 7 rfl) ?_
                obtain ⟨hi7, h⟩ := chk_some h
                refine g_copy C hG hl.1 hi2.2.2 hi6.2.2 hi2.arr hi6.arr (cpB_in hi7) qw612 qn_ac qw613 qw12 ⟨by decide, by decide +kernel⟩ (Nat.le_of_ble_eq_true rfl) d_X_copy_112 (fun H locs hG => ?_)
                refine lv_iconst (v := 1) hx hb d_X_copy_115 (by decide) ?_
                exact g_iret C hG (sm_fst h) (sm_snd h) hQ d_X_copy_116
              · replace h := it_t h hc
                exact J91 _ h ls _ _ hG (lv_sub hl [2] rfl)
          · replace h := it_f h hc
            refine lv_aload_n hx hb d_X_copy_62 rfl (lv_at hl 2 rfl) ?_
            refine lv_iconst (v := 4) hx hb d_X_copy_63 (by decide) ?_
            obtain ⟨z5, hz5, h⟩ := bnd_some h
            refine g_goi hG (g_runV (As := [.int 4]) (rest := []) C hG (c_X_finding l w S 4 hz5 _) (hG.lt (Nat.le_of_ble_eq_true rfl)) (ce0 w _) rfl vw_X_143 rfl rfl ⟨by decide, by decide⟩ rfl hl.1 rfl (Nat.le_of_ble_eq_true rfl) d_X_copy_64 ⟨Nat.zero_le _, Nat.zero_le _⟩) (fun H locs hG => ?_)
            exact g_iret C hG (sm_fst h) (sm_snd h) hQ d_X_copy_67
    · replace h := it_t h hc
      refine lv_bipush (v := (-2)) hx hb d_X_copy_14 (by decide) ?_
      exact g_iret C hG (sm_fst h) (sm_snd h) hQ d_X_copy_16
noncomputable def X_findingAt (w : gw) (S : St) (a0 : Nat) (x1 : Int32) (x2 : Int32) : Option (Int32) :=
  if (S a0 0) = x1 then
      bnd (SH_hasItems w S a0 x2 1) fun z1 =>
      if z1 = 0 then
        some 2
      else
        some 0
    else
      some 3
set_option maxHeartbeats 4000000 in
set_option maxRecDepth 100000 in
theorem c_X_findingAt (l : Launch) (w : gw) (S : St) (a0 : Nat) (x1 : Int32) (x2 : Int32) (ha0 : shO w a0) {z : Int32} (h : (X_findingAt w S a0 x1 x2) = some z) : gMi l w y_X_findingAt b_X_findingAt 3 (some .int) (rmm 1 22) [.ref (gad w a0), .int x1, .int x2] S z S := by
  unfold X_findingAt at h
  refine g_met (Qc := gQi w z S) (by decide +kernel) (Nat.le_of_ble_eq_true rfl) ?_
  intro p e s m args below meth c A Q ls hQ C hG hl
  have hx := C.1
  have hb := C.2.1
  have hl : lv_has ls 3 [(0, .ref (gad w a0)), (1, .int x1), (2, .int x2)] := hl
  refine lv_aload_n hx hb d_X_findingAt_0 rfl (lv_at hl 0 rfl) ?_
  refine lv_ifnonnull (tgt := 6) hx hb d_X_findingAt_1 (by decide) ?_
  refine lv_aload_n hx hb d_X_findingAt_6 rfl (lv_at hl 0 rfl) ?_
  refine g_get C hG ha0.lt (ha0.obj _) rfl inC4 0 (Nat.le_of_ble_eq_true rfl) qw576 rfl d_X_findingAt_7 ?_
  refine lv_iload_n hx hb d_X_findingAt_10 rfl (lv_at hl 1 rfl) ?_
  refine lv_icmp_eq (tgt := 16) hx hb d_X_findingAt_11 (by decide) (fun hc => ?_) (fun hc => ?_)
  · replace h := it_t h hc
    refine lv_aload_n hx hb d_X_findingAt_16 rfl (lv_at hl 0 rfl) ?_
    refine lv_iload_n hx hb d_X_findingAt_17 rfl (lv_at hl 2 rfl) ?_
    refine lv_iconst (v := 1) hx hb d_X_findingAt_18 (by decide) ?_
    obtain ⟨z1, hz1, h⟩ := bnd_some h
    refine g_goi hG (g_runV (As := [.int x2, .int 1]) (rest := []) C hG (c_SH_hasItems l w S a0 x2 1 ha0 hz1 _) ha0.lt (ha0.obj _) rfl vw_X_269 rfl rfl ⟨by decide, by decide⟩ rfl hl.1 rfl (Nat.le_of_ble_eq_true rfl) d_X_findingAt_19 ⟨Nat.zero_le _, Nat.zero_le _⟩) (fun H locs hG => ?_)
    refine lv_if_eq (tgt := 29) hx hb d_X_findingAt_22 (by decide) (fun hc => ?_) (fun hc => ?_)
    · replace h := it_t h hc
      refine lv_iconst (v := 2) hx hb d_X_findingAt_29 (by decide) ?_
      exact g_iret C hG (Option.some.inj h) rfl hQ d_X_findingAt_30
    · replace h := it_f h hc
      refine lv_iconst (v := 0) hx hb d_X_findingAt_25 (by decide) ?_
      refine lv_goto (tgt := 30) hx hb d_X_findingAt_26 (by decide) ?_
      exact g_iret C hG (Option.some.inj h) rfl hQ d_X_findingAt_30
  · replace h := it_f h hc
    refine lv_iconst (v := 3) hx hb d_X_findingAt_14 (by decide) ?_
    exact g_iret C hG (Option.some.inj h) rfl hQ d_X_findingAt_15
theorem d_X_lay_0 : decode b_X_lay 0 = .ok (.iload_n 1, 1) := by decide +kernel
theorem d_X_lay_1 : decode b_X_lay 1 = .ok (.invokestatic 140, 3) := by decide +kernel
theorem d_X_lay_4 : decode b_X_lay 4 = .ok (.ifCond .eq 10, 3) := by decide +kernel
theorem d_X_lay_7 : decode b_X_lay 7 = .ok (.iload_n 2, 1) := by decide +kernel
theorem d_X_lay_8 : decode b_X_lay 8 = .ok (.invokestatic 253, 3) := by decide +kernel
theorem d_X_lay_11 : decode b_X_lay 11 = .ok (.ifCond .ne 6, 3) := by decide +kernel
theorem d_X_lay_14 : decode b_X_lay 14 = .ok (.bipush (-2), 2) := by decide +kernel
theorem d_X_lay_16 : decode b_X_lay 16 = .ok (.ireturn, 1) := by decide +kernel
theorem d_X_lay_17 : decode b_X_lay 17 = .ok (.aload_n 0, 1) := by decide +kernel
theorem d_X_lay_18 : decode b_X_lay 18 = .ok (.getfield 56, 3) := by decide +kernel
theorem d_X_lay_21 : decode b_X_lay 21 = .ok (.iload_n 1, 1) := by decide +kernel
theorem d_X_lay_22 : decode b_X_lay 22 = .ok (.aaload, 1) := by decide +kernel
theorem d_X_lay_23 : decode b_X_lay 23 = .ok (.astore 5, 2) := by decide +kernel
theorem d_X_lay_25 : decode b_X_lay 25 = .ok (.aload 5, 2) := by decide +kernel
theorem d_X_lay_27 : decode b_X_lay 27 = .ok (.iload_n 2, 1) := by decide +kernel
theorem d_X_lay_28 : decode b_X_lay 28 = .ok (.iload_n 3, 1) := by decide +kernel
theorem d_X_lay_29 : decode b_X_lay 29 = .ok (.invokestatic 258, 3) := by decide +kernel
theorem d_X_lay_32 : decode b_X_lay 32 = .ok (.istore 6, 2) := by decide +kernel
theorem d_X_lay_34 : decode b_X_lay 34 = .ok (.aload 5, 2) := by decide +kernel
theorem d_X_lay_36 : decode b_X_lay 36 = .ok (.ifnull 8, 3) := by decide +kernel
theorem d_X_lay_39 : decode b_X_lay 39 = .ok (.iload 6, 2) := by decide +kernel
theorem d_X_lay_41 : decode b_X_lay 41 = .ok (.ifCond .eq 10, 3) := by decide +kernel
theorem d_X_lay_44 : decode b_X_lay 44 = .ok (.aload_n 0, 1) := by decide +kernel
theorem d_X_lay_45 : decode b_X_lay 45 = .ok (.iload 6, 2) := by decide +kernel
theorem d_X_lay_47 : decode b_X_lay 47 = .ok (.invokevirtual 143, 3) := by decide +kernel
theorem d_X_lay_50 : decode b_X_lay 50 = .ok (.ireturn, 1) := by decide +kernel
theorem d_X_lay_51 : decode b_X_lay 51 = .ok (.aload 5, 2) := by decide +kernel
theorem d_X_lay_53 : decode b_X_lay 53 = .ok (.iload_n 3, 1) := by decide +kernel
theorem d_X_lay_54 : decode b_X_lay 54 = .ok (.iload 4, 2) := by decide +kernel
theorem d_X_lay_56 : decode b_X_lay 56 = .ok (.invokevirtual 262, 3) := by decide +kernel
theorem d_X_lay_59 : decode b_X_lay 59 = .ok (.iconst 1, 1) := by decide +kernel
theorem d_X_lay_60 : decode b_X_lay 60 = .ok (.ireturn, 1) := by decide +kernel
noncomputable def X_lay_J44 (w : gw) (S : St) (x6 : Int32) : Option (Int32 × St) :=
  bnd (X_finding S x6) fun z1 =>
    some (z1.1, z1.2)
noncomputable def X_lay (w : gw) (S : St) (x1 : Int32) (x2 : Int32) (x3 : Int32) (x4 : Int32) : Option (Int32 × St) :=
  if (X_isSheet x1) = 0 then
      some ((-2), S)
    else
      if (X_isForm x2) = 0 then
        some ((-2), S)
      else
        chk (inb x1 4) <|
        if S 48 (ix x1) < 0 then
          bnd (X_findingAt_n w S x2 x3) fun z2 =>
          X_lay_J44 w S z2
        else
          chk (shB w (S 48 (ix x1))) <|
          bnd (X_findingAt w S (ix (S 48 (ix x1))) x2 x3) fun z3 =>
          if z3 = 0 then
            bnd (SH_put w S (ix (S 48 (ix x1))) x3 x4) fun z4 =>
            some (1, z4)
          else
            X_lay_J44 w S z3
set_option maxHeartbeats 4000000 in
set_option maxRecDepth 100000 in
theorem c_X_lay (l : Launch) (w : gw) (S : St) (x1 : Int32) (x2 : Int32) (x3 : Int32) (x4 : Int32)  {z : Int32 × St} (h : (X_lay w S x1 x2 x3 x4) = some z) : gMi l w y_X_lay b_X_lay 7 (some .int) (rmm 2 44) [.ref (gad w 0), .int x1, .int x2, .int x3, .int x4] S z.1 z.2 := by
  unfold X_lay at h
  refine g_met (Qc := gQi w z.1 z.2) (by decide +kernel) (Nat.le_of_ble_eq_true rfl) ?_
  intro p e s m args below meth c A Q ls hQ C hG hl
  have hx := C.1
  have hb := C.2.1
  have hl : lv_has ls 7 [(0, .ref (gad w 0)), (1, .int x1), (2, .int x2), (3, .int x3), (4, .int x4)] := hl
  have J44 : ∀ (S : St) (x6 : Int32), X_lay_J44 w S x6 = some z → ∀ (ls : Array Slot) (H : Heap) (locs : List Loc), GH w s A S H locs → lv_has ls 7 [(0, .ref (gad w 0)), (6, .int x6)] → W p l e (rmm 2 44) s m args below meth c H locs 0 0 Q (F0 m 44 ls []) := by
    intro S x6 h ls H locs hG hl
    unfold X_lay_J44 at h
    refine lv_aload_n hx hb d_X_lay_44 rfl (lv_at hl 0 rfl) ?_
    refine lv_iload hx hb d_X_lay_45 (lv_at hl 1 rfl) ?_
    obtain ⟨z1, hz1, h⟩ := bnd_some h
    refine g_goi hG (g_runV (As := [.int x6]) (rest := []) C hG (c_X_finding l w S x6 hz1 _) (hG.lt (Nat.le_of_ble_eq_true rfl)) (ce0 w _) rfl vw_X_143 rfl rfl ⟨by decide, by decide⟩ rfl hl.1 rfl (Nat.le_of_ble_eq_true rfl) d_X_lay_47 ⟨Nat.zero_le _, Nat.zero_le _⟩) (fun H locs hG => ?_)
    exact g_iret C hG (sm_fst h) (sm_snd h) hQ d_X_lay_50
  refine lv_iload_n hx hb d_X_lay_0 rfl (lv_at hl 1 rfl) ?_
  refine g_goi hG (g_runS (As := [.int x1]) (rest := []) C hG (c_X_isSheet l w S x1 _) sw_X_140 rfl rfl ⟨by decide, by decide⟩ rfl hl.1 rfl (Nat.le_of_ble_eq_true rfl) d_X_lay_1 ⟨Nat.zero_le _, Nat.zero_le _⟩) (fun H locs hG => ?_)
  refine lv_if_eq (tgt := 14) hx hb d_X_lay_4 (by decide) (fun hc => ?_) (fun hc => ?_)
  · replace h := it_t h hc
    refine lv_bipush (v := (-2)) hx hb d_X_lay_14 (by decide) ?_
    exact g_iret C hG (sm_fst h) (sm_snd h) hQ d_X_lay_16
  · replace h := it_f h hc
    refine lv_iload_n hx hb d_X_lay_7 rfl (lv_at hl 2 rfl) ?_
    refine g_goi hG (g_runS (As := [.int x2]) (rest := []) C hG (c_X_isForm l w S x2 _) sw_X_253 rfl rfl ⟨by decide, by decide⟩ rfl hl.1 rfl (Nat.le_of_ble_eq_true rfl) d_X_lay_8 ⟨Nat.zero_le _, Nat.zero_le _⟩) (fun H locs hG => ?_)
    refine lv_if_ne (tgt := 17) hx hb d_X_lay_11 (by decide) (fun hc => ?_) (fun hc => ?_)
    · replace h := it_f h hc
      refine lv_aload_n hx hb d_X_lay_17 rfl (lv_at hl 0 rfl) ?_
      refine g_get C hG (hG.lt (Nat.le_of_ble_eq_true rfl)) (ce0 w _) rfl inC7 7 (Nat.le_of_ble_eq_true rfl) qw206 rfl d_X_lay_18 ?_
      refine lv_iload_n hx hb d_X_lay_21 rfl (lv_at hl 1 rfl) ?_
      obtain ⟨hi1, h⟩ := chk_some h
      refine g_aldS (j := ix x1) C hG (inb_in hi1) rfl d_X_lay_22 (fun hc => ?_) (fun hc => ?_)
      · replace h := it_t h hc
        refine lv_astoreN (lv' := [(5, .null), (0, .ref (gad w 0)), (1, .int x1), (2, .int x2), (3, .int x3), (4, .int x4)]) hx hb d_X_lay_23 hl (by decide) rfl (fun ls hl => ?_)
        refine lv_aloadN hx hb d_X_lay_25 (lv_at hl 0 rfl) ?_
        refine lv_iload_n hx hb d_X_lay_27 rfl (lv_at hl 3 rfl) ?_
        refine lv_iload_n hx hb d_X_lay_28 rfl (lv_at hl 4 rfl) ?_
        obtain ⟨z2, hz2, h⟩ := bnd_some h
        refine g_goi hG (g_runS (As := [.null, .int x2, .int x3]) (rest := []) C hG (c_X_findingAt_n l w S x2 x3 hz2 _) sw_X_258 rfl rfl ⟨by decide, by decide⟩ rfl hl.1 rfl (Nat.le_of_ble_eq_true rfl) d_X_lay_29 ⟨Nat.zero_le _, Nat.zero_le _⟩) (fun H locs hG => ?_)
        refine lv_istore (lv' := [(6, .int z2), (5, .null), (0, .ref (gad w 0)), (1, .int x1), (2, .int x2), (3, .int x3), (4, .int x4)]) hx hb d_X_lay_32 hl (by decide) rfl (fun ls hl => ?_)
        refine lv_aloadN hx hb d_X_lay_34 (lv_at hl 1 rfl) ?_
        refine lv_ifnullN (tgt := 44) hx hb d_X_lay_36 (by decide) ?_
        exact J44 _ _ h ls _ _ hG (lv_sub hl [2, 0] rfl)
      · replace h := it_f h hc
        obtain ⟨hi2, h⟩ := chk_some h
        replace hi2 := shB_in hi2
        refine lv_astore (lv' := [(5, .ref (gad w (ix (S 48 (ix x1))))), (0, .ref (gad w 0)), (1, .int x1), (2, .int x2), (3, .int x3), (4, .int x4)]) hx hb d_X_lay_23 hl (by decide) rfl (fun ls hl => ?_)
        refine lv_aload hx hb d_X_lay_25 (lv_at hl 0 rfl) ?_
        refine lv_iload_n hx hb d_X_lay_27 rfl (lv_at hl 3 rfl) ?_
        refine lv_iload_n hx hb d_X_lay_28 rfl (lv_at hl 4 rfl) ?_
        obtain ⟨z3, hz3, h⟩ := bnd_some h
        refine g_goi hG (g_runS (As := [.ref (gad w (ix (S 48 (ix x1)))), .int x2, .int x3]) (rest := []) C hG (c_X_findingAt l w S (ix (S 48 (ix x1))) x2 x3 hi2 hz3 _) sw_X_258 rfl rfl ⟨by decide, by decide⟩ rfl hl.1 rfl (Nat.le_of_ble_eq_true rfl) d_X_lay_29 ⟨Nat.zero_le _, Nat.zero_le _⟩) (fun H locs hG => ?_)
        refine lv_istore (lv' := [(6, .int z3), (5, .ref (gad w (ix (S 48 (ix x1))))), (0, .ref (gad w 0)), (1, .int x1), (2, .int x2), (3, .int x3), (4, .int x4)]) hx hb d_X_lay_32 hl (by decide) rfl (fun ls hl => ?_)
        refine lv_aload hx hb d_X_lay_34 (lv_at hl 1 rfl) ?_
        refine lv_ifnull hx hb d_X_lay_36 ?_
        refine lv_iload hx hb d_X_lay_39 (lv_at hl 0 rfl) ?_
        refine lv_if_eq (tgt := 51) hx hb d_X_lay_41 (by decide) (fun hc => ?_) (fun hc => ?_)
        · replace h := it_t h hc
          refine lv_aload hx hb d_X_lay_51 (lv_at hl 1 rfl) ?_
          refine lv_iload_n hx hb d_X_lay_53 rfl (lv_at hl 5 rfl) ?_
          refine lv_iload hx hb d_X_lay_54 (lv_at hl 6 rfl) ?_
          obtain ⟨z4, hz4, h⟩ := bnd_some h
          refine g_gov hG (g_runV (As := [.int x3, .int x4]) (rest := []) C hG (c_SH_put l w S (ix (S 48 (ix x1))) x3 x4 hi2 hz4 _) hi2.lt (hi2.obj _) rfl vw_X_262 rfl rfl ⟨by decide, by decide⟩ rfl hl.1 rfl (Nat.le_of_ble_eq_true rfl) d_X_lay_56 ⟨Nat.zero_le _, Nat.zero_le _⟩) (fun H locs hG => ?_)
          refine lv_iconst (v := 1) hx hb d_X_lay_59 (by decide) ?_
          exact g_iret C hG (sm_fst h) (sm_snd h) hQ d_X_lay_60
        · replace h := it_f h hc
          exact J44 _ _ h ls _ _ hG (lv_sub hl [2, 0] rfl)
    · replace h := it_t h hc
      refine lv_bipush (v := (-2)) hx hb d_X_lay_14 (by decide) ?_
      exact g_iret C hG (sm_fst h) (sm_snd h) hQ d_X_lay_16
theorem d_X_get_0 : decode b_X_get 0 = .ok (.iload_n 1, 1) := by decide +kernel
theorem d_X_get_1 : decode b_X_get 1 = .ok (.invokestatic 140, 3) := by decide +kernel
theorem d_X_get_4 : decode b_X_get 4 = .ok (.ifCond .eq 10, 3) := by decide +kernel
theorem d_X_get_7 : decode b_X_get 7 = .ok (.iload_n 2, 1) := by decide +kernel
theorem d_X_get_8 : decode b_X_get 8 = .ok (.invokestatic 253, 3) := by decide +kernel
theorem d_X_get_11 : decode b_X_get 11 = .ok (.ifCond .ne 7, 3) := by decide +kernel
theorem d_X_get_14 : decode b_X_get 14 = .ok (.ldc_w 265, 3) := by decide +kernel
theorem d_X_get_17 : decode b_X_get 17 = .ok (.ireturn, 1) := by decide +kernel
theorem d_X_get_18 : decode b_X_get 18 = .ok (.aload_n 0, 1) := by decide +kernel
theorem d_X_get_19 : decode b_X_get 19 = .ok (.getfield 56, 3) := by decide +kernel
theorem d_X_get_22 : decode b_X_get 22 = .ok (.iload_n 1, 1) := by decide +kernel
theorem d_X_get_23 : decode b_X_get 23 = .ok (.aaload, 1) := by decide +kernel
theorem d_X_get_24 : decode b_X_get 24 = .ok (.astore 4, 2) := by decide +kernel
theorem d_X_get_26 : decode b_X_get 26 = .ok (.aload 4, 2) := by decide +kernel
theorem d_X_get_28 : decode b_X_get 28 = .ok (.iload_n 2, 1) := by decide +kernel
theorem d_X_get_29 : decode b_X_get 29 = .ok (.iload_n 3, 1) := by decide +kernel
theorem d_X_get_30 : decode b_X_get 30 = .ok (.invokestatic 258, 3) := by decide +kernel
theorem d_X_get_33 : decode b_X_get 33 = .ok (.istore 5, 2) := by decide +kernel
theorem d_X_get_35 : decode b_X_get 35 = .ok (.aload 4, 2) := by decide +kernel
theorem d_X_get_37 : decode b_X_get 37 = .ok (.ifnull 8, 3) := by decide +kernel
theorem d_X_get_40 : decode b_X_get 40 = .ok (.iload 5, 2) := by decide +kernel
theorem d_X_get_42 : decode b_X_get 42 = .ok (.ifCond .eq 14, 3) := by decide +kernel
theorem d_X_get_45 : decode b_X_get 45 = .ok (.aload_n 0, 1) := by decide +kernel
theorem d_X_get_46 : decode b_X_get 46 = .ok (.iload 5, 2) := by decide +kernel
theorem d_X_get_48 : decode b_X_get 48 = .ok (.invokevirtual 143, 3) := by decide +kernel
theorem d_X_get_51 : decode b_X_get 51 = .ok (.pop, 1) := by decide +kernel
theorem d_X_get_52 : decode b_X_get 52 = .ok (.ldc_w 265, 3) := by decide +kernel
theorem d_X_get_55 : decode b_X_get 55 = .ok (.ireturn, 1) := by decide +kernel
theorem d_X_get_56 : decode b_X_get 56 = .ok (.aload 4, 2) := by decide +kernel
theorem d_X_get_58 : decode b_X_get 58 = .ok (.getfield 147, 3) := by decide +kernel
theorem d_X_get_61 : decode b_X_get 61 = .ok (.iload_n 3, 1) := by decide +kernel
theorem d_X_get_62 : decode b_X_get 62 = .ok (.iaload, 1) := by decide +kernel
theorem d_X_get_63 : decode b_X_get 63 = .ok (.ireturn, 1) := by decide +kernel
noncomputable def X_get_J45 (w : gw) (S : St) (x5 : Int32) : Option (Int32 × St) :=
  bnd (X_finding S x5) fun z1 =>
    some ((-2147483648), z1.2)
noncomputable def X_get (w : gw) (S : St) (x1 : Int32) (x2 : Int32) (x3 : Int32) : Option (Int32 × St) :=
  if (X_isSheet x1) = 0 then
      some ((-2147483648), S)
    else
      if (X_isForm x2) = 0 then
        some ((-2147483648), S)
      else
        chk (inb x1 4) <|
        if S 48 (ix x1) < 0 then
          bnd (X_findingAt_n w S x2 x3) fun z2 =>
          X_get_J45 w S z2
        else
          chk (shB w (S 48 (ix x1))) <|
          bnd (X_findingAt w S (ix (S 48 (ix x1))) x2 x3) fun z3 =>
          if z3 = 0 then
            chk (inb x3 (gln w ((ix (S 48 (ix x1))) + 1))) <|
            some (S ((ix (S 48 (ix x1))) + 1) (ix x3), S)
          else
            X_get_J45 w S z3
set_option maxHeartbeats 4000000 in
set_option maxRecDepth 100000 in
theorem c_X_get (l : Launch) (w : gw) (S : St) (x1 : Int32) (x2 : Int32) (x3 : Int32)  {z : Int32 × St} (h : (X_get w S x1 x2 x3) = some z) : gMi l w y_X_get b_X_get 6 (some .int) (rmm 2 44) [.ref (gad w 0), .int x1, .int x2, .int x3] S z.1 z.2 := by
  unfold X_get at h
  refine g_met (Qc := gQi w z.1 z.2) (by decide +kernel) (Nat.le_of_ble_eq_true rfl) ?_
  intro p e s m args below meth c A Q ls hQ C hG hl
  have hx := C.1
  have hb := C.2.1
  have hl : lv_has ls 6 [(0, .ref (gad w 0)), (1, .int x1), (2, .int x2), (3, .int x3)] := hl
  have J45 : ∀ (S : St) (x5 : Int32), X_get_J45 w S x5 = some z → ∀ (ls : Array Slot) (H : Heap) (locs : List Loc), GH w s A S H locs → lv_has ls 6 [(0, .ref (gad w 0)), (5, .int x5)] → W p l e (rmm 2 44) s m args below meth c H locs 0 0 Q (F0 m 45 ls []) := by
    intro S x5 h ls H locs hG hl
    unfold X_get_J45 at h
    refine lv_aload_n hx hb d_X_get_45 rfl (lv_at hl 0 rfl) ?_
    refine lv_iload hx hb d_X_get_46 (lv_at hl 1 rfl) ?_
    obtain ⟨z1, hz1, h⟩ := bnd_some h
    refine g_goi hG (g_runV (As := [.int x5]) (rest := []) C hG (c_X_finding l w S x5 hz1 _) (hG.lt (Nat.le_of_ble_eq_true rfl)) (ce0 w _) rfl vw_X_143 rfl rfl ⟨by decide, by decide⟩ rfl hl.1 rfl (Nat.le_of_ble_eq_true rfl) d_X_get_48 ⟨Nat.zero_le _, Nat.zero_le _⟩) (fun H locs hG => ?_)
    refine lv_pop hx hb d_X_get_51 rfl ?_
    refine lv_ldcw (v := (-2147483648)) hx hb C.2.2.2.1 (C.2.2.2.2.1 _ qw607) d_X_get_52 ?_
    exact g_iret C hG (sm_fst h) (sm_snd h) hQ d_X_get_55
  refine lv_iload_n hx hb d_X_get_0 rfl (lv_at hl 1 rfl) ?_
  refine g_goi hG (g_runS (As := [.int x1]) (rest := []) C hG (c_X_isSheet l w S x1 _) sw_X_140 rfl rfl ⟨by decide, by decide⟩ rfl hl.1 rfl (Nat.le_of_ble_eq_true rfl) d_X_get_1 ⟨Nat.zero_le _, Nat.zero_le _⟩) (fun H locs hG => ?_)
  refine lv_if_eq (tgt := 14) hx hb d_X_get_4 (by decide) (fun hc => ?_) (fun hc => ?_)
  · replace h := it_t h hc
    refine lv_ldcw (v := (-2147483648)) hx hb C.2.2.2.1 (C.2.2.2.2.1 _ qw607) d_X_get_14 ?_
    exact g_iret C hG (sm_fst h) (sm_snd h) hQ d_X_get_17
  · replace h := it_f h hc
    refine lv_iload_n hx hb d_X_get_7 rfl (lv_at hl 2 rfl) ?_
    refine g_goi hG (g_runS (As := [.int x2]) (rest := []) C hG (c_X_isForm l w S x2 _) sw_X_253 rfl rfl ⟨by decide, by decide⟩ rfl hl.1 rfl (Nat.le_of_ble_eq_true rfl) d_X_get_8 ⟨Nat.zero_le _, Nat.zero_le _⟩) (fun H locs hG => ?_)
    refine lv_if_ne (tgt := 18) hx hb d_X_get_11 (by decide) (fun hc => ?_) (fun hc => ?_)
    · replace h := it_f h hc
      refine lv_aload_n hx hb d_X_get_18 rfl (lv_at hl 0 rfl) ?_
      refine g_get C hG (hG.lt (Nat.le_of_ble_eq_true rfl)) (ce0 w _) rfl inC7 7 (Nat.le_of_ble_eq_true rfl) qw206 rfl d_X_get_19 ?_
      refine lv_iload_n hx hb d_X_get_22 rfl (lv_at hl 1 rfl) ?_
      obtain ⟨hi1, h⟩ := chk_some h
      refine g_aldS (j := ix x1) C hG (inb_in hi1) rfl d_X_get_23 (fun hc => ?_) (fun hc => ?_)
      · replace h := it_t h hc
        refine lv_astoreN (lv' := [(4, .null), (0, .ref (gad w 0)), (1, .int x1), (2, .int x2), (3, .int x3)]) hx hb d_X_get_24 hl (by decide) rfl (fun ls hl => ?_)
        refine lv_aloadN hx hb d_X_get_26 (lv_at hl 0 rfl) ?_
        refine lv_iload_n hx hb d_X_get_28 rfl (lv_at hl 3 rfl) ?_
        refine lv_iload_n hx hb d_X_get_29 rfl (lv_at hl 4 rfl) ?_
        obtain ⟨z2, hz2, h⟩ := bnd_some h
        refine g_goi hG (g_runS (As := [.null, .int x2, .int x3]) (rest := []) C hG (c_X_findingAt_n l w S x2 x3 hz2 _) sw_X_258 rfl rfl ⟨by decide, by decide⟩ rfl hl.1 rfl (Nat.le_of_ble_eq_true rfl) d_X_get_30 ⟨Nat.zero_le _, Nat.zero_le _⟩) (fun H locs hG => ?_)
        refine lv_istore (lv' := [(5, .int z2), (4, .null), (0, .ref (gad w 0)), (1, .int x1), (2, .int x2), (3, .int x3)]) hx hb d_X_get_33 hl (by decide) rfl (fun ls hl => ?_)
        refine lv_aloadN hx hb d_X_get_35 (lv_at hl 1 rfl) ?_
        refine lv_ifnullN (tgt := 45) hx hb d_X_get_37 (by decide) ?_
        exact J45 _ _ h ls _ _ hG (lv_sub hl [2, 0] rfl)
      · replace h := it_f h hc
        obtain ⟨hi2, h⟩ := chk_some h
        replace hi2 := shB_in hi2
        refine lv_astore (lv' := [(4, .ref (gad w (ix (S 48 (ix x1))))), (0, .ref (gad w 0)), (1, .int x1), (2, .int x2), (3, .int x3)]) hx hb d_X_get_24 hl (by decide) rfl (fun ls hl => ?_)
        refine lv_aload hx hb d_X_get_26 (lv_at hl 0 rfl) ?_
        refine lv_iload_n hx hb d_X_get_28 rfl (lv_at hl 3 rfl) ?_
        refine lv_iload_n hx hb d_X_get_29 rfl (lv_at hl 4 rfl) ?_
        obtain ⟨z3, hz3, h⟩ := bnd_some h
        refine g_goi hG (g_runS (As := [.ref (gad w (ix (S 48 (ix x1)))), .int x2, .int x3]) (rest := []) C hG (c_X_findingAt l w S (ix (S 48 (ix x1))) x2 x3 hi2 hz3 _) sw_X_258 rfl rfl ⟨by decide, by decide⟩ rfl hl.1 rfl (Nat.le_of_ble_eq_true rfl) d_X_get_30 ⟨Nat.zero_le _, Nat.zero_le _⟩) (fun H locs hG => ?_)
        refine lv_istore (lv' := [(5, .int z3), (4, .ref (gad w (ix (S 48 (ix x1))))), (0, .ref (gad w 0)), (1, .int x1), (2, .int x2), (3, .int x3)]) hx hb d_X_get_33 hl (by decide) rfl (fun ls hl => ?_)
        refine lv_aload hx hb d_X_get_35 (lv_at hl 1 rfl) ?_
        refine lv_ifnull hx hb d_X_get_37 ?_
        refine lv_iload hx hb d_X_get_40 (lv_at hl 0 rfl) ?_
        refine lv_if_eq (tgt := 56) hx hb d_X_get_42 (by decide) (fun hc => ?_) (fun hc => ?_)
        · replace h := it_t h hc
          refine lv_aload hx hb d_X_get_56 (lv_at hl 1 rfl) ?_
          refine g_get C hG hi2.lt (hi2.obj _) rfl inC4 1 (Nat.le_of_ble_eq_true rfl) qw578 rfl d_X_get_58 ?_
          refine lv_iload_n hx hb d_X_get_61 rfl (lv_at hl 5 rfl) ?_
          obtain ⟨hi3, h⟩ := chk_some h
          refine g_iald (j := ix x3) C hG hi2.2.2 (hi2.arr _) (inb_in hi3) rfl d_X_get_62 ?_
          exact g_iret C hG (sm_fst h) (sm_snd h) hQ d_X_get_63
        · replace h := it_f h hc
          exact J45 _ _ h ls _ _ hG (lv_sub hl [2, 0] rfl)
    · replace h := it_t h hc
      refine lv_ldcw (v := (-2147483648)) hx hb C.2.2.2.1 (C.2.2.2.2.1 _ qw607) d_X_get_14 ?_
      exact g_iret C hG (sm_fst h) (sm_snd h) hQ d_X_get_17
theorem d_X_rather_0 : decode b_X_rather 0 = .ok (.iload_n 1, 1) := by decide +kernel
theorem d_X_rather_1 : decode b_X_rather 1 = .ok (.invokestatic 140, 3) := by decide +kernel
theorem d_X_rather_4 : decode b_X_rather 4 = .ok (.ifCond .ne 6, 3) := by decide +kernel
theorem d_X_rather_7 : decode b_X_rather 7 = .ok (.bipush (-2), 2) := by decide +kernel
theorem d_X_rather_9 : decode b_X_rather 9 = .ok (.ireturn, 1) := by decide +kernel
theorem d_X_rather_10 : decode b_X_rather 10 = .ok (.aload_n 0, 1) := by decide +kernel
theorem d_X_rather_11 : decode b_X_rather 11 = .ok (.getfield 56, 3) := by decide +kernel
theorem d_X_rather_14 : decode b_X_rather 14 = .ok (.iload_n 1, 1) := by decide +kernel
theorem d_X_rather_15 : decode b_X_rather 15 = .ok (.aaload, 1) := by decide +kernel
theorem d_X_rather_16 : decode b_X_rather 16 = .ok (.astore_n 2, 1) := by decide +kernel
theorem d_X_rather_17 : decode b_X_rather 17 = .ok (.aload_n 2, 1) := by decide +kernel
theorem d_X_rather_18 : decode b_X_rather 18 = .ok (.ifnonnull 9, 3) := by decide +kernel
theorem d_X_rather_21 : decode b_X_rather 21 = .ok (.aload_n 0, 1) := by decide +kernel
theorem d_X_rather_22 : decode b_X_rather 22 = .ok (.iconst 1, 1) := by decide +kernel
theorem d_X_rather_23 : decode b_X_rather 23 = .ok (.invokevirtual 143, 3) := by decide +kernel
theorem d_X_rather_26 : decode b_X_rather 26 = .ok (.ireturn, 1) := by decide +kernel
theorem d_X_rather_27 : decode b_X_rather 27 = .ok (.aload_n 2, 1) := by decide +kernel
theorem d_X_rather_28 : decode b_X_rather 28 = .ok (.getfield 147, 3) := by decide +kernel
theorem d_X_rather_31 : decode b_X_rather 31 = .ok (.arraylength, 1) := by decide +kernel
theorem d_X_rather_32 : decode b_X_rather 32 = .ok (.iconst 5, 1) := by decide +kernel
theorem d_X_rather_33 : decode b_X_rather 33 = .ok (.if_icmp .ge 6, 3) := by decide +kernel
theorem d_X_rather_36 : decode b_X_rather 36 = .ok (.bipush (-3), 2) := by decide +kernel
theorem d_X_rather_38 : decode b_X_rather 38 = .ok (.ireturn, 1) := by decide +kernel
theorem d_X_rather_39 : decode b_X_rather 39 = .ok (.aload_n 0, 1) := by decide +kernel
theorem d_X_rather_40 : decode b_X_rather 40 = .ok (.invokevirtual 217, 3) := by decide +kernel
theorem d_X_rather_43 : decode b_X_rather 43 = .ok (.astore_n 3, 1) := by decide +kernel
theorem d_X_rather_44 : decode b_X_rather 44 = .ok (.iconst 1, 1) := by decide +kernel
theorem d_X_rather_45 : decode b_X_rather 45 = .ok (.istore 4, 2) := by decide +kernel
theorem d_X_rather_47 : decode b_X_rather 47 = .ok (.iload 4, 2) := by decide +kernel
theorem d_X_rather_49 : decode b_X_rather 49 = .ok (.bipush 31, 2) := by decide +kernel
theorem d_X_rather_51 : decode b_X_rather 51 = .ok (.if_icmp .gt 30, 3) := by decide +kernel
theorem d_X_rather_54 : decode b_X_rather 54 = .ok (.aload_n 2, 1) := by decide +kernel
theorem d_X_rather_55 : decode b_X_rather 55 = .ok (.iload 4, 2) := by decide +kernel
theorem d_X_rather_57 : decode b_X_rather 57 = .ok (.invokevirtual 233, 3) := by decide +kernel
theorem d_X_rather_60 : decode b_X_rather 60 = .ok (.aload_n 3, 1) := by decide +kernel
theorem d_X_rather_61 : decode b_X_rather 61 = .ok (.getfield 221, 3) := by decide +kernel
theorem d_X_rather_64 : decode b_X_rather 64 = .ok (.iload 4, 2) := by decide +kernel
theorem d_X_rather_66 : decode b_X_rather 66 = .ok (.iaload, 1) := by decide +kernel
theorem d_X_rather_67 : decode b_X_rather 67 = .ok (.i2l, 1) := by decide +kernel
theorem d_X_rather_68 : decode b_X_rather 68 = .ok (.lcmp, 1) := by decide +kernel
theorem d_X_rather_69 : decode b_X_rather 69 = .ok (.ifCond .ge 6, 3) := by decide +kernel
theorem d_X_rather_72 : decode b_X_rather 72 = .ok (.iload 4, 2) := by decide +kernel
theorem d_X_rather_74 : decode b_X_rather 74 = .ok (.ireturn, 1) := by decide +kernel
theorem d_X_rather_75 : decode b_X_rather 75 = .ok (.iinc 4 1, 3) := by decide +kernel
theorem d_X_rather_78 : decode b_X_rather 78 = .ok (.goto (-31), 3) := by decide +kernel
theorem d_X_rather_81 : decode b_X_rather 81 = .ok (.iconst (-1), 1) := by decide +kernel
theorem d_X_rather_82 : decode b_X_rather 82 = .ok (.ireturn, 1) := by decide +kernel
noncomputable def X_rather_L47 (w : gw) (S : St) (a2 : Nat) (x4 : Int32) : Option ((Int32) × Nat) :=
  if 31 < x4 then
      some (x4, 2)
    else
      bnd (SH_sumOf w S a2 x4) fun z1 =>
      chk (inb x4 32) <|
      if 0 ≤ (lg_cmp z1 ((S 44 (ix x4)).toInt64)) then
        some ((x4 + 1), 0)
      else
        some (x4, 1)
noncomputable def X_rather_J81 (w : gw) (S : St) : Option (Int32 × St) :=
  some ((-1), S)
noncomputable def X_rather_J72 (w : gw) (S : St) (x4 : Int32) : Option (Int32 × St) :=
  some (x4, S)
noncomputable def X_rather (w : gw) (S : St) (x1 : Int32) : Option (Int32 × St) :=
  if (X_isSheet x1) = 0 then
      some ((-2), S)
    else
      chk (inb x1 4) <|
      if S 48 (ix x1) < 0 then
        bnd (X_finding S 1) fun z2 =>
        some (z2.1, z2.2)
      else
        chk (shB w (S 48 (ix x1))) <|
        if 5 ≤ (Int32.ofNat (gln w ((ix (S 48 (ix x1))) + 1))) then
          bnd (X_valuedClubs S) fun z3 =>
          bnd (lp (σ := Int32) (fun q => X_rather_L47 w z3 (ix (S 48 (ix x1))) q) FZ 1) fun z4 =>
          if z4.2 = 1 then
            X_rather_J72 w z3 z4.1
          else X_rather_J81 w z3
        else
          some ((-3), S)
set_option maxHeartbeats 4000000 in
set_option maxRecDepth 100000 in
theorem L_X_rather_47 (C : gCx p s m args meth c y_X_rather.cls b_X_rather 5 (some .int)) : ∀ (S : St) (a2 : Nat) (ha2 : shO w a2) (n : Nat) (x4 : Int32) (r : (Int32) × Nat), lp (σ := Int32) (fun q => X_rather_L47 w S a2 q) n x4 = some r → (∀ (y4 : Int32), r = (y4, 1) → ∀ (ls : Array Slot) (H : Heap) (locs : List Loc), GH w s A S H locs → lv_has ls 5 [(4, .int y4)] → W p l e (rmm 4 89) s m args below meth c H locs 0 0 Q (F0 m 72 ls [])) → (∀ (y4 : Int32), r = (y4, 2) → ∀ (ls : Array Slot) (H : Heap) (locs : List Loc), GH w s A S H locs → lv_has ls 5 [] → W p l e (rmm 4 89) s m args below meth c H locs 0 0 Q (F0 m 81 ls [])) → ∀ (ls : Array Slot) (H : Heap) (locs : List Loc), GH w s A S H locs → lv_has ls 5 [(2, .ref (gad w a2)), (3, .ref (gad w 43)), (4, .int x4)] → W p l e (rmm 4 89) s m args below meth c H locs 0 0 Q (F0 m 47 ls []) := by
  have hx := C.1
  have hb := C.2.1
  intro S a2 ha2 n
  induction n with
  | zero => intro x4 r h; cases h
  | succ n ih =>
    intro x4 r h k1 k2 ls H locs hG hl
    obtain ⟨z, h, hr⟩ := lp_succ h
    have h : X_rather_L47 w S a2 x4 = some z := h
    unfold X_rather_L47 at h
    refine lv_iload hx hb d_X_rather_47 (lv_at hl 2 rfl) ?_
    refine lv_bipush (v := 31) hx hb d_X_rather_49 (by decide) ?_
    refine lv_icmp_gt (tgt := 81) hx hb d_X_rather_51 (by decide) (fun hc => ?_) (fun hc => ?_)
    · replace h := it_t h hc
      exact k2 _ (lp_exit h hr) ls _ _ hG (lv_sub hl [] rfl)
    · replace h := it_f h hc
      refine lv_aload_n hx hb d_X_rather_54 rfl (lv_at hl 0 rfl) ?_
      refine lv_iload hx hb d_X_rather_55 (lv_at hl 2 rfl) ?_
      obtain ⟨z1, hz1, h⟩ := bnd_some h
      refine g_gol hG (g_runV (As := [.int x4]) (rest := []) C hG (c_SH_sumOf l w S a2 x4 ha2 hz1 _) ha2.lt (ha2.obj _) rfl vw_X_233 rfl rfl ⟨by decide, by decide⟩ rfl hl.1 rfl (Nat.le_of_ble_eq_true rfl) d_X_rather_57 ⟨Nat.zero_le _, Nat.zero_le _⟩) (fun H locs hG => ?_)
      refine lv_aload_n hx hb d_X_rather_60 rfl (lv_at hl 1 rfl) ?_
      refine g_get C hG (hG.lt (Nat.le_of_ble_eq_true rfl)) (ce43 w _) rfl inC1 0 (Nat.le_of_ble_eq_true rfl) qw164 rfl d_X_rather_61 ?_
      refine lv_iload hx hb d_X_rather_64 (lv_at hl 2 rfl) ?_
      obtain ⟨hi1, h⟩ := chk_some h
      refine g_iald (j := ix x4) C hG (hG.lt (Nat.le_of_ble_eq_true rfl)) (ce44 w _) (inb_in hi1) rfl d_X_rather_66 ?_
      refine lv_i2l (v := (S 44 (ix x4)).toInt64) hx hb d_X_rather_67 rfl ?_
      refine W.lcmp hx hb d_X_rather_68 ?_
      refine lv_if_ge (tgt := 75) hx hb d_X_rather_69 (by decide) (fun hc => ?_) (fun hc => ?_)
      · replace h := it_t h hc
        refine lv_iinc (v := x4 + 1) (lv' := [(4, .int (x4 + 1)), (2, .ref (gad w a2)), (3, .ref (gad w 43))]) hx hb d_X_rather_75 hl (k := 2) rfl (congrArg (HAdd.hAdd x4) (by decide : Int32.ofInt 1 = 1)) (by decide) rfl (fun ls hl => ?_)
        refine lv_goto (tgt := 47) hx hb d_X_rather_78 (by decide) ?_
        exact ih _ _ (lp_back h hr) k1 k2 ls _ _ hG (lv_sub hl [1, 2, 0] rfl)
      · replace h := it_f h hc
        exact k1 _ (lp_exit h hr) ls _ _ hG (lv_sub hl [2] rfl)
set_option maxHeartbeats 4000000 in
set_option maxRecDepth 100000 in
theorem c_X_rather (l : Launch) (w : gw) (S : St) (x1 : Int32)  {z : Int32 × St} (h : (X_rather w S x1) = some z) : gMi l w y_X_rather b_X_rather 5 (some .int) (rmm 4 89) [.ref (gad w 0), .int x1] S z.1 z.2 := by
  unfold X_rather at h
  refine g_met (Qc := gQi w z.1 z.2) (by decide +kernel) (Nat.le_of_ble_eq_true rfl) ?_
  intro p e s m args below meth c A Q ls hQ C hG hl
  have hx := C.1
  have hb := C.2.1
  have hl : lv_has ls 5 [(0, .ref (gad w 0)), (1, .int x1)] := hl
  have J81 : ∀ (S : St), X_rather_J81 w S = some z → ∀ (ls : Array Slot) (H : Heap) (locs : List Loc), GH w s A S H locs → lv_has ls 5 [] → W p l e (rmm 4 89) s m args below meth c H locs 0 0 Q (F0 m 81 ls []) := by
    intro S h ls H locs hG hl
    unfold X_rather_J81 at h
    refine lv_iconst (v := (-1)) hx hb d_X_rather_81 (by decide) ?_
    exact g_iret C hG (sm_fst h) (sm_snd h) hQ d_X_rather_82
  have J72 : ∀ (S : St) (x4 : Int32), X_rather_J72 w S x4 = some z → ∀ (ls : Array Slot) (H : Heap) (locs : List Loc), GH w s A S H locs → lv_has ls 5 [(4, .int x4)] → W p l e (rmm 4 89) s m args below meth c H locs 0 0 Q (F0 m 72 ls []) := by
    intro S x4 h ls H locs hG hl
    unfold X_rather_J72 at h
    refine lv_iload hx hb d_X_rather_72 (lv_at hl 0 rfl) ?_
    exact g_iret C hG (sm_fst h) (sm_snd h) hQ d_X_rather_74
  refine lv_iload_n hx hb d_X_rather_0 rfl (lv_at hl 1 rfl) ?_
  refine g_goi hG (g_runS (As := [.int x1]) (rest := []) C hG (c_X_isSheet l w S x1 _) sw_X_140 rfl rfl ⟨by decide, by decide⟩ rfl hl.1 rfl (Nat.le_of_ble_eq_true rfl) d_X_rather_1 ⟨Nat.zero_le _, Nat.zero_le _⟩) (fun H locs hG => ?_)
  refine lv_if_ne (tgt := 10) hx hb d_X_rather_4 (by decide) (fun hc => ?_) (fun hc => ?_)
  · replace h := it_f h hc
    refine lv_aload_n hx hb d_X_rather_10 rfl (lv_at hl 0 rfl) ?_
    refine g_get C hG (hG.lt (Nat.le_of_ble_eq_true rfl)) (ce0 w _) rfl inC7 7 (Nat.le_of_ble_eq_true rfl) qw206 rfl d_X_rather_11 ?_
    refine lv_iload_n hx hb d_X_rather_14 rfl (lv_at hl 1 rfl) ?_
    obtain ⟨hi2, h⟩ := chk_some h
    refine g_aldS (j := ix x1) C hG (inb_in hi2) rfl d_X_rather_15 (fun hc => ?_) (fun hc => ?_)
    · replace h := it_t h hc
      refine lv_astore_nN (lv' := [(2, .null), (0, .ref (gad w 0)), (1, .int x1)]) hx hb d_X_rather_16 rfl hl (by decide) rfl (fun ls hl => ?_)
      refine lv_aload_nN hx hb d_X_rather_17 rfl (lv_at hl 0 rfl) ?_
      refine lv_ifnonnullN hx hb d_X_rather_18 ?_
      refine lv_aload_n hx hb d_X_rather_21 rfl (lv_at hl 1 rfl) ?_
      refine lv_iconst (v := 1) hx hb d_X_rather_22 (by decide) ?_
      obtain ⟨z2, hz2, h⟩ := bnd_some h
      refine g_goi hG (g_runV (As := [.int 1]) (rest := []) C hG (c_X_finding l w S 1 hz2 _) (hG.lt (Nat.le_of_ble_eq_true rfl)) (ce0 w _) rfl vw_X_143 rfl rfl ⟨by decide, by decide⟩ rfl hl.1 rfl (Nat.le_of_ble_eq_true rfl) d_X_rather_23 ⟨Nat.zero_le _, Nat.zero_le _⟩) (fun H locs hG => ?_)
      exact g_iret C hG (sm_fst h) (sm_snd h) hQ d_X_rather_26
    · replace h := it_f h hc
      obtain ⟨hi3, h⟩ := chk_some h
      replace hi3 := shB_in hi3
      refine lv_astore_n (lv' := [(2, .ref (gad w (ix (S 48 (ix x1))))), (0, .ref (gad w 0)), (1, .int x1)]) hx hb d_X_rather_16 rfl hl (by decide) rfl (fun ls hl => ?_)
      refine lv_aload_n hx hb d_X_rather_17 rfl (lv_at hl 0 rfl) ?_
      refine lv_ifnonnull (tgt := 27) hx hb d_X_rather_18 (by decide) ?_
      refine lv_aload_n hx hb d_X_rather_27 rfl (lv_at hl 0 rfl) ?_
      refine g_get C hG hi3.lt (hi3.obj _) rfl inC4 1 (Nat.le_of_ble_eq_true rfl) qw578 rfl d_X_rather_28 ?_
      refine g_alen (v := Int32.ofNat (gln w ((ix (S 48 (ix x1))) + 1))) C hG hi3.2.2 (hi3.arr _) rfl d_X_rather_31 ?_
      refine lv_iconst (v := 5) hx hb d_X_rather_32 (by decide) ?_
      refine lv_icmp_ge (tgt := 39) hx hb d_X_rather_33 (by decide) (fun hc => ?_) (fun hc => ?_)
      · replace h := it_t h hc
        refine lv_aload_n hx hb d_X_rather_39 rfl (lv_at hl 1 rfl) ?_
        obtain ⟨z3, hz3, h⟩ := bnd_some h
        refine g_gor hG (g_runV (As := []) (rest := []) C hG (c_X_valuedClubs l w S hz3 _) (hG.lt (Nat.le_of_ble_eq_true rfl)) (ce0 w _) rfl vw_X_217 rfl rfl ⟨by decide, by decide⟩ rfl hl.1 rfl (Nat.le_of_ble_eq_true rfl) d_X_rather_40 ⟨Nat.zero_le _, Nat.zero_le _⟩) (fun H locs hG => ?_)
        refine lv_astore_n (lv' := [(3, .ref (gad w 43)), (2, .ref (gad w (ix (S 48 (ix x1))))), (0, .ref (gad w 0)), (1, .int x1)]) hx hb d_X_rather_43 rfl hl (by decide) rfl (fun ls hl => ?_)
        refine lv_iconst (v := 1) hx hb d_X_rather_44 (by decide) ?_
        refine lv_istore (lv' := [(4, .int 1), (3, .ref (gad w 43)), (2, .ref (gad w (ix (S 48 (ix x1))))), (0, .ref (gad w 0)), (1, .int x1)]) hx hb d_X_rather_45 hl (by decide) rfl (fun ls hl => ?_)
        obtain ⟨z4, hz4, h⟩ := bnd_some h
        refine L_X_rather_47 C _ _ hi3 FZ _ _ hz4 ?_ ?_ ls _ _ hG (lv_sub hl [2, 1, 0] rfl)
        · intro y4 e9 ls H locs hG hl
          subst e9
          replace h := it_t h rfl
          exact J72 _ _ h ls _ _ hG (lv_sub hl [0] rfl)
        · intro y4 e9 ls H locs hG hl
          subst e9
          replace h := it_f h (show ¬ (2 : Nat) = 1 by decide)
          exact J81 _ h ls _ _ hG (lv_sub hl [] rfl)
      · replace h := it_f h hc
        refine lv_bipush (v := (-3)) hx hb d_X_rather_36 (by decide) ?_
        exact g_iret C hG (sm_fst h) (sm_snd h) hQ d_X_rather_38
  · replace h := it_t h hc
    refine lv_bipush (v := (-2)) hx hb d_X_rather_7 (by decide) ?_
    exact g_iret C hG (sm_fst h) (sm_snd h) hQ d_X_rather_9
theorem d_X_write_0 : decode b_X_write 0 = .ok (.iload_n 1, 1) := by decide +kernel
theorem d_X_write_1 : decode b_X_write 1 = .ok (.invokestatic 140, 3) := by decide +kernel
theorem d_X_write_4 : decode b_X_write 4 = .ok (.ifCond .ne 6, 3) := by decide +kernel
theorem d_X_write_7 : decode b_X_write 7 = .ok (.bipush (-2), 2) := by decide +kernel
theorem d_X_write_9 : decode b_X_write 9 = .ok (.ireturn, 1) := by decide +kernel
theorem d_X_write_10 : decode b_X_write 10 = .ok (.aload_n 0, 1) := by decide +kernel
theorem d_X_write_11 : decode b_X_write 11 = .ok (.getfield 56, 3) := by decide +kernel
theorem d_X_write_14 : decode b_X_write 14 = .ok (.iload_n 1, 1) := by decide +kernel
theorem d_X_write_15 : decode b_X_write 15 = .ok (.aaload, 1) := by decide +kernel
theorem d_X_write_16 : decode b_X_write 16 = .ok (.astore_n 2, 1) := by decide +kernel
theorem d_X_write_17 : decode b_X_write 17 = .ok (.aload_n 2, 1) := by decide +kernel
theorem d_X_write_18 : decode b_X_write 18 = .ok (.ifnonnull 9, 3) := by decide +kernel
theorem d_X_write_21 : decode b_X_write 21 = .ok (.aload_n 0, 1) := by decide +kernel
theorem d_X_write_22 : decode b_X_write 22 = .ok (.iconst 1, 1) := by decide +kernel
theorem d_X_write_23 : decode b_X_write 23 = .ok (.invokevirtual 143, 3) := by decide +kernel
theorem d_X_write_26 : decode b_X_write 26 = .ok (.ireturn, 1) := by decide +kernel
theorem d_X_write_27 : decode b_X_write 27 = .ok (.aload_n 0, 1) := by decide +kernel
theorem d_X_write_28 : decode b_X_write 28 = .ok (.invokevirtual 78, 3) := by decide +kernel
theorem d_X_write_31 : decode b_X_write 31 = .ok (.astore_n 3, 1) := by decide +kernel
theorem d_X_write_32 : decode b_X_write 32 = .ok (.aload_n 2, 1) := by decide +kernel
theorem d_X_write_33 : decode b_X_write 33 = .ok (.getfield 147, 3) := by decide +kernel
theorem d_X_write_36 : decode b_X_write 36 = .ok (.arraylength, 1) := by decide +kernel
theorem d_X_write_37 : decode b_X_write 37 = .ok (.bipush 10, 2) := by decide +kernel
theorem d_X_write_39 : decode b_X_write 39 = .ok (.invokestatic 150, 3) := by decide +kernel
theorem d_X_write_42 : decode b_X_write 42 = .ok (.istore 4, 2) := by decide +kernel
theorem d_X_write_44 : decode b_X_write 44 = .ok (.iconst 0, 1) := by decide +kernel
theorem d_X_write_45 : decode b_X_write 45 = .ok (.istore 5, 2) := by decide +kernel
theorem d_X_write_47 : decode b_X_write 47 = .ok (.iload 5, 2) := by decide +kernel
theorem d_X_write_49 : decode b_X_write 49 = .ok (.iload 4, 2) := by decide +kernel
theorem d_X_write_51 : decode b_X_write 51 = .ok (.if_icmp .ge 22, 3) := by decide +kernel
theorem d_X_write_54 : decode b_X_write 54 = .ok (.aload_n 2, 1) := by decide +kernel
theorem d_X_write_55 : decode b_X_write 55 = .ok (.iload 5, 2) := by decide +kernel
theorem d_X_write_57 : decode b_X_write 57 = .ok (.aload_n 3, 1) := by decide +kernel
theorem d_X_write_58 : decode b_X_write 58 = .ok (.getfield 163, 3) := by decide +kernel
theorem d_X_write_61 : decode b_X_write 61 = .ok (.iload 5, 2) := by decide +kernel
theorem d_X_write_63 : decode b_X_write 63 = .ok (.iaload, 1) := by decide +kernel
theorem d_X_write_64 : decode b_X_write 64 = .ok (.invokevirtual 262, 3) := by decide +kernel
theorem d_X_write_67 : decode b_X_write 67 = .ok (.iinc 5 1, 3) := by decide +kernel
theorem d_X_write_70 : decode b_X_write 70 = .ok (.goto (-23), 3) := by decide +kernel
theorem d_X_write_73 : decode b_X_write 73 = .ok (.iload 4, 2) := by decide +kernel
theorem d_X_write_75 : decode b_X_write 75 = .ok (.ireturn, 1) := by decide +kernel
noncomputable def X_write_L47 (w : gw) (S : St) (a2 : Nat) (x4 : Int32) (x5 : Int32) : Option ((Int32 × St) × Nat) :=
  if x4 ≤ x5 then
      some ((x5, S), 1)
    else
      chk (inb x5 10) <|
      bnd (SH_put w S a2 x5 (S 29 (ix x5))) fun z1 =>
      some ((x5 + 1, z1), 0)
noncomputable def X_write_J73 (w : gw) (S : St) (x4 : Int32) : Option (Int32 × St) :=
  some (x4, S)
noncomputable def X_write (w : gw) (S : St) (x1 : Int32) : Option (Int32 × St) :=
  if (X_isSheet x1) = 0 then
      some ((-2), S)
    else
      chk (inb x1 4) <|
      if S 48 (ix x1) < 0 then
        bnd (X_finding S 1) fun z2 =>
        some (z2.1, z2.2)
      else
        chk (shB w (S 48 (ix x1))) <|
        bnd (X_judgedOutcome S) fun z3 =>
        bnd (lp (σ := Int32 × St) (fun q => X_write_L47 w q.2 (ix (S 48 (ix x1))) (mn (Int32.ofNat (gln w ((ix (S 48 (ix x1))) + 1))) 10) q.1) FZ (0, z3)) fun z4 =>
        X_write_J73 w z4.1.2 (mn (Int32.ofNat (gln w ((ix (S 48 (ix x1))) + 1))) 10)
set_option maxHeartbeats 4000000 in
set_option maxRecDepth 100000 in
theorem L_X_write_47 (C : gCx p s m args meth c y_X_write.cls b_X_write 6 (some .int)) : ∀ (a2 : Nat) (x4 : Int32) (ha2 : shO w a2) (n : Nat) (x5 : Int32) (S : St) (r : (Int32 × St) × Nat), lp (σ := Int32 × St) (fun q => X_write_L47 w q.2 a2 x4 q.1) n (x5, S) = some r → (∀ (y5 : Int32) (Sy : St), r = ((y5, Sy), 1) → ∀ (ls : Array Slot) (H : Heap) (locs : List Loc), GH w s A Sy H locs → lv_has ls 6 [(4, .int x4)] → W p l e (rmm 4 91) s m args below meth c H locs 0 0 Q (F0 m 73 ls [])) → ∀ (ls : Array Slot) (H : Heap) (locs : List Loc), GH w s A S H locs → lv_has ls 6 [(2, .ref (gad w a2)), (3, .ref (gad w 27)), (4, .int x4), (5, .int x5)] → W p l e (rmm 4 91) s m args below meth c H locs 0 0 Q (F0 m 47 ls []) := by
  have hx := C.1
  have hb := C.2.1
  intro a2 x4 ha2 n
  induction n with
  | zero => intro x5 S r h; cases h
  | succ n ih =>
    intro x5 S r h k1 ls H locs hG hl
    obtain ⟨z, h, hr⟩ := lp_succ h
    have h : X_write_L47 w S a2 x4 x5 = some z := h
    unfold X_write_L47 at h
    refine lv_iload hx hb d_X_write_47 (lv_at hl 3 rfl) ?_
    refine lv_iload hx hb d_X_write_49 (lv_at hl 2 rfl) ?_
    refine lv_icmp_ge (tgt := 73) hx hb d_X_write_51 (by decide) (fun hc => ?_) (fun hc => ?_)
    · replace h := it_t h hc
      exact k1 _ _ (lp_exit h hr) ls _ _ hG (lv_sub hl [2] rfl)
    · replace h := it_f h hc
      refine lv_aload_n hx hb d_X_write_54 rfl (lv_at hl 0 rfl) ?_
      refine lv_iload hx hb d_X_write_55 (lv_at hl 3 rfl) ?_
      refine lv_aload_n hx hb d_X_write_57 rfl (lv_at hl 1 rfl) ?_
      refine g_get C hG (hG.lt (Nat.le_of_ble_eq_true rfl)) (ce27 w _) rfl inC3 1 (Nat.le_of_ble_eq_true rfl) qw102 rfl d_X_write_58 ?_
      refine lv_iload hx hb d_X_write_61 (lv_at hl 3 rfl) ?_
      obtain ⟨hi1, h⟩ := chk_some h
      refine g_iald (j := ix x5) C hG (hG.lt (Nat.le_of_ble_eq_true rfl)) (ce29 w _) (inb_in hi1) rfl d_X_write_63 ?_
      obtain ⟨z1, hz1, h⟩ := bnd_some h
      refine g_gov hG (g_runV (As := [.int x5, .int (S 29 (ix x5))]) (rest := []) C hG (c_SH_put l w S a2 x5 (S 29 (ix x5)) ha2 hz1 _) ha2.lt (ha2.obj _) rfl vw_X_262 rfl rfl ⟨by decide, by decide⟩ rfl hl.1 rfl (Nat.le_of_ble_eq_true rfl) d_X_write_64 ⟨Nat.zero_le _, Nat.zero_le _⟩) (fun H locs hG => ?_)
      refine lv_iinc (v := x5 + 1) (lv' := [(5, .int (x5 + 1)), (2, .ref (gad w a2)), (3, .ref (gad w 27)), (4, .int x4)]) hx hb d_X_write_67 hl (k := 3) rfl (congrArg (HAdd.hAdd x5) (by decide : Int32.ofInt 1 = 1)) (by decide) rfl (fun ls hl => ?_)
      refine lv_goto (tgt := 47) hx hb d_X_write_70 (by decide) ?_
      exact ih _ _ _ (lp_back h hr) k1 ls _ _ hG (lv_sub hl [1, 2, 3, 0] rfl)
set_option maxHeartbeats 4000000 in
set_option maxRecDepth 100000 in
theorem c_X_write (l : Launch) (w : gw) (S : St) (x1 : Int32)  {z : Int32 × St} (h : (X_write w S x1) = some z) : gMi l w y_X_write b_X_write 6 (some .int) (rmm 4 91) [.ref (gad w 0), .int x1] S z.1 z.2 := by
  unfold X_write at h
  refine g_met (Qc := gQi w z.1 z.2) (by decide +kernel) (Nat.le_of_ble_eq_true rfl) ?_
  intro p e s m args below meth c A Q ls hQ C hG hl
  have hx := C.1
  have hb := C.2.1
  have hl : lv_has ls 6 [(0, .ref (gad w 0)), (1, .int x1)] := hl
  have J73 : ∀ (S : St) (x4 : Int32), X_write_J73 w S x4 = some z → ∀ (ls : Array Slot) (H : Heap) (locs : List Loc), GH w s A S H locs → lv_has ls 6 [(4, .int x4)] → W p l e (rmm 4 91) s m args below meth c H locs 0 0 Q (F0 m 73 ls []) := by
    intro S x4 h ls H locs hG hl
    unfold X_write_J73 at h
    refine lv_iload hx hb d_X_write_73 (lv_at hl 0 rfl) ?_
    exact g_iret C hG (sm_fst h) (sm_snd h) hQ d_X_write_75
  refine lv_iload_n hx hb d_X_write_0 rfl (lv_at hl 1 rfl) ?_
  refine g_goi hG (g_runS (As := [.int x1]) (rest := []) C hG (c_X_isSheet l w S x1 _) sw_X_140 rfl rfl ⟨by decide, by decide⟩ rfl hl.1 rfl (Nat.le_of_ble_eq_true rfl) d_X_write_1 ⟨Nat.zero_le _, Nat.zero_le _⟩) (fun H locs hG => ?_)
  refine lv_if_ne (tgt := 10) hx hb d_X_write_4 (by decide) (fun hc => ?_) (fun hc => ?_)
  · replace h := it_f h hc
    refine lv_aload_n hx hb d_X_write_10 rfl (lv_at hl 0 rfl) ?_
    refine g_get C hG (hG.lt (Nat.le_of_ble_eq_true rfl)) (ce0 w _) rfl inC7 7 (Nat.le_of_ble_eq_true rfl) qw206 rfl d_X_write_11 ?_
    refine lv_iload_n hx hb d_X_write_14 rfl (lv_at hl 1 rfl) ?_
    obtain ⟨hi2, h⟩ := chk_some h
    refine g_aldS (j := ix x1) C hG (inb_in hi2) rfl d_X_write_15 (fun hc => ?_) (fun hc => ?_)
    · replace h := it_t h hc
      refine lv_astore_nN (lv' := [(2, .null), (0, .ref (gad w 0)), (1, .int x1)]) hx hb d_X_write_16 rfl hl (by decide) rfl (fun ls hl => ?_)
      refine lv_aload_nN hx hb d_X_write_17 rfl (lv_at hl 0 rfl) ?_
      refine lv_ifnonnullN hx hb d_X_write_18 ?_
      refine lv_aload_n hx hb d_X_write_21 rfl (lv_at hl 1 rfl) ?_
      refine lv_iconst (v := 1) hx hb d_X_write_22 (by decide) ?_
      obtain ⟨z2, hz2, h⟩ := bnd_some h
      refine g_goi hG (g_runV (As := [.int 1]) (rest := []) C hG (c_X_finding l w S 1 hz2 _) (hG.lt (Nat.le_of_ble_eq_true rfl)) (ce0 w _) rfl vw_X_143 rfl rfl ⟨by decide, by decide⟩ rfl hl.1 rfl (Nat.le_of_ble_eq_true rfl) d_X_write_23 ⟨Nat.zero_le _, Nat.zero_le _⟩) (fun H locs hG => ?_)
      exact g_iret C hG (sm_fst h) (sm_snd h) hQ d_X_write_26
    · replace h := it_f h hc
      obtain ⟨hi3, h⟩ := chk_some h
      replace hi3 := shB_in hi3
      refine lv_astore_n (lv' := [(2, .ref (gad w (ix (S 48 (ix x1))))), (0, .ref (gad w 0)), (1, .int x1)]) hx hb d_X_write_16 rfl hl (by decide) rfl (fun ls hl => ?_)
      refine lv_aload_n hx hb d_X_write_17 rfl (lv_at hl 0 rfl) ?_
      refine lv_ifnonnull (tgt := 27) hx hb d_X_write_18 (by decide) ?_
      refine lv_aload_n hx hb d_X_write_27 rfl (lv_at hl 1 rfl) ?_
      obtain ⟨z3, hz3, h⟩ := bnd_some h
      refine g_gor hG (g_runV (As := []) (rest := []) C hG (c_X_judgedOutcome l w S hz3 _) (hG.lt (Nat.le_of_ble_eq_true rfl)) (ce0 w _) rfl vw_X_78 rfl rfl ⟨by decide, by decide⟩ rfl hl.1 rfl (Nat.le_of_ble_eq_true rfl) d_X_write_28 ⟨Nat.zero_le _, Nat.zero_le _⟩) (fun H locs hG => ?_)
      refine lv_astore_n (lv' := [(3, .ref (gad w 27)), (2, .ref (gad w (ix (S 48 (ix x1))))), (0, .ref (gad w 0)), (1, .int x1)]) hx hb d_X_write_31 rfl hl (by decide) rfl (fun ls hl => ?_)
      refine lv_aload_n hx hb d_X_write_32 rfl (lv_at hl 1 rfl) ?_
      refine g_get C hG hi3.lt (hi3.obj _) rfl inC4 1 (Nat.le_of_ble_eq_true rfl) qw578 rfl d_X_write_33 ?_
      refine g_alen (v := Int32.ofNat (gln w ((ix (S 48 (ix x1))) + 1))) C hG hi3.2.2 (hi3.arr _) rfl d_X_write_36 ?_
      refine lv_bipush (v := 10) hx hb d_X_write_37 (by decide) ?_
      refine g_min C hl.1 qw353 ⟨by decide, by decide⟩ (Nat.le_of_ble_eq_true rfl) ⟨Nat.zero_le _, Nat.zero_le _⟩ d_X_write_39 ?_
      refine lv_istore (lv' := [(4, .int (mn (Int32.ofNat (gln w ((ix (S 48 (ix x1))) + 1))) 10)), (3, .ref (gad w 27)), (2, .ref (gad w (ix (S 48 (ix x1))))), (0, .ref (gad w 0)), (1, .int x1)]) hx hb d_X_write_42 hl (by decide) rfl (fun ls hl => ?_)
      refine lv_iconst (v := 0) hx hb d_X_write_44 (by decide) ?_
      refine lv_istore (lv' := [(5, .int 0), (4, .int (mn (Int32.ofNat (gln w ((ix (S 48 (ix x1))) + 1))) 10)), (3, .ref (gad w 27)), (2, .ref (gad w (ix (S 48 (ix x1))))), (0, .ref (gad w 0)), (1, .int x1)]) hx hb d_X_write_45 hl (by decide) rfl (fun ls hl => ?_)
      obtain ⟨z4, hz4, h⟩ := bnd_some h
      refine L_X_write_47 C _ _ hi3 FZ _ _ _ hz4 ?_ ls _ _ hG (lv_sub hl [3, 2, 1, 0] rfl)
      intro y5 Sy e9 ls H locs hG hl
      subst e9
      exact J73 _ _ h ls _ _ hG (lv_sub hl [0] rfl)
  · replace h := it_t h hc
    refine lv_bipush (v := (-2)) hx hb d_X_write_7 (by decide) ?_
    exact g_iret C hG (sm_fst h) (sm_snd h) hQ d_X_write_9
