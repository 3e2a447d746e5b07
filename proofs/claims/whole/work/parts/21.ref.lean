variable {p : Program} {l : Launch} {e : Env} {s : State} {m : MethodId} {args : Array Value} {below : List Frame} {meth : Method} {c : Code} {A : Nat → Prop} {Q : State → Prop} {w : gw} {S : St}
theorem d_M_type_0 : decode b_M_type 0 = .ok (.iload_n 1, 1) := by decide +kernel
theorem d_M_type_1 : decode b_M_type 1 = .ok (.i2l, 1) := by decide +kernel
theorem d_M_type_2 : decode b_M_type 2 = .ok (.lconst 0, 1) := by decide +kernel
theorem d_M_type_3 : decode b_M_type 3 = .ok (.ldc2_w 111, 3) := by decide +kernel
theorem d_M_type_6 : decode b_M_type 6 = .ok (.invokestatic 82, 3) := by decide +kernel
theorem d_M_type_9 : decode b_M_type 9 = .ok (.ifCond .ne 6, 3) := by decide +kernel
theorem d_M_type_12 : decode b_M_type 12 = .ok (.bipush (-2), 2) := by decide +kernel
theorem d_M_type_14 : decode b_M_type 14 = .ok (.ireturn, 1) := by decide +kernel
theorem d_M_type_15 : decode b_M_type 15 = .ok (.aload_n 0, 1) := by decide +kernel
theorem d_M_type_16 : decode b_M_type 16 = .ok (.getfield 113, 3) := by decide +kernel
theorem d_M_type_19 : decode b_M_type 19 = .ok (.bipush 100, 2) := by decide +kernel
theorem d_M_type_21 : decode b_M_type 21 = .ok (.if_icmp .ne 6, 3) := by decide +kernel
theorem d_M_type_24 : decode b_M_type 24 = .ok (.bipush (-4), 2) := by decide +kernel
theorem d_M_type_26 : decode b_M_type 26 = .ok (.ireturn, 1) := by decide +kernel
theorem d_M_type_27 : decode b_M_type 27 = .ok (.aload_n 0, 1) := by decide +kernel
theorem d_M_type_28 : decode b_M_type 28 = .ok (.getfield 22, 3) := by decide +kernel
theorem d_M_type_31 : decode b_M_type 31 = .ok (.aload_n 0, 1) := by decide +kernel
theorem d_M_type_32 : decode b_M_type 32 = .ok (.getfield 113, 3) := by decide +kernel
theorem d_M_type_35 : decode b_M_type 35 = .ok (.iload_n 1, 1) := by decide +kernel
theorem d_M_type_36 : decode b_M_type 36 = .ok (.iastore, 1) := by decide +kernel
theorem d_M_type_37 : decode b_M_type 37 = .ok (.aload_n 0, 1) := by decide +kernel
theorem d_M_type_38 : decode b_M_type 38 = .ok (.dup, 1) := by decide +kernel
theorem d_M_type_39 : decode b_M_type 39 = .ok (.getfield 113, 3) := by decide +kernel
theorem d_M_type_42 : decode b_M_type 42 = .ok (.iconst 1, 1) := by decide +kernel
theorem d_M_type_43 : decode b_M_type 43 = .ok (.iadd, 1) := by decide +kernel
theorem d_M_type_44 : decode b_M_type 44 = .ok (.putfield 113, 3) := by decide +kernel
theorem d_M_type_47 : decode b_M_type 47 = .ok (.aload_n 0, 1) := by decide +kernel
theorem d_M_type_48 : decode b_M_type 48 = .ok (.getfield 113, 3) := by decide +kernel
theorem d_M_type_51 : decode b_M_type 51 = .ok (.ireturn, 1) := by decide +kernel
noncomputable def M_type (S : St) (x1 : Int32) : Option (Int32 × St) :=
  if (M_in x1.toInt64 0 255) = 0 then
      some ((-2), S)
    else
      if (S 49 6) = 100 then
        some ((-4), S)
      else
        chk (inb (S 49 6) 100) <|
        some ((up (up S 54 (ix (S 49 6)) x1) 49 6 (((up S 54 (ix (S 49 6)) x1) 49 6) + 1)) 49 6, up (up S 54 (ix (S 49 6)) x1) 49 6 (((up S 54 (ix (S 49 6)) x1) 49 6) + 1))
set_option maxHeartbeats 4000000 in
set_option maxRecDepth 100000 in
theorem c_M_type (l : Launch) (w : gw) (S : St) (x1 : Int32)  {z : Int32 × St} (h : (M_type S x1) = some z) : gMi l w y_M_type b_M_type 2 (some .int) (rmm 1 25) [.ref (gad w 49), .int x1] S z.1 z.2 := by
  unfold M_type at h
  refine g_met (Qc := gQi w z.1 z.2) (by decide +kernel) (Nat.le_of_ble_eq_true rfl) ?_
  intro p e s m args below meth c A Q ls hQ C hG hl
  have hx := C.1
  have hb := C.2.1
  have hl : lv_has ls 2 [(0, .ref (gad w 49)), (1, .int x1)] := hl
  refine lv_iload_n hx hb d_M_type_0 rfl (lv_at hl 1 rfl) ?_
  refine lv_i2l (v := x1.toInt64) hx hb d_M_type_1 rfl ?_
  refine lv_lconst (v := 0) hx hb d_M_type_2 (by decide) ?_
  refine lv_ldc2 (v := 255) hx hb C.2.2.2.1 (C.2.2.2.2.1 _ qw808) d_M_type_3 ?_
  refine g_goi hG (g_runS (As := [.long x1.toInt64, .long 0, .long 255]) (rest := []) C hG (c_M_in l w S x1.toInt64 0 255 _) sw_M_82 rfl rfl ⟨by decide, by decide⟩ rfl hl.1 rfl (Nat.le_of_ble_eq_true rfl) d_M_type_6 ⟨Nat.zero_le _, Nat.zero_le _⟩) (fun H locs hG => ?_)
  refine lv_if_ne (tgt := 15) hx hb d_M_type_9 (by decide) (fun hc => ?_) (fun hc => ?_)
  · replace h := it_f h hc
    refine lv_aload_n hx hb d_M_type_15 rfl (lv_at hl 0 rfl) ?_
    refine g_get C hG (hG.lt (Nat.le_of_ble_eq_true rfl)) (ce49 w _) rfl inC8 6 (Nat.le_of_ble_eq_true rfl) qw682 rfl d_M_type_16 ?_
    refine lv_bipush (v := 100) hx hb d_M_type_19 (by decide) ?_
    refine lv_icmp_ne (tgt := 27) hx hb d_M_type_21 (by decide) (fun hc => ?_) (fun hc => ?_)
    · replace h := it_f h hc
      refine lv_aload_n hx hb d_M_type_27 rfl (lv_at hl 0 rfl) ?_
      refine g_get C hG (hG.lt (Nat.le_of_ble_eq_true rfl)) (ce49 w _) rfl inC8 5 (Nat.le_of_ble_eq_true rfl) qw681 rfl d_M_type_28 ?_
      refine lv_aload_n hx hb d_M_type_31 rfl (lv_at hl 0 rfl) ?_
      refine g_get C hG (hG.lt (Nat.le_of_ble_eq_true rfl)) (ce49 w _) rfl inC8 6 (Nat.le_of_ble_eq_true rfl) qw682 rfl d_M_type_32 ?_
      refine lv_iload_n hx hb d_M_type_35 rfl (lv_at hl 1 rfl) ?_
      obtain ⟨hi1, h⟩ := chk_some h
      refine g_iast (j := ix (S 49 6)) (x := x1) C hG (hG.lt (Nat.le_of_ble_eq_true rfl)) (ce54 w) (inb_in hi1) rfl d_M_type_36 (fun H locs hG => ?_)
      refine lv_aload_n hx hb d_M_type_37 rfl (lv_at hl 0 rfl) ?_
      refine lv_dup hx hb d_M_type_38 rfl ?_
      refine g_get C hG (hG.lt (Nat.le_of_ble_eq_true rfl)) (ce49 w _) rfl inC8 6 (Nat.le_of_ble_eq_true rfl) qw682 rfl d_M_type_39 ?_
      refine lv_iconst (v := 1) hx hb d_M_type_42 (by decide) ?_
      refine lv_iadd hx hb d_M_type_43 ?_
      refine g_put (x := ((up S 54 (ix (S 49 6)) x1) 49 6) + 1) C hG (hG.lt (Nat.le_of_ble_eq_true rfl)) (ce49 w _) rfl inC8 okC8 nmC8 6 (Nat.le_of_ble_eq_true rfl) qw682 rfl rfl rfl (Nat.le_of_ble_eq_true rfl) rfl d_M_type_44 (fun H locs hG => ?_)
      refine lv_aload_n hx hb d_M_type_47 rfl (lv_at hl 0 rfl) ?_
      refine g_get C hG (hG.lt (Nat.le_of_ble_eq_true rfl)) (ce49 w _) rfl inC8 6 (Nat.le_of_ble_eq_true rfl) qw682 rfl d_M_type_48 ?_
      exact g_iret C hG (sm_fst h) (sm_snd h) hQ d_M_type_51
    · replace h := it_t h hc
      refine lv_bipush (v := (-4)) hx hb d_M_type_24 (by decide) ?_
      exact g_iret C hG (sm_fst h) (sm_snd h) hQ d_M_type_26
  · replace h := it_t h hc
    refine lv_bipush (v := (-2)) hx hb d_M_type_12 (by decide) ?_
    exact g_iret C hG (sm_fst h) (sm_snd h) hQ d_M_type_14
theorem d_M_wipe_0 : decode b_M_wipe 0 = .ok (.aload_n 0, 1) := by decide +kernel
theorem d_M_wipe_1 : decode b_M_wipe 1 = .ok (.getfield 113, 3) := by decide +kernel
theorem d_M_wipe_4 : decode b_M_wipe 4 = .ok (.istore_n 1, 1) := by decide +kernel
theorem d_M_wipe_5 : decode b_M_wipe 5 = .ok (.aload_n 0, 1) := by decide +kernel
theorem d_M_wipe_6 : decode b_M_wipe 6 = .ok (.iconst 0, 1) := by decide +kernel
theorem d_M_wipe_7 : decode b_M_wipe 7 = .ok (.putfield 113, 3) := by decide +kernel
theorem d_M_wipe_10 : decode b_M_wipe 10 = .ok (.iload_n 1, 1) := by decide +kernel
theorem d_M_wipe_11 : decode b_M_wipe 11 = .ok (.ireturn, 1) := by decide +kernel
noncomputable def M_wipe (S : St) : Option (Int32 × St) :=
  some (S 49 6, up S 49 6 0)
set_option maxHeartbeats 4000000 in
set_option maxRecDepth 100000 in
theorem c_M_wipe (l : Launch) (w : gw) (S : St)   {z : Int32 × St} (h : (M_wipe S) = some z) : gMi l w y_M_wipe b_M_wipe 2 (some .int) (rmm 0 0) [.ref (gad w 49)] S z.1 z.2 := by
  unfold M_wipe at h
  refine g_met (Qc := gQi w z.1 z.2) (by decide +kernel) (Nat.le_of_ble_eq_true rfl) ?_
  intro p e s m args below meth c A Q ls hQ C hG hl
  have hx := C.1
  have hb := C.2.1
  have hl : lv_has ls 2 [(0, .ref (gad w 49))] := hl
  refine lv_aload_n hx hb d_M_wipe_0 rfl (lv_at hl 0 rfl) ?_
  refine g_get C hG (hG.lt (Nat.le_of_ble_eq_true rfl)) (ce49 w _) rfl inC8 6 (Nat.le_of_ble_eq_true rfl) qw682 rfl d_M_wipe_1 ?_
  refine lv_istore_n (lv' := [(1, .int (S 49 6)), (0, .ref (gad w 49))]) hx hb d_M_wipe_4 rfl hl (by decide) rfl (fun ls hl => ?_)
  refine lv_aload_n hx hb d_M_wipe_5 rfl (lv_at hl 1 rfl) ?_
  refine lv_iconst (v := 0) hx hb d_M_wipe_6 (by decide) ?_
  refine g_put (x := 0) C hG (hG.lt (Nat.le_of_ble_eq_true rfl)) (ce49 w _) rfl inC8 okC8 nmC8 6 (Nat.le_of_ble_eq_true rfl) qw682 rfl rfl rfl (Nat.le_of_ble_eq_true rfl) rfl d_M_wipe_7 (fun H locs hG => ?_)
  refine lv_iload_n hx hb d_M_wipe_10 rfl (lv_at hl 0 rfl) ?_
  exact g_iret C hG (sm_fst h) (sm_snd h) hQ d_M_wipe_11
theorem d_M_here_0 : decode b_M_here 0 = .ok (.aload_n 0, 1) := by decide +kernel
theorem d_M_here_1 : decode b_M_here 1 = .ok (.getfield 116, 3) := by decide +kernel
theorem d_M_here_4 : decode b_M_here 4 = .ok (.aload_n 0, 1) := by decide +kernel
theorem d_M_here_5 : decode b_M_here 5 = .ok (.getfield 113, 3) := by decide +kernel
theorem d_M_here_8 : decode b_M_here 8 = .ok (.if_icmp .ge 15, 3) := by decide +kernel
theorem d_M_here_11 : decode b_M_here 11 = .ok (.aload_n 0, 1) := by decide +kernel
theorem d_M_here_12 : decode b_M_here 12 = .ok (.getfield 22, 3) := by decide +kernel
theorem d_M_here_15 : decode b_M_here 15 = .ok (.aload_n 0, 1) := by decide +kernel
theorem d_M_here_16 : decode b_M_here 16 = .ok (.getfield 116, 3) := by decide +kernel
theorem d_M_here_19 : decode b_M_here 19 = .ok (.iaload, 1) := by decide +kernel
theorem d_M_here_20 : decode b_M_here 20 = .ok (.goto 4, 3) := by decide +kernel
theorem d_M_here_23 : decode b_M_here 23 = .ok (.iconst (-1), 1) := by decide +kernel
theorem d_M_here_24 : decode b_M_here 24 = .ok (.ireturn, 1) := by decide +kernel
noncomputable def M_here (S : St) : Option (Int32) :=
  if (S 49 6) ≤ (S 49 7) then
      some (-1)
    else
      chk (inb (S 49 7) 100) <|
      some (S 54 (ix (S 49 7)))
set_option maxHeartbeats 4000000 in
set_option maxRecDepth 100000 in
theorem c_M_here (l : Launch) (w : gw) (S : St)   {z : Int32} (h : (M_here S) = some z) : gMi l w y_M_here b_M_here 1 (some .int) (rmm 0 0) [.ref (gad w 49)] S z S := by
  unfold M_here at h
  refine g_met (Qc := gQi w z S) (by decide +kernel) (Nat.le_of_ble_eq_true rfl) ?_
  intro p e s m args below meth c A Q ls hQ C hG hl
  have hx := C.1
  have hb := C.2.1
  have hl : lv_has ls 1 [(0, .ref (gad w 49))] := hl
  refine lv_aload_n hx hb d_M_here_0 rfl (lv_at hl 0 rfl) ?_
  refine g_get C hG (hG.lt (Nat.le_of_ble_eq_true rfl)) (ce49 w _) rfl inC8 7 (Nat.le_of_ble_eq_true rfl) qw683 rfl d_M_here_1 ?_
  refine lv_aload_n hx hb d_M_here_4 rfl (lv_at hl 0 rfl) ?_
  refine g_get C hG (hG.lt (Nat.le_of_ble_eq_true rfl)) (ce49 w _) rfl inC8 6 (Nat.le_of_ble_eq_true rfl) qw682 rfl d_M_here_5 ?_
  refine lv_icmp_ge (tgt := 23) hx hb d_M_here_8 (by decide) (fun hc => ?_) (fun hc => ?_)
  · replace h := it_t h hc
    refine lv_iconst (v := (-1)) hx hb d_M_here_23 (by decide) ?_
    exact g_iret C hG (Option.some.inj h) rfl hQ d_M_here_24
  · replace h := it_f h hc
    refine lv_aload_n hx hb d_M_here_11 rfl (lv_at hl 0 rfl) ?_
    refine g_get C hG (hG.lt (Nat.le_of_ble_eq_true rfl)) (ce49 w _) rfl inC8 5 (Nat.le_of_ble_eq_true rfl) qw681 rfl d_M_here_12 ?_
    refine lv_aload_n hx hb d_M_here_15 rfl (lv_at hl 0 rfl) ?_
    refine g_get C hG (hG.lt (Nat.le_of_ble_eq_true rfl)) (ce49 w _) rfl inC8 7 (Nat.le_of_ble_eq_true rfl) qw683 rfl d_M_here_16 ?_
    obtain ⟨hi1, h⟩ := chk_some h
    refine g_iald (j := ix (S 49 7)) C hG (hG.lt (Nat.le_of_ble_eq_true rfl)) (ce54 w _) (inb_in hi1) rfl d_M_here_19 ?_
    refine lv_goto (tgt := 24) hx hb d_M_here_20 (by decide) ?_
    exact g_iret C hG (Option.some.inj h) rfl hQ d_M_here_24
theorem d_M_none_0 : decode b_M_none 0 = .ok (.aload_n 0, 1) := by decide +kernel
theorem d_M_none_1 : decode b_M_none 1 = .ok (.iconst 0, 1) := by decide +kernel
theorem d_M_none_2 : decode b_M_none 2 = .ok (.putfield 119, 3) := by decide +kernel
theorem d_M_none_5 : decode b_M_none 5 = .ok (.aload_n 0, 1) := by decide +kernel
theorem d_M_none_6 : decode b_M_none 6 = .ok (.getfield 116, 3) := by decide +kernel
theorem d_M_none_9 : decode b_M_none 9 = .ok (.ireturn, 1) := by decide +kernel
noncomputable def M_none (S : St) : Option (Int32 × St) :=
  some ((up S 49 8 0) 49 7, up S 49 8 0)
set_option maxHeartbeats 4000000 in
set_option maxRecDepth 100000 in
theorem c_M_none (l : Launch) (w : gw) (S : St)   {z : Int32 × St} (h : (M_none S) = some z) : gMi l w y_M_none b_M_none 1 (some .int) (rmm 0 0) [.ref (gad w 49)] S z.1 z.2 := by
  unfold M_none at h
  refine g_met (Qc := gQi w z.1 z.2) (by decide +kernel) (Nat.le_of_ble_eq_true rfl) ?_
  intro p e s m args below meth c A Q ls hQ C hG hl
  have hx := C.1
  have hb := C.2.1
  have hl : lv_has ls 1 [(0, .ref (gad w 49))] := hl
  refine lv_aload_n hx hb d_M_none_0 rfl (lv_at hl 0 rfl) ?_
  refine lv_iconst (v := 0) hx hb d_M_none_1 (by decide) ?_
  refine g_put (x := 0) C hG (hG.lt (Nat.le_of_ble_eq_true rfl)) (ce49 w _) rfl inC8 okC8 nmC8 8 (Nat.le_of_ble_eq_true rfl) qw684 rfl rfl rfl (Nat.le_of_ble_eq_true rfl) rfl d_M_none_2 (fun H locs hG => ?_)
  refine lv_aload_n hx hb d_M_none_5 rfl (lv_at hl 0 rfl) ?_
  refine g_get C hG (hG.lt (Nat.le_of_ble_eq_true rfl)) (ce49 w _) rfl inC8 7 (Nat.le_of_ble_eq_true rfl) qw683 rfl d_M_none_6 ?_
  exact g_iret C hG (sm_fst h) (sm_snd h) hQ d_M_none_9
theorem d_M_readsPart_0 : decode b_M_readsPart 0 = .ok (.aload_n 0, 1) := by decide +kernel
theorem d_M_readsPart_1 : decode b_M_readsPart 1 = .ok (.getfield 119, 3) := by decide +kernel
theorem d_M_readsPart_4 : decode b_M_readsPart 4 = .ok (.bipush 20, 2) := by decide +kernel
theorem d_M_readsPart_6 : decode b_M_readsPart 6 = .ok (.if_icmp .ne 5, 3) := by decide +kernel
theorem d_M_readsPart_9 : decode b_M_readsPart 9 = .ok (.iconst 0, 1) := by decide +kernel
theorem d_M_readsPart_10 : decode b_M_readsPart 10 = .ok (.ireturn, 1) := by decide +kernel
theorem d_M_readsPart_11 : decode b_M_readsPart 11 = .ok (.iconst 0, 1) := by decide +kernel
theorem d_M_readsPart_12 : decode b_M_readsPart 12 = .ok (.istore_n 1, 1) := by decide +kernel
theorem d_M_readsPart_13 : decode b_M_readsPart 13 = .ok (.iconst 0, 1) := by decide +kernel
theorem d_M_readsPart_14 : decode b_M_readsPart 14 = .ok (.istore_n 2, 1) := by decide +kernel
theorem d_M_readsPart_15 : decode b_M_readsPart 15 = .ok (.iload_n 2, 1) := by decide +kernel
theorem d_M_readsPart_16 : decode b_M_readsPart 16 = .ok (.iconst 4, 1) := by decide +kernel
theorem d_M_readsPart_17 : decode b_M_readsPart 17 = .ok (.if_icmp .ge 109, 3) := by decide +kernel
theorem d_M_readsPart_20 : decode b_M_readsPart 20 = .ok (.aload_n 0, 1) := by decide +kernel
theorem d_M_readsPart_21 : decode b_M_readsPart 21 = .ok (.invokevirtual 122, 3) := by decide +kernel
theorem d_M_readsPart_24 : decode b_M_readsPart 24 = .ok (.bipush 48, 2) := by decide +kernel
theorem d_M_readsPart_26 : decode b_M_readsPart 26 = .ok (.isub, 1) := by decide +kernel
theorem d_M_readsPart_27 : decode b_M_readsPart 27 = .ok (.istore_n 3, 1) := by decide +kernel
theorem d_M_readsPart_28 : decode b_M_readsPart 28 = .ok (.iload_n 2, 1) := by decide +kernel
theorem d_M_readsPart_29 : decode b_M_readsPart 29 = .ok (.iconst 2, 1) := by decide +kernel
theorem d_M_readsPart_30 : decode b_M_readsPart 30 = .ok (.if_icmp .ge 7, 3) := by decide +kernel
theorem d_M_readsPart_33 : decode b_M_readsPart 33 = .ok (.iconst 0, 1) := by decide +kernel
theorem d_M_readsPart_34 : decode b_M_readsPart 34 = .ok (.goto 9, 3) := by decide +kernel
theorem d_M_readsPart_37 : decode b_M_readsPart 37 = .ok (.bipush 10, 2) := by decide +kernel
theorem d_M_readsPart_39 : decode b_M_readsPart 39 = .ok (.iload_n 1, 1) := by decide +kernel
theorem d_M_readsPart_40 : decode b_M_readsPart 40 = .ok (.imul, 1) := by decide +kernel
theorem d_M_readsPart_41 : decode b_M_readsPart 41 = .ok (.iload_n 3, 1) := by decide +kernel
theorem d_M_readsPart_42 : decode b_M_readsPart 42 = .ok (.iadd, 1) := by decide +kernel
theorem d_M_readsPart_43 : decode b_M_readsPart 43 = .ok (.istore_n 1, 1) := by decide +kernel
theorem d_M_readsPart_44 : decode b_M_readsPart 44 = .ok (.iload_n 3, 1) := by decide +kernel
theorem d_M_readsPart_45 : decode b_M_readsPart 45 = .ok (.i2l, 1) := by decide +kernel
theorem d_M_readsPart_46 : decode b_M_readsPart 46 = .ok (.lconst 0, 1) := by decide +kernel
theorem d_M_readsPart_47 : decode b_M_readsPart 47 = .ok (.iload_n 2, 1) := by decide +kernel
theorem d_M_readsPart_48 : decode b_M_readsPart 48 = .ok (.iconst 1, 1) := by decide +kernel
theorem d_M_readsPart_49 : decode b_M_readsPart 49 = .ok (.if_icmp .ne 9, 3) := by decide +kernel
theorem d_M_readsPart_52 : decode b_M_readsPart 52 = .ok (.ldc2_w 126, 3) := by decide +kernel
theorem d_M_readsPart_55 : decode b_M_readsPart 55 = .ok (.goto 6, 3) := by decide +kernel
theorem d_M_readsPart_58 : decode b_M_readsPart 58 = .ok (.ldc2_w 128, 3) := by decide +kernel
theorem d_M_readsPart_61 : decode b_M_readsPart 61 = .ok (.invokestatic 82, 3) := by decide +kernel
theorem d_M_readsPart_64 : decode b_M_readsPart 64 = .ok (.ifCond .eq 12, 3) := by decide +kernel
theorem d_M_readsPart_67 : decode b_M_readsPart 67 = .ok (.iload_n 2, 1) := by decide +kernel
theorem d_M_readsPart_68 : decode b_M_readsPart 68 = .ok (.iconst 3, 1) := by decide +kernel
theorem d_M_readsPart_69 : decode b_M_readsPart 69 = .ok (.if_icmp .ne 9, 3) := by decide +kernel
theorem d_M_readsPart_72 : decode b_M_readsPart 72 = .ok (.iload_n 1, 1) := by decide +kernel
theorem d_M_readsPart_73 : decode b_M_readsPart 73 = .ok (.ifCond .ne 5, 3) := by decide +kernel
theorem d_M_readsPart_76 : decode b_M_readsPart 76 = .ok (.iconst 0, 1) := by decide +kernel
theorem d_M_readsPart_77 : decode b_M_readsPart 77 = .ok (.ireturn, 1) := by decide +kernel
theorem d_M_readsPart_78 : decode b_M_readsPart 78 = .ok (.aload_n 0, 1) := by decide +kernel
theorem d_M_readsPart_79 : decode b_M_readsPart 79 = .ok (.getfield 25, 3) := by decide +kernel
theorem d_M_readsPart_82 : decode b_M_readsPart 82 = .ok (.iconst 3, 1) := by decide +kernel
theorem d_M_readsPart_83 : decode b_M_readsPart 83 = .ok (.aload_n 0, 1) := by decide +kernel
theorem d_M_readsPart_84 : decode b_M_readsPart 84 = .ok (.getfield 119, 3) := by decide +kernel
theorem d_M_readsPart_87 : decode b_M_readsPart 87 = .ok (.imul, 1) := by decide +kernel
theorem d_M_readsPart_88 : decode b_M_readsPart 88 = .ok (.iload_n 2, 1) := by decide +kernel
theorem d_M_readsPart_89 : decode b_M_readsPart 89 = .ok (.iconst 2, 1) := by decide +kernel
theorem d_M_readsPart_90 : decode b_M_readsPart 90 = .ok (.if_icmp .ge 7, 3) := by decide +kernel
theorem d_M_readsPart_93 : decode b_M_readsPart 93 = .ok (.iload_n 2, 1) := by decide +kernel
theorem d_M_readsPart_94 : decode b_M_readsPart 94 = .ok (.goto 4, 3) := by decide +kernel
theorem d_M_readsPart_97 : decode b_M_readsPart 97 = .ok (.iconst 2, 1) := by decide +kernel
theorem d_M_readsPart_98 : decode b_M_readsPart 98 = .ok (.iadd, 1) := by decide +kernel
theorem d_M_readsPart_99 : decode b_M_readsPart 99 = .ok (.iload_n 2, 1) := by decide +kernel
theorem d_M_readsPart_100 : decode b_M_readsPart 100 = .ok (.iconst 2, 1) := by decide +kernel
theorem d_M_readsPart_101 : decode b_M_readsPart 101 = .ok (.if_icmp .ge 7, 3) := by decide +kernel
theorem d_M_readsPart_104 : decode b_M_readsPart 104 = .ok (.iload_n 3, 1) := by decide +kernel
theorem d_M_readsPart_105 : decode b_M_readsPart 105 = .ok (.goto 4, 3) := by decide +kernel
theorem d_M_readsPart_108 : decode b_M_readsPart 108 = .ok (.iload_n 1, 1) := by decide +kernel
theorem d_M_readsPart_109 : decode b_M_readsPart 109 = .ok (.iastore, 1) := by decide +kernel
theorem d_M_readsPart_110 : decode b_M_readsPart 110 = .ok (.aload_n 0, 1) := by decide +kernel
theorem d_M_readsPart_111 : decode b_M_readsPart 111 = .ok (.dup, 1) := by decide +kernel
theorem d_M_readsPart_112 : decode b_M_readsPart 112 = .ok (.getfield 116, 3) := by decide +kernel
theorem d_M_readsPart_115 : decode b_M_readsPart 115 = .ok (.iconst 1, 1) := by decide +kernel
theorem d_M_readsPart_116 : decode b_M_readsPart 116 = .ok (.iadd, 1) := by decide +kernel
theorem d_M_readsPart_117 : decode b_M_readsPart 117 = .ok (.putfield 116, 3) := by decide +kernel
theorem d_M_readsPart_120 : decode b_M_readsPart 120 = .ok (.iinc 2 1, 3) := by decide +kernel
theorem d_M_readsPart_123 : decode b_M_readsPart 123 = .ok (.goto (-108), 3) := by decide +kernel
theorem d_M_readsPart_126 : decode b_M_readsPart 126 = .ok (.aload_n 0, 1) := by decide +kernel
theorem d_M_readsPart_127 : decode b_M_readsPart 127 = .ok (.dup, 1) := by decide +kernel
theorem d_M_readsPart_128 : decode b_M_readsPart 128 = .ok (.getfield 119, 3) := by decide +kernel
theorem d_M_readsPart_131 : decode b_M_readsPart 131 = .ok (.iconst 1, 1) := by decide +kernel
theorem d_M_readsPart_132 : decode b_M_readsPart 132 = .ok (.iadd, 1) := by decide +kernel
theorem d_M_readsPart_133 : decode b_M_readsPart 133 = .ok (.putfield 119, 3) := by decide +kernel
theorem d_M_readsPart_136 : decode b_M_readsPart 136 = .ok (.iconst 1, 1) := by decide +kernel
theorem d_M_readsPart_137 : decode b_M_readsPart 137 = .ok (.ireturn, 1) := by decide +kernel
noncomputable def M_readsPart_J109 (S : St) (x1 : Int32) (x2 : Int32) (t1 : Int32) (t2 : Int32) : Option ((Int32 × Int32 × St) × Nat) :=
  chk (inb t1 60) <|
    some ((x1, x2 + 1, up (up S 55 (ix t1) t2) 49 7 (((up S 55 (ix t1) t2) 49 7) + 1)), 0)
noncomputable def M_readsPart_J98 (S : St) (x1 : Int32) (x2 : Int32) (x3 : Int32) (t1 : Int32) (t2 : Int32) : Option ((Int32 × Int32 × St) × Nat) :=
  if 2 ≤ x2 then
      M_readsPart_J109 S x1 x2 (t1 + t2) x1
    else
      M_readsPart_J109 S x1 x2 (t1 + t2) x3
noncomputable def M_readsPart_J78 (S : St) (x1 : Int32) (x2 : Int32) (x3 : Int32) : Option ((Int32 × Int32 × St) × Nat) :=
  if 2 ≤ x2 then
      M_readsPart_J98 S x1 x2 x3 (3 * (S 49 8)) 2
    else
      M_readsPart_J98 S x1 x2 x3 (3 * (S 49 8)) x2
noncomputable def M_readsPart_J61 (S : St) (x1 : Int32) (x2 : Int32) (x3 : Int32) (t0 : Int64) (t1 : Int64) (t2 : Int64) : Option ((Int32 × Int32 × St) × Nat) :=
  if (M_in t0 t1 t2) = 0 then
      some ((x1, x2, S), 1)
    else
      if x2 = 3 then
        if x1 = 0 then
          some ((x1, x2, S), 1)
        else
          M_readsPart_J78 S x1 x2 x3
      else
        M_readsPart_J78 S x1 x2 x3
noncomputable def M_readsPart_J43 (S : St) (x2 : Int32) (x3 : Int32) (t0 : Int32) : Option ((Int32 × Int32 × St) × Nat) :=
  if x2 = 1 then
      M_readsPart_J61 S t0 x2 x3 x3.toInt64 0 4
    else
      M_readsPart_J61 S t0 x2 x3 x3.toInt64 0 9
noncomputable def M_readsPart_L15 (S : St) (x1 : Int32) (x2 : Int32) : Option ((Int32 × Int32 × St) × Nat) :=
  if 4 ≤ x2 then
      some ((x1, x2, S), 2)
    else
      bnd (M_here S) fun z1 =>
      if 2 ≤ x2 then
        M_readsPart_J43 S x2 (z1 - 48) ((10 * x1) + (z1 - 48))
      else
        M_readsPart_J43 S x2 (z1 - 48) 0
noncomputable def M_readsPart_J126 (S : St) : Option (Int32 × St) :=
  some (1, up S 49 8 ((S 49 8) + 1))
noncomputable def M_readsPart_J76 (S : St) : Option (Int32 × St) :=
  some (0, S)
noncomputable def M_readsPart (S : St) : Option (Int32 × St) :=
  if (S 49 8) = 20 then
      some (0, S)
    else
      bnd (lp (σ := Int32 × Int32 × St) (fun q => M_readsPart_L15 q.2.2 q.1 q.2.1) FZ (0, 0, S)) fun z2 =>
      if z2.2 = 1 then
        M_readsPart_J76 z2.1.2.2
      else M_readsPart_J126 z2.1.2.2
set_option maxHeartbeats 4000000 in
set_option maxRecDepth 100000 in
theorem L_M_readsPart_15 (C : gCx p s m args meth c y_M_readsPart.cls b_M_readsPart 4 (some .boolean)) : ∀ (n : Nat) (x1 : Int32) (x2 : Int32) (S : St) (r : (Int32 × Int32 × St) × Nat), lp (σ := Int32 × Int32 × St) (fun q => M_readsPart_L15 q.2.2 q.1 q.2.1) n (x1, x2, S) = some r → (∀ (y1 : Int32) (y2 : Int32) (Sy : St), r = ((y1, y2, Sy), 1) → ∀ (ls : Array Slot) (H : Heap) (locs : List Loc), GH w s A Sy H locs → lv_has ls 4 [] → W p l e (rmm 1 25) s m args below meth c H locs 0 0 Q (F0 m 76 ls [])) → (∀ (y1 : Int32) (y2 : Int32) (Sy : St), r = ((y1, y2, Sy), 2) → ∀ (ls : Array Slot) (H : Heap) (locs : List Loc), GH w s A Sy H locs → lv_has ls 4 [(0, .ref (gad w 49))] → W p l e (rmm 1 25) s m args below meth c H locs 0 0 Q (F0 m 126 ls [])) → ∀ (ls : Array Slot) (H : Heap) (locs : List Loc), GH w s A S H locs → lv_has ls 4 [(0, .ref (gad w 49)), (1, .int x1), (2, .int x2)] → W p l e (rmm 1 25) s m args below meth c H locs 0 0 Q (F0 m 15 ls []) := by
  have hx := C.1
  have hb := C.2.1
  intro n
  induction n with
  | zero => intro x1 x2 S r h; cases h
  | succ n ih =>
    intro x1 x2 S r h k1 k2 ls H locs hG hl
    obtain ⟨z, h, hr⟩ := lp_succ h
    have h : M_readsPart_L15 S x1 x2 = some z := h
    have J109 : ∀ (S : St) (x1 : Int32) (x2 : Int32) (t1 : Int32) (t2 : Int32), M_readsPart_J109 S x1 x2 t1 t2 = some z → ∀ (ls : Array Slot) (H : Heap) (locs : List Loc), GH w s A S H locs → lv_has ls 4 [(0, .ref (gad w 49)), (1, .int x1), (2, .int x2)] → W p l e (rmm 1 25) s m args below meth c H locs 0 0 Q (F0 m 109 ls [.int t2, .int t1, .ref (gad w 55)]) := by
      intro S x1 x2 t1 t2 h ls H locs hG hl
      unfold M_readsPart_J109 at h
      obtain ⟨hi1, h⟩ := chk_some h
      refine g_iast (j := ix t1) (x := t2) C hG (hG.lt (Nat.le_of_ble_eq_true rfl)) (ce55 w) (inb_in hi1) rfl d_M_readsPart_109 (fun H locs hG => ?_)
      refine lv_aload_n hx hb d_M_readsPart_110 rfl (lv_at hl 0 rfl) ?_
      refine lv_dup hx hb d_M_readsPart_111 rfl ?_
      refine g_get C hG (hG.lt (Nat.le_of_ble_eq_true rfl)) (ce49 w _) rfl inC8 7 (Nat.le_of_ble_eq_true rfl) qw683 rfl d_M_readsPart_112 ?_
      refine lv_iconst (v := 1) hx hb d_M_readsPart_115 (by decide) ?_
      refine lv_iadd hx hb d_M_readsPart_116 ?_
      refine g_put (x := ((up S 55 (ix t1) t2) 49 7) + 1) C hG (hG.lt (Nat.le_of_ble_eq_true rfl)) (ce49 w _) rfl inC8 okC8 nmC8 7 (Nat.le_of_ble_eq_true rfl) qw683 rfl rfl rfl (Nat.le_of_ble_eq_true rfl) rfl d_M_readsPart_117 (fun H locs hG => ?_)
      refine lv_iinc (v := x2 + 1) (lv' := [(2, .int (x2 + 1)), (0, .ref (gad w 49)), (1, .int x1)]) hx hb d_M_readsPart_120 hl (k := 2) rfl (congrArg (HAdd.hAdd x2) (by decide : Int32.ofInt 1 = 1)) (by decide) rfl (fun ls hl => ?_)
      refine lv_goto (tgt := 15) hx hb d_M_readsPart_123 (by decide) ?_
      exact ih _ _ _ _ (lp_back h hr) k1 k2 ls _ _ hG (lv_sub hl [1, 2, 0] rfl)
    have J98 : ∀ (S : St) (x1 : Int32) (x2 : Int32) (x3 : Int32) (t1 : Int32) (t2 : Int32), M_readsPart_J98 S x1 x2 x3 t1 t2 = some z → ∀ (ls : Array Slot) (H : Heap) (locs : List Loc), GH w s A S H locs → lv_has ls 4 [(0, .ref (gad w 49)), (1, .int x1), (2, .int x2), (3, .int x3)] → W p l e (rmm 1 25) s m args below meth c H locs 0 0 Q (F0 m 98 ls [.int t2, .int t1, .ref (gad w 55)]) := by
      intro S x1 x2 x3 t1 t2 h ls H locs hG hl
      unfold M_readsPart_J98 at h
      refine lv_iadd hx hb d_M_readsPart_98 ?_
      refine lv_iload_n hx hb d_M_readsPart_99 rfl (lv_at hl 2 rfl) ?_
      refine lv_iconst (v := 2) hx hb d_M_readsPart_100 (by decide) ?_
      refine lv_icmp_ge (tgt := 108) hx hb d_M_readsPart_101 (by decide) (fun hc => ?_) (fun hc => ?_)
      · replace h := it_t h hc
        refine lv_iload_n hx hb d_M_readsPart_108 rfl (lv_at hl 1 rfl) ?_
        exact J109 _ _ _ _ _ h ls _ _ hG (lv_sub hl [0, 1, 2] rfl)
      · replace h := it_f h hc
        refine lv_iload_n hx hb d_M_readsPart_104 rfl (lv_at hl 3 rfl) ?_
        refine lv_goto (tgt := 109) hx hb d_M_readsPart_105 (by decide) ?_
        exact J109 _ _ _ _ _ h ls _ _ hG (lv_sub hl [0, 1, 2] rfl)
    have J78 : ∀ (S : St) (x1 : Int32) (x2 : Int32) (x3 : Int32), M_readsPart_J78 S x1 x2 x3 = some z → ∀ (ls : Array Slot) (H : Heap) (locs : List Loc), GH w s A S H locs → lv_has ls 4 [(0, .ref (gad w 49)), (1, .int x1), (2, .int x2), (3, .int x3)] → W p l e (rmm 1 25) s m args below meth c H locs 0 0 Q (F0 m 78 ls []) := by
      intro S x1 x2 x3 h ls H locs hG hl
      unfold M_readsPart_J78 at h
      refine lv_aload_n hx hb d_M_readsPart_78 rfl (lv_at hl 0 rfl) ?_
      refine g_get C hG (hG.lt (Nat.le_of_ble_eq_true rfl)) (ce49 w _) rfl inC8 9 (Nat.le_of_ble_eq_true rfl) qw685 rfl d_M_readsPart_79 ?_
      refine lv_iconst (v := 3) hx hb d_M_readsPart_82 (by decide) ?_
      refine lv_aload_n hx hb d_M_readsPart_83 rfl (lv_at hl 0 rfl) ?_
      refine g_get C hG (hG.lt (Nat.le_of_ble_eq_true rfl)) (ce49 w _) rfl inC8 8 (Nat.le_of_ble_eq_true rfl) qw684 rfl d_M_readsPart_84 ?_
      refine lv_imul hx hb d_M_readsPart_87 ?_
      refine lv_iload_n hx hb d_M_readsPart_88 rfl (lv_at hl 2 rfl) ?_
      refine lv_iconst (v := 2) hx hb d_M_readsPart_89 (by decide) ?_
      refine lv_icmp_ge (tgt := 97) hx hb d_M_readsPart_90 (by decide) (fun hc => ?_) (fun hc => ?_)
      · replace h := it_t h hc
        refine lv_iconst (v := 2) hx hb d_M_readsPart_97 (by decide) ?_
        exact J98 _ _ _ _ _ _ h ls _ _ hG (lv_sub hl [0, 1, 2, 3] rfl)
      · replace h := it_f h hc
        refine lv_iload_n hx hb d_M_readsPart_93 rfl (lv_at hl 2 rfl) ?_
        refine lv_goto (tgt := 98) hx hb d_M_readsPart_94 (by decide) ?_
        exact J98 _ _ _ _ _ _ h ls _ _ hG (lv_sub hl [0, 1, 2, 3] rfl)
    have J61 : ∀ (S : St) (x1 : Int32) (x2 : Int32) (x3 : Int32) (t0 : Int64) (t1 : Int64) (t2 : Int64), M_readsPart_J61 S x1 x2 x3 t0 t1 t2 = some z → ∀ (ls : Array Slot) (H : Heap) (locs : List Loc), GH w s A S H locs → lv_has ls 4 [(0, .ref (gad w 49)), (1, .int x1), (2, .int x2), (3, .int x3)] → W p l e (rmm 1 25) s m args below meth c H locs 0 0 Q (F0 m 61 ls [.long t2, .long t1, .long t0]) := by
      intro S x1 x2 x3 t0 t1 t2 h ls H locs hG hl
      unfold M_readsPart_J61 at h
      refine g_goi hG (g_runS (As := [.long t0, .long t1, .long t2]) (rest := []) C hG (c_M_in l w S t0 t1 t2 _) sw_M_82 rfl rfl ⟨by decide, by decide⟩ rfl hl.1 rfl (Nat.le_of_ble_eq_true rfl) d_M_readsPart_61 ⟨Nat.zero_le _, Nat.zero_le _⟩) (fun H locs hG => ?_)
      refine lv_if_eq (tgt := 76) hx hb d_M_readsPart_64 (by decide) (fun hc => ?_) (fun hc => ?_)
      · replace h := it_t h hc
        exact k1 _ _ _ (lp_exit h hr) ls _ _ hG (lv_sub hl [] rfl)
      · replace h := it_f h hc
        refine lv_iload_n hx hb d_M_readsPart_67 rfl (lv_at hl 2 rfl) ?_
        refine lv_iconst (v := 3) hx hb d_M_readsPart_68 (by decide) ?_
        refine lv_icmp_ne (tgt := 78) hx hb d_M_readsPart_69 (by decide) (fun hc => ?_) (fun hc => ?_)
        · replace h := it_f h hc
          exact J78 _ _ _ _ h ls _ _ hG (lv_sub hl [0, 1, 2, 3] rfl)
        · replace h := it_t h hc
          refine lv_iload_n hx hb d_M_readsPart_72 rfl (lv_at hl 1 rfl) ?_
          refine lv_if_ne (tgt := 78) hx hb d_M_readsPart_73 (by decide) (fun hc => ?_) (fun hc => ?_)
          · replace h := it_f h hc
            exact J78 _ _ _ _ h ls _ _ hG (lv_sub hl [0, 1, 2, 3] rfl)
          · replace h := it_t h hc
            exact k1 _ _ _ (lp_exit h hr) ls _ _ hG (lv_sub hl [] rfl)
    have J43 : ∀ (S : St) (x2 : Int32) (x3 : Int32) (t0 : Int32), M_readsPart_J43 S x2 x3 t0 = some z → ∀ (ls : Array Slot) (H : Heap) (locs : List Loc), GH w s A S H locs → lv_has ls 4 [(0, .ref (gad w 49)), (2, .int x2), (3, .int x3)] → W p l e (rmm 1 25) s m args below meth c H locs 0 0 Q (F0 m 43 ls [.int t0]) := by
      intro S x2 x3 t0 h ls H locs hG hl
      unfold M_readsPart_J43 at h
      refine lv_istore_n (lv' := [(1, .int t0), (0, .ref (gad w 49)), (2, .int x2), (3, .int x3)]) hx hb d_M_readsPart_43 rfl hl (by decide) rfl (fun ls hl => ?_)
      refine lv_iload_n hx hb d_M_readsPart_44 rfl (lv_at hl 3 rfl) ?_
      refine lv_i2l (v := x3.toInt64) hx hb d_M_readsPart_45 rfl ?_
      refine lv_lconst (v := 0) hx hb d_M_readsPart_46 (by decide) ?_
      refine lv_iload_n hx hb d_M_readsPart_47 rfl (lv_at hl 2 rfl) ?_
      refine lv_iconst (v := 1) hx hb d_M_readsPart_48 (by decide) ?_
      refine lv_icmp_ne (tgt := 58) hx hb d_M_readsPart_49 (by decide) (fun hc => ?_) (fun hc => ?_)
      · replace h := it_f h hc
        refine lv_ldc2 (v := 9) hx hb C.2.2.2.1 (C.2.2.2.2.1 _ qw830) d_M_readsPart_58 ?_
        exact J61 _ _ _ _ _ _ _ h ls _ _ hG (lv_sub hl [1, 0, 2, 3] rfl)
      · replace h := it_t h hc
        refine lv_ldc2 (v := 4) hx hb C.2.2.2.1 (C.2.2.2.2.1 _ qw829) d_M_readsPart_52 ?_
        refine lv_goto (tgt := 61) hx hb d_M_readsPart_55 (by decide) ?_
        exact J61 _ _ _ _ _ _ _ h ls _ _ hG (lv_sub hl [1, 0, 2, 3] rfl)
    unfold M_readsPart_L15 at h
    refine lv_iload_n hx hb d_M_readsPart_15 rfl (lv_at hl 2 rfl) ?_
    refine lv_iconst (v := 4) hx hb d_M_readsPart_16 (by decide) ?_
    refine lv_icmp_ge (tgt := 126) hx hb d_M_readsPart_17 (by decide) (fun hc => ?_) (fun hc => ?_)
    · replace h := it_t h hc
      exact k2 _ _ _ (lp_exit h hr) ls _ _ hG (lv_sub hl [0] rfl)
    · replace h := it_f h hc
      refine lv_aload_n hx hb d_M_readsPart_20 rfl (lv_at hl 0 rfl) ?_
      obtain ⟨z1, hz1, h⟩ := bnd_some h
      refine g_goi hG (g_runV (As := []) (rest := []) C hG (c_M_here l w S hz1 _) (hG.lt (Nat.le_of_ble_eq_true rfl)) (ce49 w _) rfl vw_M_122 rfl rfl ⟨by decide, by decide⟩ rfl hl.1 rfl (Nat.le_of_ble_eq_true rfl) d_M_readsPart_21 ⟨Nat.zero_le _, Nat.zero_le _⟩) (fun H locs hG => ?_)
      refine lv_bipush (v := 48) hx hb d_M_readsPart_24 (by decide) ?_
      refine lv_isub hx hb d_M_readsPart_26 ?_
      refine lv_istore_n (lv' := [(3, .int (z1 - 48)), (0, .ref (gad w 49)), (1, .int x1), (2, .int x2)]) hx hb d_M_readsPart_27 rfl hl (by decide) rfl (fun ls hl => ?_)
      refine lv_iload_n hx hb d_M_readsPart_28 rfl (lv_at hl 3 rfl) ?_
      refine lv_iconst (v := 2) hx hb d_M_readsPart_29 (by decide) ?_
      refine lv_icmp_ge (tgt := 37) hx hb d_M_readsPart_30 (by decide) (fun hc => ?_) (fun hc => ?_)
      · replace h := it_t h hc
        refine lv_bipush (v := 10) hx hb d_M_readsPart_37 (by decide) ?_
        refine lv_iload_n hx hb d_M_readsPart_39 rfl (lv_at hl 2 rfl) ?_
        refine lv_imul hx hb d_M_readsPart_40 ?_
        refine lv_iload_n hx hb d_M_readsPart_41 rfl (lv_at hl 0 rfl) ?_
        refine lv_iadd hx hb d_M_readsPart_42 ?_
        exact J43 _ _ _ _ h ls _ _ hG (lv_sub hl [1, 3, 0] rfl)
      · replace h := it_f h hc
        refine lv_iconst (v := 0) hx hb d_M_readsPart_33 (by decide) ?_
        refine lv_goto (tgt := 43) hx hb d_M_readsPart_34 (by decide) ?_
        exact J43 _ _ _ _ h ls _ _ hG (lv_sub hl [1, 3, 0] rfl)
set_option maxHeartbeats 4000000 in
set_option maxRecDepth 100000 in
theorem c_M_readsPart (l : Launch) (w : gw) (S : St)   {z : Int32 × St} (h : (M_readsPart S) = some z) : gMi l w y_M_readsPart b_M_readsPart 4 (some .boolean) (rmm 1 25) [.ref (gad w 49)] S z.1 z.2 := by
  unfold M_readsPart at h
  refine g_met (Qc := gQi w z.1 z.2) (by decide +kernel) (Nat.le_of_ble_eq_true rfl) ?_
  intro p e s m args below meth c A Q ls hQ C hG hl
  have hx := C.1
  have hb := C.2.1
  have hl : lv_has ls 4 [(0, .ref (gad w 49))] := hl
  have J126 : ∀ (S : St), M_readsPart_J126 S = some z → ∀ (ls : Array Slot) (H : Heap) (locs : List Loc), GH w s A S H locs → lv_has ls 4 [(0, .ref (gad w 49))] → W p l e (rmm 1 25) s m args below meth c H locs 0 0 Q (F0 m 126 ls []) := by
    intro S h ls H locs hG hl
    unfold M_readsPart_J126 at h
    refine lv_aload_n hx hb d_M_readsPart_126 rfl (lv_at hl 0 rfl) ?_
    refine lv_dup hx hb d_M_readsPart_127 rfl ?_
    refine g_get C hG (hG.lt (Nat.le_of_ble_eq_true rfl)) (ce49 w _) rfl inC8 8 (Nat.le_of_ble_eq_true rfl) qw684 rfl d_M_readsPart_128 ?_
    refine lv_iconst (v := 1) hx hb d_M_readsPart_131 (by decide) ?_
    refine lv_iadd hx hb d_M_readsPart_132 ?_
    refine g_put (x := (S 49 8) + 1) C hG (hG.lt (Nat.le_of_ble_eq_true rfl)) (ce49 w _) rfl inC8 okC8 nmC8 8 (Nat.le_of_ble_eq_true rfl) qw684 rfl rfl rfl (Nat.le_of_ble_eq_true rfl) rfl d_M_readsPart_133 (fun H locs hG => ?_)
    refine lv_iconst (v := 1) hx hb d_M_readsPart_136 (by decide) ?_
    exact g_zret C hG (Or.inr rfl) (sm_fst h) (sm_snd h) hQ d_M_readsPart_137
  have J76 : ∀ (S : St), M_readsPart_J76 S = some z → ∀ (ls : Array Slot) (H : Heap) (locs : List Loc), GH w s A S H locs → lv_has ls 4 [] → W p l e (rmm 1 25) s m args below meth c H locs 0 0 Q (F0 m 76 ls []) := by
    intro S h ls H locs hG hl
    unfold M_readsPart_J76 at h
    refine lv_iconst (v := 0) hx hb d_M_readsPart_76 (by decide) ?_
    exact g_zret C hG (Or.inl rfl) (sm_fst h) (sm_snd h) hQ d_M_readsPart_77
  refine lv_aload_n hx hb d_M_readsPart_0 rfl (lv_at hl 0 rfl) ?_
  refine g_get C hG (hG.lt (Nat.le_of_ble_eq_true rfl)) (ce49 w _) rfl inC8 8 (Nat.le_of_ble_eq_true rfl) qw684 rfl d_M_readsPart_1 ?_
  refine lv_bipush (v := 20) hx hb d_M_readsPart_4 (by decide) ?_
  refine lv_icmp_ne (tgt := 11) hx hb d_M_readsPart_6 (by decide) (fun hc => ?_) (fun hc => ?_)
  · replace h := it_f h hc
    refine lv_iconst (v := 0) hx hb d_M_readsPart_11 (by decide) ?_
    refine lv_istore_n (lv' := [(1, .int 0), (0, .ref (gad w 49))]) hx hb d_M_readsPart_12 rfl hl (by decide) rfl (fun ls hl => ?_)
    refine lv_iconst (v := 0) hx hb d_M_readsPart_13 (by decide) ?_
    refine lv_istore_n (lv' := [(2, .int 0), (1, .int 0), (0, .ref (gad w 49))]) hx hb d_M_readsPart_14 rfl hl (by decide) rfl (fun ls hl => ?_)
    obtain ⟨z2, hz2, h⟩ := bnd_some h
    refine L_M_readsPart_15 C FZ _ _ _ _ hz2 ?_ ?_ ls _ _ hG (lv_sub hl [2, 1, 0] rfl)
    · intro y1 y2 Sy e9 ls H locs hG hl
      subst e9
      replace h := it_t h rfl
      exact J76 _ h ls _ _ hG (lv_sub hl [] rfl)
    · intro y1 y2 Sy e9 ls H locs hG hl
      subst e9
      replace h := it_f h (show ¬ (2 : Nat) = 1 by decide)
      exact J126 _ h ls _ _ hG (lv_sub hl [0] rfl)
  · replace h := it_t h hc
    refine lv_iconst (v := 0) hx hb d_M_readsPart_9 (by decide) ?_
    exact g_zret C hG (Or.inl rfl) (sm_fst h) (sm_snd h) hQ d_M_readsPart_10
theorem d_M_reads_0 : decode b_M_reads 0 = .ok (.aload_n 0, 1) := by decide +kernel
theorem d_M_reads_1 : decode b_M_reads 1 = .ok (.iconst 0, 1) := by decide +kernel
theorem d_M_reads_2 : decode b_M_reads 2 = .ok (.putfield 116, 3) := by decide +kernel
theorem d_M_reads_5 : decode b_M_reads 5 = .ok (.aload_n 0, 1) := by decide +kernel
theorem d_M_reads_6 : decode b_M_reads 6 = .ok (.iconst 0, 1) := by decide +kernel
theorem d_M_reads_7 : decode b_M_reads 7 = .ok (.putfield 119, 3) := by decide +kernel
theorem d_M_reads_10 : decode b_M_reads 10 = .ok (.aload_n 0, 1) := by decide +kernel
theorem d_M_reads_11 : decode b_M_reads 11 = .ok (.getfield 113, 3) := by decide +kernel
theorem d_M_reads_14 : decode b_M_reads 14 = .ok (.ifCond .le 7, 3) := by decide +kernel
theorem d_M_reads_17 : decode b_M_reads 17 = .ok (.iconst 1, 1) := by decide +kernel
theorem d_M_reads_18 : decode b_M_reads 18 = .ok (.goto 4, 3) := by decide +kernel
theorem d_M_reads_21 : decode b_M_reads 21 = .ok (.iconst 0, 1) := by decide +kernel
theorem d_M_reads_22 : decode b_M_reads 22 = .ok (.istore_n 1, 1) := by decide +kernel
theorem d_M_reads_23 : decode b_M_reads 23 = .ok (.iload_n 1, 1) := by decide +kernel
theorem d_M_reads_24 : decode b_M_reads 24 = .ok (.ifCond .eq 71, 3) := by decide +kernel
theorem d_M_reads_27 : decode b_M_reads 27 = .ok (.aload_n 0, 1) := by decide +kernel
theorem d_M_reads_28 : decode b_M_reads 28 = .ok (.invokevirtual 130, 3) := by decide +kernel
theorem d_M_reads_31 : decode b_M_reads 31 = .ok (.ifCond .ne 8, 3) := by decide +kernel
theorem d_M_reads_34 : decode b_M_reads 34 = .ok (.aload_n 0, 1) := by decide +kernel
theorem d_M_reads_35 : decode b_M_reads 35 = .ok (.invokevirtual 134, 3) := by decide +kernel
theorem d_M_reads_38 : decode b_M_reads 38 = .ok (.ireturn, 1) := by decide +kernel
theorem d_M_reads_39 : decode b_M_reads 39 = .ok (.aload_n 0, 1) := by decide +kernel
theorem d_M_reads_40 : decode b_M_reads 40 = .ok (.getfield 116, 3) := by decide +kernel
theorem d_M_reads_43 : decode b_M_reads 43 = .ok (.aload_n 0, 1) := by decide +kernel
theorem d_M_reads_44 : decode b_M_reads 44 = .ok (.getfield 113, 3) := by decide +kernel
theorem d_M_reads_47 : decode b_M_reads 47 = .ok (.if_icmp .ge 7, 3) := by decide +kernel
theorem d_M_reads_50 : decode b_M_reads 50 = .ok (.iconst 1, 1) := by decide +kernel
theorem d_M_reads_51 : decode b_M_reads 51 = .ok (.goto 4, 3) := by decide +kernel
theorem d_M_reads_54 : decode b_M_reads 54 = .ok (.iconst 0, 1) := by decide +kernel
theorem d_M_reads_55 : decode b_M_reads 55 = .ok (.istore_n 1, 1) := by decide +kernel
theorem d_M_reads_56 : decode b_M_reads 56 = .ok (.iload_n 1, 1) := by decide +kernel
theorem d_M_reads_57 : decode b_M_reads 57 = .ok (.ifCond .eq 17, 3) := by decide +kernel
theorem d_M_reads_60 : decode b_M_reads 60 = .ok (.aload_n 0, 1) := by decide +kernel
theorem d_M_reads_61 : decode b_M_reads 61 = .ok (.invokevirtual 122, 3) := by decide +kernel
theorem d_M_reads_64 : decode b_M_reads 64 = .ok (.bipush 59, 2) := by decide +kernel
theorem d_M_reads_66 : decode b_M_reads 66 = .ok (.if_icmp .eq 8, 3) := by decide +kernel
theorem d_M_reads_69 : decode b_M_reads 69 = .ok (.aload_n 0, 1) := by decide +kernel
theorem d_M_reads_70 : decode b_M_reads 70 = .ok (.invokevirtual 134, 3) := by decide +kernel
theorem d_M_reads_73 : decode b_M_reads 73 = .ok (.ireturn, 1) := by decide +kernel
theorem d_M_reads_74 : decode b_M_reads 74 = .ok (.aload_n 0, 1) := by decide +kernel
theorem d_M_reads_75 : decode b_M_reads 75 = .ok (.dup, 1) := by decide +kernel
theorem d_M_reads_76 : decode b_M_reads 76 = .ok (.getfield 116, 3) := by decide +kernel
theorem d_M_reads_79 : decode b_M_reads 79 = .ok (.iload_n 1, 1) := by decide +kernel
theorem d_M_reads_80 : decode b_M_reads 80 = .ok (.ifCond .eq 7, 3) := by decide +kernel
theorem d_M_reads_83 : decode b_M_reads 83 = .ok (.iconst 1, 1) := by decide +kernel
theorem d_M_reads_84 : decode b_M_reads 84 = .ok (.goto 4, 3) := by decide +kernel
theorem d_M_reads_87 : decode b_M_reads 87 = .ok (.iconst 0, 1) := by decide +kernel
theorem d_M_reads_88 : decode b_M_reads 88 = .ok (.iadd, 1) := by decide +kernel
theorem d_M_reads_89 : decode b_M_reads 89 = .ok (.putfield 116, 3) := by decide +kernel
theorem d_M_reads_92 : decode b_M_reads 92 = .ok (.goto (-69), 3) := by decide +kernel
theorem d_M_reads_95 : decode b_M_reads 95 = .ok (.iconst (-1), 1) := by decide +kernel
theorem d_M_reads_96 : decode b_M_reads 96 = .ok (.ireturn, 1) := by decide +kernel
noncomputable def M_reads_J74 (S : St) (x1 : Int32) : Option ((Int32 × St) × Nat) :=
  if x1 = 0 then
      some ((x1, up S 49 7 ((S 49 7) + 0)), 0)
    else
      some ((x1, up S 49 7 ((S 49 7) + 1)), 0)
noncomputable def M_reads_J55 (S : St) (t0 : Int32) : Option ((Int32 × St) × Nat) :=
  if t0 = 0 then
      M_reads_J74 S t0
    else
      bnd (M_here S) fun z1 =>
      if z1 = 59 then
        M_reads_J74 S t0
      else
        some ((t0, S), 2)
noncomputable def M_reads_L23 (S : St) (x1 : Int32) : Option ((Int32 × St) × Nat) :=
  if x1 = 0 then
      some ((x1, S), 3)
    else
      bnd (M_readsPart S) fun z2 =>
      if z2.1 = 0 then
        some ((x1, z2.2), 1)
      else
        if (z2.2 49 6) ≤ (z2.2 49 7) then
          M_reads_J55 z2.2 0
        else
          M_reads_J55 z2.2 1
noncomputable def M_reads_J95 (S : St) : Option (Int32 × St) :=
  some ((-1), S)
noncomputable def M_reads_J69 (S : St) : Option (Int32 × St) :=
  bnd (M_none S) fun z3 =>
    some (z3.1, z3.2)
noncomputable def M_reads_J34 (S : St) : Option (Int32 × St) :=
  bnd (M_none S) fun z4 =>
    some (z4.1, z4.2)
noncomputable def M_reads_J22 (S : St) (t0 : Int32) : Option (Int32 × St) :=
  bnd (lp (σ := Int32 × St) (fun q => M_reads_L23 q.2 q.1) FZ (t0, S)) fun z5 =>
    if z5.2 = 1 then
      M_reads_J34 z5.1.2
    else if z5.2 = 2 then
      M_reads_J69 z5.1.2
    else M_reads_J95 z5.1.2
noncomputable def M_reads (S : St) : Option (Int32 × St) :=
  if ((up (up S 49 7 0) 49 8 0) 49 6) ≤ 0 then
      M_reads_J22 (up (up S 49 7 0) 49 8 0) 0
    else
      M_reads_J22 (up (up S 49 7 0) 49 8 0) 1
set_option maxHeartbeats 4000000 in
set_option maxRecDepth 100000 in
theorem L_M_reads_23 (C : gCx p s m args meth c y_M_reads.cls b_M_reads 2 (some .int)) : ∀ (n : Nat) (x1 : Int32) (S : St) (r : (Int32 × St) × Nat), lp (σ := Int32 × St) (fun q => M_reads_L23 q.2 q.1) n (x1, S) = some r → (∀ (y1 : Int32) (Sy : St), r = ((y1, Sy), 1) → ∀ (ls : Array Slot) (H : Heap) (locs : List Loc), GH w s A Sy H locs → lv_has ls 2 [(0, .ref (gad w 49))] → W p l e (rmm 2 48) s m args below meth c H locs 0 0 Q (F0 m 34 ls [])) → (∀ (y1 : Int32) (Sy : St), r = ((y1, Sy), 2) → ∀ (ls : Array Slot) (H : Heap) (locs : List Loc), GH w s A Sy H locs → lv_has ls 2 [(0, .ref (gad w 49))] → W p l e (rmm 2 48) s m args below meth c H locs 0 0 Q (F0 m 69 ls [])) → (∀ (y1 : Int32) (Sy : St), r = ((y1, Sy), 3) → ∀ (ls : Array Slot) (H : Heap) (locs : List Loc), GH w s A Sy H locs → lv_has ls 2 [] → W p l e (rmm 2 48) s m args below meth c H locs 0 0 Q (F0 m 95 ls [])) → ∀ (ls : Array Slot) (H : Heap) (locs : List Loc), GH w s A S H locs → lv_has ls 2 [(0, .ref (gad w 49)), (1, .int x1)] → W p l e (rmm 2 48) s m args below meth c H locs 0 0 Q (F0 m 23 ls []) := by
  have hx := C.1
  have hb := C.2.1
  intro n
  induction n with
  | zero => intro x1 S r h; cases h
  | succ n ih =>
    intro x1 S r h k1 k2 k3 ls H locs hG hl
    obtain ⟨z, h, hr⟩ := lp_succ h
    have h : M_reads_L23 S x1 = some z := h
    have J74 : ∀ (S : St) (x1 : Int32), M_reads_J74 S x1 = some z → ∀ (ls : Array Slot) (H : Heap) (locs : List Loc), GH w s A S H locs → lv_has ls 2 [(0, .ref (gad w 49)), (1, .int x1)] → W p l e (rmm 2 48) s m args below meth c H locs 0 0 Q (F0 m 74 ls []) := by
      intro S x1 h ls H locs hG hl
      unfold M_reads_J74 at h
      refine lv_aload_n hx hb d_M_reads_74 rfl (lv_at hl 0 rfl) ?_
      refine lv_dup hx hb d_M_reads_75 rfl ?_
      refine g_get C hG (hG.lt (Nat.le_of_ble_eq_true rfl)) (ce49 w _) rfl inC8 7 (Nat.le_of_ble_eq_true rfl) qw683 rfl d_M_reads_76 ?_
      refine lv_iload_n hx hb d_M_reads_79 rfl (lv_at hl 1 rfl) ?_
      refine lv_if_eq (tgt := 87) hx hb d_M_reads_80 (by decide) (fun hc => ?_) (fun hc => ?_)
      · replace h := it_t h hc
        refine lv_iconst (v := 0) hx hb d_M_reads_87 (by decide) ?_
        refine lv_iadd hx hb d_M_reads_88 ?_
        refine g_put (x := (S 49 7) + 0) C hG (hG.lt (Nat.le_of_ble_eq_true rfl)) (ce49 w _) rfl inC8 okC8 nmC8 7 (Nat.le_of_ble_eq_true rfl) qw683 rfl rfl rfl (Nat.le_of_ble_eq_true rfl) rfl d_M_reads_89 (fun H locs hG => ?_)
        refine lv_goto (tgt := 23) hx hb d_M_reads_92 (by decide) ?_
        exact ih _ _ _ (lp_back h hr) k1 k2 k3 ls _ _ hG (lv_sub hl [0, 1] rfl)
      · replace h := it_f h hc
        refine lv_iconst (v := 1) hx hb d_M_reads_83 (by decide) ?_
        refine lv_goto (tgt := 88) hx hb d_M_reads_84 (by decide) ?_
        refine lv_iadd hx hb d_M_reads_88 ?_
        refine g_put (x := (S 49 7) + 1) C hG (hG.lt (Nat.le_of_ble_eq_true rfl)) (ce49 w _) rfl inC8 okC8 nmC8 7 (Nat.le_of_ble_eq_true rfl) qw683 rfl rfl rfl (Nat.le_of_ble_eq_true rfl) rfl d_M_reads_89 (fun H locs hG => ?_)
        refine lv_goto (tgt := 23) hx hb d_M_reads_92 (by decide) ?_
        exact ih _ _ _ (lp_back h hr) k1 k2 k3 ls _ _ hG (lv_sub hl [0, 1] rfl)
    have J55 : ∀ (S : St) (t0 : Int32), M_reads_J55 S t0 = some z → ∀ (ls : Array Slot) (H : Heap) (locs : List Loc), GH w s A S H locs → lv_has ls 2 [(0, .ref (gad w 49))] → W p l e (rmm 2 48) s m args below meth c H locs 0 0 Q (F0 m 55 ls [.int t0]) := by
      intro S t0 h ls H locs hG hl
      unfold M_reads_J55 at h
      refine lv_istore_n (lv' := [(1, .int t0), (0, .ref (gad w 49))]) hx hb d_M_reads_55 rfl hl (by decide) rfl (fun ls hl => ?_)
      refine lv_iload_n hx hb d_M_reads_56 rfl (lv_at hl 0 rfl) ?_
      refine lv_if_eq (tgt := 74) hx hb d_M_reads_57 (by decide) (fun hc => ?_) (fun hc => ?_)
      · replace h := it_t h hc
        exact J74 _ _ h ls _ _ hG (lv_sub hl [1, 0] rfl)
      · replace h := it_f h hc
        refine lv_aload_n hx hb d_M_reads_60 rfl (lv_at hl 1 rfl) ?_
        obtain ⟨z1, hz1, h⟩ := bnd_some h
        refine g_goi hG (g_runV (As := []) (rest := []) C hG (c_M_here l w S hz1 _) (hG.lt (Nat.le_of_ble_eq_true rfl)) (ce49 w _) rfl vw_M_122 rfl rfl ⟨by decide, by decide⟩ rfl hl.1 rfl (Nat.le_of_ble_eq_true rfl) d_M_reads_61 ⟨Nat.zero_le _, Nat.zero_le _⟩) (fun H locs hG => ?_)
        refine lv_bipush (v := 59) hx hb d_M_reads_64 (by decide) ?_
        refine lv_icmp_eq (tgt := 74) hx hb d_M_reads_66 (by decide) (fun hc => ?_) (fun hc => ?_)
        · replace h := it_t h hc
          exact J74 _ _ h ls _ _ hG (lv_sub hl [1, 0] rfl)
        · replace h := it_f h hc
          exact k2 _ _ (lp_exit h hr) ls _ _ hG (lv_sub hl [1] rfl)
    unfold M_reads_L23 at h
    refine lv_iload_n hx hb d_M_reads_23 rfl (lv_at hl 1 rfl) ?_
    refine lv_if_eq (tgt := 95) hx hb d_M_reads_24 (by decide) (fun hc => ?_) (fun hc => ?_)
    · replace h := it_t h hc
      exact k3 _ _ (lp_exit h hr) ls _ _ hG (lv_sub hl [] rfl)
    · replace h := it_f h hc
      refine lv_aload_n hx hb d_M_reads_27 rfl (lv_at hl 0 rfl) ?_
      obtain ⟨z2, hz2, h⟩ := bnd_some h
      refine g_goi hG (g_runV (As := []) (rest := []) C hG (c_M_readsPart l w S hz2 _) (hG.lt (Nat.le_of_ble_eq_true rfl)) (ce49 w _) rfl vw_M_130 rfl rfl ⟨by decide, by decide⟩ rfl hl.1 rfl (Nat.le_of_ble_eq_true rfl) d_M_reads_28 ⟨Nat.zero_le _, Nat.zero_le _⟩) (fun H locs hG => ?_)
      refine lv_if_ne (tgt := 39) hx hb d_M_reads_31 (by decide) (fun hc => ?_) (fun hc => ?_)
      · replace h := it_f h hc
        refine lv_aload_n hx hb d_M_reads_39 rfl (lv_at hl 0 rfl) ?_
        refine g_get C hG (hG.lt (Nat.le_of_ble_eq_true rfl)) (ce49 w _) rfl inC8 7 (Nat.le_of_ble_eq_true rfl) qw683 rfl d_M_reads_40 ?_
        refine lv_aload_n hx hb d_M_reads_43 rfl (lv_at hl 0 rfl) ?_
        refine g_get C hG (hG.lt (Nat.le_of_ble_eq_true rfl)) (ce49 w _) rfl inC8 6 (Nat.le_of_ble_eq_true rfl) qw682 rfl d_M_reads_44 ?_
        refine lv_icmp_ge (tgt := 54) hx hb d_M_reads_47 (by decide) (fun hc => ?_) (fun hc => ?_)
        · replace h := it_t h hc
          refine lv_iconst (v := 0) hx hb d_M_reads_54 (by decide) ?_
          exact J55 _ _ h ls _ _ hG (lv_sub hl [0] rfl)
        · replace h := it_f h hc
          refine lv_iconst (v := 1) hx hb d_M_reads_50 (by decide) ?_
          refine lv_goto (tgt := 55) hx hb d_M_reads_51 (by decide) ?_
          exact J55 _ _ h ls _ _ hG (lv_sub hl [0] rfl)
      · replace h := it_t h hc
        exact k1 _ _ (lp_exit h hr) ls _ _ hG (lv_sub hl [0] rfl)
set_option maxHeartbeats 4000000 in
set_option maxRecDepth 100000 in
theorem c_M_reads (l : Launch) (w : gw) (S : St)   {z : Int32 × St} (h : (M_reads S) = some z) : gMi l w y_M_reads b_M_reads 2 (some .int) (rmm 2 48) [.ref (gad w 49)] S z.1 z.2 := by
  unfold M_reads at h
  refine g_met (Qc := gQi w z.1 z.2) (by decide +kernel) (Nat.le_of_ble_eq_true rfl) ?_
  intro p e s m args below meth c A Q ls hQ C hG hl
  have hx := C.1
  have hb := C.2.1
  have hl : lv_has ls 2 [(0, .ref (gad w 49))] := hl
  have J95 : ∀ (S : St), M_reads_J95 S = some z → ∀ (ls : Array Slot) (H : Heap) (locs : List Loc), GH w s A S H locs → lv_has ls 2 [] → W p l e (rmm 2 48) s m args below meth c H locs 0 0 Q (F0 m 95 ls []) := by
    intro S h ls H locs hG hl
    unfold M_reads_J95 at h
    refine lv_iconst (v := (-1)) hx hb d_M_reads_95 (by decide) ?_
    exact g_iret C hG (sm_fst h) (sm_snd h) hQ d_M_reads_96
  have J69 : ∀ (S : St), M_reads_J69 S = some z → ∀ (ls : Array Slot) (H : Heap) (locs : List Loc), GH w s A S H locs → lv_has ls 2 [(0, .ref (gad w 49))] → W p l e (rmm 2 48) s m args below meth c H locs 0 0 Q (F0 m 69 ls []) := by
    intro S h ls H locs hG hl
    unfold M_reads_J69 at h
    refine lv_aload_n hx hb d_M_reads_69 rfl (lv_at hl 0 rfl) ?_
    obtain ⟨z3, hz3, h⟩ := bnd_some h
    refine g_goi hG (g_runV (As := []) (rest := []) C hG (c_M_none l w S hz3 _) (hG.lt (Nat.le_of_ble_eq_true rfl)) (ce49 w _) rfl vw_M_134 rfl rfl ⟨by decide, by decide⟩ rfl hl.1 rfl (Nat.le_of_ble_eq_true rfl) d_M_reads_70 ⟨Nat.zero_le _, Nat.zero_le _⟩) (fun H locs hG => ?_)
    exact g_iret C hG (sm_fst h) (sm_snd h) hQ d_M_reads_73
  have J34 : ∀ (S : St), M_reads_J34 S = some z → ∀ (ls : Array Slot) (H : Heap) (locs : List Loc), GH w s A S H locs → lv_has ls 2 [(0, .ref (gad w 49))] → W p l e (rmm 2 48) s m args below meth c H locs 0 0 Q (F0 m 34 ls []) := by
    intro S h ls H locs hG hl
    unfold M_reads_J34 at h
    refine lv_aload_n hx hb d_M_reads_34 rfl (lv_at hl 0 rfl) ?_
    obtain ⟨z4, hz4, h⟩ := bnd_some h
    refine g_goi hG (g_runV (As := []) (rest := []) C hG (c_M_none l w S hz4 _) (hG.lt (Nat.le_of_ble_eq_true rfl)) (ce49 w _) rfl vw_M_134 rfl rfl ⟨by decide, by decide⟩ rfl hl.1 rfl (Nat.le_of_ble_eq_true rfl) d_M_reads_35 ⟨Nat.zero_le _, Nat.zero_le _⟩) (fun H locs hG => ?_)
    exact g_iret C hG (sm_fst h) (sm_snd h) hQ d_M_reads_38
  have J22 : ∀ (S : St) (t0 : Int32), M_reads_J22 S t0 = some z → ∀ (ls : Array Slot) (H : Heap) (locs : List Loc), GH w s A S H locs → lv_has ls 2 [(0, .ref (gad w 49))] → W p l e (rmm 2 48) s m args below meth c H locs 0 0 Q (F0 m 22 ls [.int t0]) := by
    intro S t0 h ls H locs hG hl
    unfold M_reads_J22 at h
    refine lv_istore_n (lv' := [(1, .int t0), (0, .ref (gad w 49))]) hx hb d_M_reads_22 rfl hl (by decide) rfl (fun ls hl => ?_)
    obtain ⟨z5, hz5, h⟩ := bnd_some h
    refine L_M_reads_23 C FZ _ _ _ hz5 ?_ ?_ ?_ ls _ _ hG (lv_sub hl [1, 0] rfl)
    · intro y1 Sy e9 ls H locs hG hl
      subst e9
      replace h := it_t h rfl
      exact J34 _ h ls _ _ hG (lv_sub hl [0] rfl)
    · intro y1 Sy e9 ls H locs hG hl
      subst e9
      replace h := it_f h (show ¬ (2 : Nat) = 1 by decide)
      replace h := it_t h rfl
      exact J69 _ h ls _ _ hG (lv_sub hl [0] rfl)
    · intro y1 Sy e9 ls H locs hG hl
      subst e9
      replace h := it_f h (show ¬ (3 : Nat) = 1 by decide)
      replace h := it_f h (show ¬ (3 : Nat) = 2 by decide)
      exact J95 _ h ls _ _ hG (lv_sub hl [] rfl)
  refine lv_aload_n hx hb d_M_reads_0 rfl (lv_at hl 0 rfl) ?_
  refine lv_iconst (v := 0) hx hb d_M_reads_1 (by decide) ?_
  refine g_put (x := 0) C hG (hG.lt (Nat.le_of_ble_eq_true rfl)) (ce49 w _) rfl inC8 okC8 nmC8 7 (Nat.le_of_ble_eq_true rfl) qw683 rfl rfl rfl (Nat.le_of_ble_eq_true rfl) rfl d_M_reads_2 (fun H locs hG => ?_)
  refine lv_aload_n hx hb d_M_reads_5 rfl (lv_at hl 0 rfl) ?_
  refine lv_iconst (v := 0) hx hb d_M_reads_6 (by decide) ?_
  refine g_put (x := 0) C hG (hG.lt (Nat.le_of_ble_eq_true rfl)) (ce49 w _) rfl inC8 okC8 nmC8 8 (Nat.le_of_ble_eq_true rfl) qw684 rfl rfl rfl (Nat.le_of_ble_eq_true rfl) rfl d_M_reads_7 (fun H locs hG => ?_)
  refine lv_aload_n hx hb d_M_reads_10 rfl (lv_at hl 0 rfl) ?_
  refine g_get C hG (hG.lt (Nat.le_of_ble_eq_true rfl)) (ce49 w _) rfl inC8 6 (Nat.le_of_ble_eq_true rfl) qw682 rfl d_M_reads_11 ?_
  refine lv_if_le (tgt := 21) hx hb d_M_reads_14 (by decide) (fun hc => ?_) (fun hc => ?_)
  · replace h := it_t h hc
    refine lv_iconst (v := 0) hx hb d_M_reads_21 (by decide) ?_
    exact J22 _ _ h ls _ _ hG (lv_sub hl [0] rfl)
  · replace h := it_f h hc
    refine lv_iconst (v := 1) hx hb d_M_reads_17 (by decide) ?_
    refine lv_goto (tgt := 22) hx hb d_M_reads_18 (by decide) ?_
    exact J22 _ _ h ls _ _ hG (lv_sub hl [0] rfl)
theorem d_M_fault_0 : decode b_M_fault 0 = .ok (.aload_n 0, 1) := by decide +kernel
theorem d_M_fault_1 : decode b_M_fault 1 = .ok (.invokevirtual 137, 3) := by decide +kernel
theorem d_M_fault_4 : decode b_M_fault 4 = .ok (.ireturn, 1) := by decide +kernel
noncomputable def M_fault (S : St) : Option (Int32 × St) :=
  bnd (M_reads S) fun z1 =>
    some (z1.1, z1.2)
set_option maxHeartbeats 4000000 in
set_option maxRecDepth 100000 in
theorem c_M_fault (l : Launch) (w : gw) (S : St)   {z : Int32 × St} (h : (M_fault S) = some z) : gMi l w y_M_fault b_M_fault 1 (some .int) (rmm 3 69) [.ref (gad w 49)] S z.1 z.2 := by
  unfold M_fault at h
  refine g_met (Qc := gQi w z.1 z.2) (by decide +kernel) (Nat.le_of_ble_eq_true rfl) ?_
  intro p e s m args below meth c A Q ls hQ C hG hl
  have hx := C.1
  have hb := C.2.1
  have hl : lv_has ls 1 [(0, .ref (gad w 49))] := hl
  refine lv_aload_n hx hb d_M_fault_0 rfl (lv_at hl 0 rfl) ?_
  obtain ⟨z1, hz1, h⟩ := bnd_some h
  refine g_goi hG (g_runV (As := []) (rest := []) C hG (c_M_reads l w S hz1 _) (hG.lt (Nat.le_of_ble_eq_true rfl)) (ce49 w _) rfl vw_M_137 rfl rfl ⟨by decide, by decide⟩ rfl hl.1 rfl (Nat.le_of_ble_eq_true rfl) d_M_fault_1 ⟨Nat.zero_le _, Nat.zero_le _⟩) (fun H locs hG => ?_)
  exact g_iret C hG (sm_fst h) (sm_snd h) hQ d_M_fault_4
theorem d_M_undo_0 : decode b_M_undo 0 = .ok (.aload_n 0, 1) := by decide +kernel
theorem d_M_undo_1 : decode b_M_undo 1 = .ok (.invokevirtual 137, 3) := by decide +kernel
theorem d_M_undo_4 : decode b_M_undo 4 = .ok (.pop, 1) := by decide +kernel
theorem d_M_undo_5 : decode b_M_undo 5 = .ok (.aload_n 0, 1) := by decide +kernel
theorem d_M_undo_6 : decode b_M_undo 6 = .ok (.getfield 119, 3) := by decide +kernel
theorem d_M_undo_9 : decode b_M_undo 9 = .ok (.ifCond .ne 6, 3) := by decide +kernel
theorem d_M_undo_12 : decode b_M_undo 12 = .ok (.bipush (-3), 2) := by decide +kernel
theorem d_M_undo_14 : decode b_M_undo 14 = .ok (.ireturn, 1) := by decide +kernel
theorem d_M_undo_15 : decode b_M_undo 15 = .ok (.aload_n 0, 1) := by decide +kernel
theorem d_M_undo_16 : decode b_M_undo 16 = .ok (.dup, 1) := by decide +kernel
theorem d_M_undo_17 : decode b_M_undo 17 = .ok (.getfield 113, 3) := by decide +kernel
theorem d_M_undo_20 : decode b_M_undo 20 = .ok (.aload_n 0, 1) := by decide +kernel
theorem d_M_undo_21 : decode b_M_undo 21 = .ok (.getfield 119, 3) := by decide +kernel
theorem d_M_undo_24 : decode b_M_undo 24 = .ok (.iconst 1, 1) := by decide +kernel
theorem d_M_undo_25 : decode b_M_undo 25 = .ok (.if_icmp .ne 7, 3) := by decide +kernel
theorem d_M_undo_28 : decode b_M_undo 28 = .ok (.iconst 4, 1) := by decide +kernel
theorem d_M_undo_29 : decode b_M_undo 29 = .ok (.goto 4, 3) := by decide +kernel
theorem d_M_undo_32 : decode b_M_undo 32 = .ok (.iconst 5, 1) := by decide +kernel
theorem d_M_undo_33 : decode b_M_undo 33 = .ok (.isub, 1) := by decide +kernel
theorem d_M_undo_34 : decode b_M_undo 34 = .ok (.putfield 113, 3) := by decide +kernel
theorem d_M_undo_37 : decode b_M_undo 37 = .ok (.aload_n 0, 1) := by decide +kernel
theorem d_M_undo_38 : decode b_M_undo 38 = .ok (.getfield 119, 3) := by decide +kernel
theorem d_M_undo_41 : decode b_M_undo 41 = .ok (.iconst 1, 1) := by decide +kernel
theorem d_M_undo_42 : decode b_M_undo 42 = .ok (.isub, 1) := by decide +kernel
theorem d_M_undo_43 : decode b_M_undo 43 = .ok (.ireturn, 1) := by decide +kernel
noncomputable def M_undo_J33 (S : St) (t1 : Int32) (t2 : Int32) : Option (Int32 × St) :=
  some (((up S 49 6 (t1 - t2)) 49 8) - 1, up S 49 6 (t1 - t2))
noncomputable def M_undo (S : St) : Option (Int32 × St) :=
  bnd (M_reads S) fun z1 =>
    if (z1.2 49 8) = 0 then
      some ((-3), z1.2)
    else
      if (z1.2 49 8) = 1 then
        M_undo_J33 z1.2 (z1.2 49 6) 4
      else
        M_undo_J33 z1.2 (z1.2 49 6) 5
set_option maxHeartbeats 4000000 in
set_option maxRecDepth 100000 in
theorem c_M_undo (l : Launch) (w : gw) (S : St)   {z : Int32 × St} (h : (M_undo S) = some z) : gMi l w y_M_undo b_M_undo 1 (some .int) (rmm 3 69) [.ref (gad w 49)] S z.1 z.2 := by
  unfold M_undo at h
  refine g_met (Qc := gQi w z.1 z.2) (by decide +kernel) (Nat.le_of_ble_eq_true rfl) ?_
  intro p e s m args below meth c A Q ls hQ C hG hl
  have hx := C.1
  have hb := C.2.1
  have hl : lv_has ls 1 [(0, .ref (gad w 49))] := hl
  have J33 : ∀ (S : St) (t1 : Int32) (t2 : Int32), M_undo_J33 S t1 t2 = some z → ∀ (ls : Array Slot) (H : Heap) (locs : List Loc), GH w s A S H locs → lv_has ls 1 [(0, .ref (gad w 49))] → W p l e (rmm 3 69) s m args below meth c H locs 0 0 Q (F0 m 33 ls [.int t2, .int t1, .ref (gad w 49)]) := by
    intro S t1 t2 h ls H locs hG hl
    unfold M_undo_J33 at h
    refine lv_isub hx hb d_M_undo_33 ?_
    refine g_put (x := t1 - t2) C hG (hG.lt (Nat.le_of_ble_eq_true rfl)) (ce49 w _) rfl inC8 okC8 nmC8 6 (Nat.le_of_ble_eq_true rfl) qw682 rfl rfl rfl (Nat.le_of_ble_eq_true rfl) rfl d_M_undo_34 (fun H locs hG => ?_)
    refine lv_aload_n hx hb d_M_undo_37 rfl (lv_at hl 0 rfl) ?_
    refine g_get C hG (hG.lt (Nat.le_of_ble_eq_true rfl)) (ce49 w _) rfl inC8 8 (Nat.le_of_ble_eq_true rfl) qw684 rfl d_M_undo_38 ?_
    refine lv_iconst (v := 1) hx hb d_M_undo_41 (by decide) ?_
    refine lv_isub hx hb d_M_undo_42 ?_
    exact g_iret C hG (sm_fst h) (sm_snd h) hQ d_M_undo_43
  refine lv_aload_n hx hb d_M_undo_0 rfl (lv_at hl 0 rfl) ?_
  obtain ⟨z1, hz1, h⟩ := bnd_some h
  refine g_goi hG (g_runV (As := []) (rest := []) C hG (c_M_reads l w S hz1 _) (hG.lt (Nat.le_of_ble_eq_true rfl)) (ce49 w _) rfl vw_M_137 rfl rfl ⟨by decide, by decide⟩ rfl hl.1 rfl (Nat.le_of_ble_eq_true rfl) d_M_undo_1 ⟨Nat.zero_le _, Nat.zero_le _⟩) (fun H locs hG => ?_)
  refine lv_pop hx hb d_M_undo_4 rfl ?_
  refine lv_aload_n hx hb d_M_undo_5 rfl (lv_at hl 0 rfl) ?_
  refine g_get C hG (hG.lt (Nat.le_of_ble_eq_true rfl)) (ce49 w _) rfl inC8 8 (Nat.le_of_ble_eq_true rfl) qw684 rfl d_M_undo_6 ?_
  refine lv_if_ne (tgt := 15) hx hb d_M_undo_9 (by decide) (fun hc => ?_) (fun hc => ?_)
  · replace h := it_f h hc
    refine lv_aload_n hx hb d_M_undo_15 rfl (lv_at hl 0 rfl) ?_
    refine lv_dup hx hb d_M_undo_16 rfl ?_
    refine g_get C hG (hG.lt (Nat.le_of_ble_eq_true rfl)) (ce49 w _) rfl inC8 6 (Nat.le_of_ble_eq_true rfl) qw682 rfl d_M_undo_17 ?_
    refine lv_aload_n hx hb d_M_undo_20 rfl (lv_at hl 0 rfl) ?_
    refine g_get C hG (hG.lt (Nat.le_of_ble_eq_true rfl)) (ce49 w _) rfl inC8 8 (Nat.le_of_ble_eq_true rfl) qw684 rfl d_M_undo_21 ?_
    refine lv_iconst (v := 1) hx hb d_M_undo_24 (by decide) ?_
    refine lv_icmp_ne (tgt := 32) hx hb d_M_undo_25 (by decide) (fun hc => ?_) (fun hc => ?_)
    · replace h := it_f h hc
      refine lv_iconst (v := 5) hx hb d_M_undo_32 (by decide) ?_
      exact J33 _ _ _ h ls _ _ hG (lv_sub hl [0] rfl)
    · replace h := it_t h hc
      refine lv_iconst (v := 4) hx hb d_M_undo_28 (by decide) ?_
      refine lv_goto (tgt := 33) hx hb d_M_undo_29 (by decide) ?_
      exact J33 _ _ _ h ls _ _ hG (lv_sub hl [0] rfl)
  · replace h := it_t h hc
    refine lv_bipush (v := (-3)) hx hb d_M_undo_12 (by decide) ?_
    exact g_iret C hG (sm_fst h) (sm_snd h) hQ d_M_undo_14
theorem d_M_isBidder_0 : decode b_M_isBidder 0 = .ok (.iload_n 0, 1) := by decide +kernel
theorem d_M_isBidder_1 : decode b_M_isBidder 1 = .ok (.i2l, 1) := by decide +kernel
theorem d_M_isBidder_2 : decode b_M_isBidder 2 = .ok (.lconst 0, 1) := by decide +kernel
theorem d_M_isBidder_3 : decode b_M_isBidder 3 = .ok (.ldc2_w 126, 3) := by decide +kernel
theorem d_M_isBidder_6 : decode b_M_isBidder 6 = .ok (.invokestatic 82, 3) := by decide +kernel
theorem d_M_isBidder_9 : decode b_M_isBidder 9 = .ok (.ireturn, 1) := by decide +kernel
noncomputable def M_isBidder (x0 : Int32) : Int32 :=
  M_in x0.toInt64 0 4
set_option maxHeartbeats 4000000 in
set_option maxRecDepth 100000 in
theorem c_M_isBidder (l : Launch) (w : gw) (S : St) (x0 : Int32)   : gMi l w y_M_isBidder b_M_isBidder 1 (some .boolean) (rmm 1 25) [.int x0] S (M_isBidder x0) S := by
  generalize h : M_isBidder x0 = z
  unfold M_isBidder at h
  refine g_met (Qc := gQi w z S) (by decide +kernel) (Nat.le_of_ble_eq_true rfl) ?_
  intro p e s m args below meth c A Q ls hQ C hG hl
  have hx := C.1
  have hb := C.2.1
  have hl : lv_has ls 1 [(0, .int x0)] := hl
  refine lv_iload_n hx hb d_M_isBidder_0 rfl (lv_at hl 0 rfl) ?_
  refine lv_i2l (v := x0.toInt64) hx hb d_M_isBidder_1 rfl ?_
  refine lv_lconst (v := 0) hx hb d_M_isBidder_2 (by decide) ?_
  refine lv_ldc2 (v := 4) hx hb C.2.2.2.1 (C.2.2.2.2.1 _ qw829) d_M_isBidder_3 ?_
  refine g_goi hG (g_runS (As := [.long x0.toInt64, .long 0, .long 4]) (rest := []) C hG (c_M_in l w S x0.toInt64 0 4 _) sw_M_82 rfl rfl ⟨by decide, by decide⟩ rfl hl.1 rfl (Nat.le_of_ble_eq_true rfl) d_M_isBidder_6 ⟨Nat.zero_le _, Nat.zero_le _⟩) (fun H locs hG => ?_)
  exact g_zret C hG (bz_M_in x0.toInt64 0 4) h rfl hQ d_M_isBidder_9
theorem bz_M_isBidder (x0 : Int32) : M_isBidder x0 = 0 ∨ M_isBidder x0 = 1 := by
  unfold M_isBidder
  repeat' split
  all_goals first | exact Or.inl rfl | exact Or.inr rfl | exact bz_M_in _ _ _ | exact bz_M_in _
theorem d_M_isEvening_0 : decode b_M_isEvening 0 = .ok (.iload_n 0, 1) := by decide +kernel
theorem d_M_isEvening_1 : decode b_M_isEvening 1 = .ok (.i2l, 1) := by decide +kernel
theorem d_M_isEvening_2 : decode b_M_isEvening 2 = .ok (.lconst 0, 1) := by decide +kernel
theorem d_M_isEvening_3 : decode b_M_isEvening 3 = .ok (.ldc2_w 128, 3) := by decide +kernel
theorem d_M_isEvening_6 : decode b_M_isEvening 6 = .ok (.invokestatic 82, 3) := by decide +kernel
theorem d_M_isEvening_9 : decode b_M_isEvening 9 = .ok (.ireturn, 1) := by decide +kernel
noncomputable def M_isEvening (x0 : Int32) : Int32 :=
  M_in x0.toInt64 0 9
set_option maxHeartbeats 4000000 in
set_option maxRecDepth 100000 in
theorem c_M_isEvening (l : Launch) (w : gw) (S : St) (x0 : Int32)   : gMi l w y_M_isEvening b_M_isEvening 1 (some .boolean) (rmm 1 25) [.int x0] S (M_isEvening x0) S := by
  generalize h : M_isEvening x0 = z
  unfold M_isEvening at h
  refine g_met (Qc := gQi w z S) (by decide +kernel) (Nat.le_of_ble_eq_true rfl) ?_
  intro p e s m args below meth c A Q ls hQ C hG hl
  have hx := C.1
  have hb := C.2.1
  have hl : lv_has ls 1 [(0, .int x0)] := hl
  refine lv_iload_n hx hb d_M_isEvening_0 rfl (lv_at hl 0 rfl) ?_
  refine lv_i2l (v := x0.toInt64) hx hb d_M_isEvening_1 rfl ?_
  refine lv_lconst (v := 0) hx hb d_M_isEvening_2 (by decide) ?_
  refine lv_ldc2 (v := 9) hx hb C.2.2.2.1 (C.2.2.2.2.1 _ qw830) d_M_isEvening_3 ?_
  refine g_goi hG (g_runS (As := [.long x0.toInt64, .long 0, .long 9]) (rest := []) C hG (c_M_in l w S x0.toInt64 0 9 _) sw_M_82 rfl rfl ⟨by decide, by decide⟩ rfl hl.1 rfl (Nat.le_of_ble_eq_true rfl) d_M_isEvening_6 ⟨Nat.zero_le _, Nat.zero_le _⟩) (fun H locs hG => ?_)
  exact g_zret C hG (bz_M_in x0.toInt64 0 9) h rfl hQ d_M_isEvening_9
theorem bz_M_isEvening (x0 : Int32) : M_isEvening x0 = 0 ∨ M_isEvening x0 = 1 := by
  unfold M_isEvening
  repeat' split
  all_goals first | exact Or.inl rfl | exact Or.inr rfl | exact bz_M_in _ _ _ | exact bz_M_in _
theorem d_M_tells_0 : decode b_M_tells 0 = .ok (.aload_n 0, 1) := by decide +kernel
theorem d_M_tells_1 : decode b_M_tells 1 = .ok (.iload_n 1, 1) := by decide +kernel
theorem d_M_tells_2 : decode b_M_tells 2 = .ok (.iaload, 1) := by decide +kernel
theorem d_M_tells_3 : decode b_M_tells 3 = .ok (.istore_n 3, 1) := by decide +kernel
theorem d_M_tells_4 : decode b_M_tells 4 = .ok (.aload_n 0, 1) := by decide +kernel
theorem d_M_tells_5 : decode b_M_tells 5 = .ok (.iload_n 1, 1) := by decide +kernel
theorem d_M_tells_6 : decode b_M_tells 6 = .ok (.iload_n 2, 1) := by decide +kernel
theorem d_M_tells_7 : decode b_M_tells 7 = .ok (.iastore, 1) := by decide +kernel
theorem d_M_tells_8 : decode b_M_tells 8 = .ok (.iload_n 3, 1) := by decide +kernel
theorem d_M_tells_9 : decode b_M_tells 9 = .ok (.ireturn, 1) := by decide +kernel
noncomputable def M_tells (S : St) (k0 : Nat) (n0 : Nat) (x1 : Int32) (x2 : Int32) : Option (Int32 × St) :=
  chk (inb x1 n0) <|
    chk (inb x1 n0) <|
    some (S k0 (ix x1), up S k0 (ix x1) x2)
set_option maxHeartbeats 4000000 in
set_option maxRecDepth 100000 in
theorem c_M_tells (l : Launch) (w : gw) (S : St) (k0 : Nat) (n0 : Nat) (x1 : Int32) (x2 : Int32) (hk0 : arF w k0 n0) {z : Int32 × St} (h : (M_tells S k0 n0 x1 x2) = some z) : gMi l w y_M_tells b_M_tells 4 (some .int) (rmm 0 0) [.ref (gad w k0), .int x1, .int x2] S z.1 z.2 := by
  unfold M_tells at h
  refine g_met (Qc := gQi w z.1 z.2) (by decide +kernel) (Nat.le_of_ble_eq_true rfl) ?_
  intro p e s m args below meth c A Q ls hQ C hG hl
  have hx := C.1
  have hb := C.2.1
  have hl : lv_has ls 4 [(0, .ref (gad w k0)), (1, .int x1), (2, .int x2)] := hl
  refine lv_aload_n hx hb d_M_tells_0 rfl (lv_at hl 0 rfl) ?_
  refine lv_iload_n hx hb d_M_tells_1 rfl (lv_at hl 1 rfl) ?_
  obtain ⟨hi1, h⟩ := chk_some h
  refine g_iald (j := ix x1) C hG hk0.1 (hk0.2 _) (inb_in hi1) rfl d_M_tells_2 ?_
  refine lv_istore_n (lv' := [(3, .int (S k0 (ix x1))), (0, .ref (gad w k0)), (1, .int x1), (2, .int x2)]) hx hb d_M_tells_3 rfl hl (by decide) rfl (fun ls hl => ?_)
  refine lv_aload_n hx hb d_M_tells_4 rfl (lv_at hl 1 rfl) ?_
  refine lv_iload_n hx hb d_M_tells_5 rfl (lv_at hl 2 rfl) ?_
  refine lv_iload_n hx hb d_M_tells_6 rfl (lv_at hl 3 rfl) ?_
  obtain ⟨hi2, h⟩ := chk_some h
  refine g_iast (j := ix x1) (x := x2) C hG hk0.1 hk0.2 (inb_in hi2) rfl d_M_tells_7 (fun H locs hG => ?_)
  refine lv_iload_n hx hb d_M_tells_8 rfl (lv_at hl 0 rfl) ?_
  exact g_iret C hG (sm_fst h) (sm_snd h) hQ d_M_tells_9
theorem d_M_bidder_0 : decode b_M_bidder 0 = .ok (.iload_n 1, 1) := by decide +kernel
theorem d_M_bidder_1 : decode b_M_bidder 1 = .ok (.invokestatic 140, 3) := by decide +kernel
theorem d_M_bidder_4 : decode b_M_bidder 4 = .ok (.ifCond .eq 32, 3) := by decide +kernel
theorem d_M_bidder_7 : decode b_M_bidder 7 = .ok (.iload_n 2, 1) := by decide +kernel
theorem d_M_bidder_8 : decode b_M_bidder 8 = .ok (.invokestatic 143, 3) := by decide +kernel
theorem d_M_bidder_11 : decode b_M_bidder 11 = .ok (.ifCond .eq 25, 3) := by decide +kernel
theorem d_M_bidder_14 : decode b_M_bidder 14 = .ok (.iload_n 3, 1) := by decide +kernel
theorem d_M_bidder_15 : decode b_M_bidder 15 = .ok (.i2l, 1) := by decide +kernel
theorem d_M_bidder_16 : decode b_M_bidder 16 = .ok (.lconst 0, 1) := by decide +kernel
theorem d_M_bidder_17 : decode b_M_bidder 17 = .ok (.iload_n 2, 1) := by decide +kernel
theorem d_M_bidder_18 : decode b_M_bidder 18 = .ok (.ifCond .ne 9, 3) := by decide +kernel
theorem d_M_bidder_21 : decode b_M_bidder 21 = .ok (.ldc2_w 146, 3) := by decide +kernel
theorem d_M_bidder_24 : decode b_M_bidder 24 = .ok (.goto 6, 3) := by decide +kernel
theorem d_M_bidder_27 : decode b_M_bidder 27 = .ok (.ldc2_w 126, 3) := by decide +kernel
theorem d_M_bidder_30 : decode b_M_bidder 30 = .ok (.invokestatic 82, 3) := by decide +kernel
theorem d_M_bidder_33 : decode b_M_bidder 33 = .ok (.ifCond .ne 6, 3) := by decide +kernel
theorem d_M_bidder_36 : decode b_M_bidder 36 = .ok (.bipush (-2), 2) := by decide +kernel
theorem d_M_bidder_38 : decode b_M_bidder 38 = .ok (.ireturn, 1) := by decide +kernel
theorem d_M_bidder_39 : decode b_M_bidder 39 = .ok (.iload_n 2, 1) := by decide +kernel
theorem d_M_bidder_40 : decode b_M_bidder 40 = .ok (.ifCond .ne 15, 3) := by decide +kernel
theorem d_M_bidder_43 : decode b_M_bidder 43 = .ok (.aload_n 0, 1) := by decide +kernel
theorem d_M_bidder_44 : decode b_M_bidder 44 = .ok (.getfield 28, 3) := by decide +kernel
theorem d_M_bidder_47 : decode b_M_bidder 47 = .ok (.iload_n 1, 1) := by decide +kernel
theorem d_M_bidder_48 : decode b_M_bidder 48 = .ok (.iload_n 3, 1) := by decide +kernel
theorem d_M_bidder_49 : decode b_M_bidder 49 = .ok (.invokestatic 148, 3) := by decide +kernel
theorem d_M_bidder_52 : decode b_M_bidder 52 = .ok (.goto 12, 3) := by decide +kernel
theorem d_M_bidder_55 : decode b_M_bidder 55 = .ok (.aload_n 0, 1) := by decide +kernel
theorem d_M_bidder_56 : decode b_M_bidder 56 = .ok (.getfield 31, 3) := by decide +kernel
theorem d_M_bidder_59 : decode b_M_bidder 59 = .ok (.iload_n 1, 1) := by decide +kernel
theorem d_M_bidder_60 : decode b_M_bidder 60 = .ok (.iload_n 3, 1) := by decide +kernel
theorem d_M_bidder_61 : decode b_M_bidder 61 = .ok (.invokestatic 148, 3) := by decide +kernel
theorem d_M_bidder_64 : decode b_M_bidder 64 = .ok (.ireturn, 1) := by decide +kernel
noncomputable def M_bidder_J30 (S : St) (x1 : Int32) (x2 : Int32) (x3 : Int32) (t0 : Int64) (t1 : Int64) (t2 : Int64) : Option (Int32 × St) :=
  if (M_in t0 t1 t2) = 0 then
      some ((-2), S)
    else
      if x2 = 0 then
        bnd (M_tells S 56 5 x1 x3) fun z2 =>
        some (z2.1, z2.2)
      else
        bnd (M_tells S 57 5 x1 x3) fun z1 =>
        some (z1.1, z1.2)
noncomputable def M_bidder (S : St) (x1 : Int32) (x2 : Int32) (x3 : Int32) : Option (Int32 × St) :=
  if (M_isBidder x1) = 0 then
      some ((-2), S)
    else
      if (M_isTwo x2) = 0 then
        some ((-2), S)
      else
        if x2 = 0 then
          M_bidder_J30 S x1 x2 x3 x3.toInt64 0 999
        else
          M_bidder_J30 S x1 x2 x3 x3.toInt64 0 4
set_option maxHeartbeats 4000000 in
set_option maxRecDepth 100000 in
theorem c_M_bidder (l : Launch) (w : gw) (S : St) (x1 : Int32) (x2 : Int32) (x3 : Int32)  {z : Int32 × St} (h : (M_bidder S x1 x2 x3) = some z) : gMi l w y_M_bidder b_M_bidder 4 (some .int) (rmm 2 45) [.ref (gad w 49), .int x1, .int x2, .int x3] S z.1 z.2 := by
  unfold M_bidder at h
  refine g_met (Qc := gQi w z.1 z.2) (by decide +kernel) (Nat.le_of_ble_eq_true rfl) ?_
  intro p e s m args below meth c A Q ls hQ C hG hl
  have hx := C.1
  have hb := C.2.1
  have hl : lv_has ls 4 [(0, .ref (gad w 49)), (1, .int x1), (2, .int x2), (3, .int x3)] := hl
  have J30 : ∀ (S : St) (t0 : Int64) (t1 : Int64) (t2 : Int64), M_bidder_J30 S x1 x2 x3 t0 t1 t2 = some z → ∀ (ls : Array Slot) (H : Heap) (locs : List Loc), GH w s A S H locs → lv_has ls 4 [(0, .ref (gad w 49)), (1, .int x1), (2, .int x2), (3, .int x3)] → W p l e (rmm 2 45) s m args below meth c H locs 0 0 Q (F0 m 30 ls [.long t2, .long t1, .long t0]) := by
    intro S t0 t1 t2 h ls H locs hG hl
    unfold M_bidder_J30 at h
    refine g_goi hG (g_runS (As := [.long t0, .long t1, .long t2]) (rest := []) C hG (c_M_in l w S t0 t1 t2 _) sw_M_82 rfl rfl ⟨by decide, by decide⟩ rfl hl.1 rfl (Nat.le_of_ble_eq_true rfl) d_M_bidder_30 ⟨Nat.zero_le _, Nat.zero_le _⟩) (fun H locs hG => ?_)
    refine lv_if_ne (tgt := 39) hx hb d_M_bidder_33 (by decide) (fun hc => ?_) (fun hc => ?_)
    · replace h := it_f h hc
      refine lv_iload_n hx hb d_M_bidder_39 rfl (lv_at hl 2 rfl) ?_
      refine lv_if_ne (tgt := 55) hx hb d_M_bidder_40 (by decide) (fun hc => ?_) (fun hc => ?_)
      · replace h := it_f h hc
        refine lv_aload_n hx hb d_M_bidder_55 rfl (lv_at hl 0 rfl) ?_
        refine g_get C hG (hG.lt (Nat.le_of_ble_eq_true rfl)) (ce49 w _) rfl inC8 11 (Nat.le_of_ble_eq_true rfl) qw687 rfl d_M_bidder_56 ?_
        refine lv_iload_n hx hb d_M_bidder_59 rfl (lv_at hl 1 rfl) ?_
        refine lv_iload_n hx hb d_M_bidder_60 rfl (lv_at hl 3 rfl) ?_
        obtain ⟨z1, hz1, h⟩ := bnd_some h
        refine g_goi hG (g_runS (As := [.ref (gad w 57), .int x1, .int x3]) (rest := []) C hG (c_M_tells l w S 57 5 x1 x3 ⟨(hG.lt (Nat.le_of_ble_eq_true rfl)), (ce57 w)⟩ hz1 _) sw_M_148 rfl rfl ⟨by decide, by decide⟩ rfl hl.1 rfl (Nat.le_of_ble_eq_true rfl) d_M_bidder_61 ⟨Nat.zero_le _, Nat.zero_le _⟩) (fun H locs hG => ?_)
        exact g_iret C hG (sm_fst h) (sm_snd h) hQ d_M_bidder_64
      · replace h := it_t h hc
        refine lv_aload_n hx hb d_M_bidder_43 rfl (lv_at hl 0 rfl) ?_
        refine g_get C hG (hG.lt (Nat.le_of_ble_eq_true rfl)) (ce49 w _) rfl inC8 10 (Nat.le_of_ble_eq_true rfl) qw686 rfl d_M_bidder_44 ?_
        refine lv_iload_n hx hb d_M_bidder_47 rfl (lv_at hl 1 rfl) ?_
        refine lv_iload_n hx hb d_M_bidder_48 rfl (lv_at hl 3 rfl) ?_
        obtain ⟨z2, hz2, h⟩ := bnd_some h
        refine g_goi hG (g_runS (As := [.ref (gad w 56), .int x1, .int x3]) (rest := []) C hG (c_M_tells l w S 56 5 x1 x3 ⟨(hG.lt (Nat.le_of_ble_eq_true rfl)), (ce56 w)⟩ hz2 _) sw_M_148 rfl rfl ⟨by decide, by decide⟩ rfl hl.1 rfl (Nat.le_of_ble_eq_true rfl) d_M_bidder_49 ⟨Nat.zero_le _, Nat.zero_le _⟩) (fun H locs hG => ?_)
        refine lv_goto (tgt := 64) hx hb d_M_bidder_52 (by decide) ?_
        exact g_iret C hG (sm_fst h) (sm_snd h) hQ d_M_bidder_64
    · replace h := it_t h hc
      refine lv_bipush (v := (-2)) hx hb d_M_bidder_36 (by decide) ?_
      exact g_iret C hG (sm_fst h) (sm_snd h) hQ d_M_bidder_38
  refine lv_iload_n hx hb d_M_bidder_0 rfl (lv_at hl 1 rfl) ?_
  refine g_goi hG (g_runS (As := [.int x1]) (rest := []) C hG (c_M_isBidder l w S x1 _) sw_M_140 rfl rfl ⟨by decide, by decide⟩ rfl hl.1 rfl (Nat.le_of_ble_eq_true rfl) d_M_bidder_1 ⟨Nat.zero_le _, Nat.zero_le _⟩) (fun H locs hG => ?_)
  refine lv_if_eq (tgt := 36) hx hb d_M_bidder_4 (by decide) (fun hc => ?_) (fun hc => ?_)
  · replace h := it_t h hc
    refine lv_bipush (v := (-2)) hx hb d_M_bidder_36 (by decide) ?_
    exact g_iret C hG (sm_fst h) (sm_snd h) hQ d_M_bidder_38
  · replace h := it_f h hc
    refine lv_iload_n hx hb d_M_bidder_7 rfl (lv_at hl 2 rfl) ?_
    refine g_goi hG (g_runS (As := [.int x2]) (rest := []) C hG (c_M_isTwo l w S x2 _) sw_M_143 rfl rfl ⟨by decide, by decide⟩ rfl hl.1 rfl (Nat.le_of_ble_eq_true rfl) d_M_bidder_8 ⟨Nat.zero_le _, Nat.zero_le _⟩) (fun H locs hG => ?_)
    refine lv_if_eq (tgt := 36) hx hb d_M_bidder_11 (by decide) (fun hc => ?_) (fun hc => ?_)
    · replace h := it_t h hc
      refine lv_bipush (v := (-2)) hx hb d_M_bidder_36 (by decide) ?_
      exact g_iret C hG (sm_fst h) (sm_snd h) hQ d_M_bidder_38
    · replace h := it_f h hc
      refine lv_iload_n hx hb d_M_bidder_14 rfl (lv_at hl 3 rfl) ?_
      refine lv_i2l (v := x3.toInt64) hx hb d_M_bidder_15 rfl ?_
      refine lv_lconst (v := 0) hx hb d_M_bidder_16 (by decide) ?_
      refine lv_iload_n hx hb d_M_bidder_17 rfl (lv_at hl 2 rfl) ?_
      refine lv_if_ne (tgt := 27) hx hb d_M_bidder_18 (by decide) (fun hc => ?_) (fun hc => ?_)
      · replace h := it_f h hc
        refine lv_ldc2 (v := 4) hx hb C.2.2.2.1 (C.2.2.2.2.1 _ qw829) d_M_bidder_27 ?_
        exact J30 _ _ _ _ h ls _ _ hG (lv_sub hl [0, 1, 2, 3] rfl)
      · replace h := it_t h hc
        refine lv_ldc2 (v := 999) hx hb C.2.2.2.1 (C.2.2.2.2.1 _ qw849) d_M_bidder_21 ?_
        refine lv_goto (tgt := 30) hx hb d_M_bidder_24 (by decide) ?_
        exact J30 _ _ _ _ h ls _ _ hG (lv_sub hl [0, 1, 2, 3] rfl)
theorem d_M_value_0 : decode b_M_value 0 = .ok (.iload_n 1, 1) := by decide +kernel
theorem d_M_value_1 : decode b_M_value 1 = .ok (.invokestatic 140, 3) := by decide +kernel
theorem d_M_value_4 : decode b_M_value 4 = .ok (.ifCond .eq 39, 3) := by decide +kernel
theorem d_M_value_7 : decode b_M_value 7 = .ok (.iload_n 2, 1) := by decide +kernel
theorem d_M_value_8 : decode b_M_value 8 = .ok (.invokestatic 152, 3) := by decide +kernel
theorem d_M_value_11 : decode b_M_value 11 = .ok (.ifCond .eq 32, 3) := by decide +kernel
theorem d_M_value_14 : decode b_M_value 14 = .ok (.iload_n 3, 1) := by decide +kernel
theorem d_M_value_15 : decode b_M_value 15 = .ok (.i2l, 1) := by decide +kernel
theorem d_M_value_16 : decode b_M_value 16 = .ok (.lconst 0, 1) := by decide +kernel
theorem d_M_value_17 : decode b_M_value 17 = .ok (.ldc2_w 155, 3) := by decide +kernel
theorem d_M_value_20 : decode b_M_value 20 = .ok (.invokestatic 82, 3) := by decide +kernel
theorem d_M_value_23 : decode b_M_value 23 = .ok (.ifCond .eq 20, 3) := by decide +kernel
theorem d_M_value_26 : decode b_M_value 26 = .ok (.aload_n 0, 1) := by decide +kernel
theorem d_M_value_27 : decode b_M_value 27 = .ok (.getfield 34, 3) := by decide +kernel
theorem d_M_value_30 : decode b_M_value 30 = .ok (.bipush 10, 2) := by decide +kernel
theorem d_M_value_32 : decode b_M_value 32 = .ok (.iload_n 1, 1) := by decide +kernel
theorem d_M_value_33 : decode b_M_value 33 = .ok (.imul, 1) := by decide +kernel
theorem d_M_value_34 : decode b_M_value 34 = .ok (.iload_n 2, 1) := by decide +kernel
theorem d_M_value_35 : decode b_M_value 35 = .ok (.iadd, 1) := by decide +kernel
theorem d_M_value_36 : decode b_M_value 36 = .ok (.iload_n 3, 1) := by decide +kernel
theorem d_M_value_37 : decode b_M_value 37 = .ok (.invokestatic 148, 3) := by decide +kernel
theorem d_M_value_40 : decode b_M_value 40 = .ok (.goto 5, 3) := by decide +kernel
theorem d_M_value_43 : decode b_M_value 43 = .ok (.bipush (-2), 2) := by decide +kernel
theorem d_M_value_45 : decode b_M_value 45 = .ok (.ireturn, 1) := by decide +kernel
noncomputable def M_value (S : St) (x1 : Int32) (x2 : Int32) (x3 : Int32) : Option (Int32 × St) :=
  if (M_isBidder x1) = 0 then
      some ((-2), S)
    else
      if (M_isEvening x2) = 0 then
        some ((-2), S)
      else
        if (M_in x3.toInt64 0 99) = 0 then
          some ((-2), S)
        else
          bnd (M_tells S 58 50 ((10 * x1) + x2) x3) fun z1 =>
          some (z1.1, z1.2)
set_option maxHeartbeats 4000000 in
set_option maxRecDepth 100000 in
theorem c_M_value (l : Launch) (w : gw) (S : St) (x1 : Int32) (x2 : Int32) (x3 : Int32)  {z : Int32 × St} (h : (M_value S x1 x2 x3) = some z) : gMi l w y_M_value b_M_value 4 (some .int) (rmm 2 45) [.ref (gad w 49), .int x1, .int x2, .int x3] S z.1 z.2 := by
  unfold M_value at h
  refine g_met (Qc := gQi w z.1 z.2) (by decide +kernel) (Nat.le_of_ble_eq_true rfl) ?_
  intro p e s m args below meth c A Q ls hQ C hG hl
  have hx := C.1
  have hb := C.2.1
  have hl : lv_has ls 4 [(0, .ref (gad w 49)), (1, .int x1), (2, .int x2), (3, .int x3)] := hl
  refine lv_iload_n hx hb d_M_value_0 rfl (lv_at hl 1 rfl) ?_
  refine g_goi hG (g_runS (As := [.int x1]) (rest := []) C hG (c_M_isBidder l w S x1 _) sw_M_140 rfl rfl ⟨by decide, by decide⟩ rfl hl.1 rfl (Nat.le_of_ble_eq_true rfl) d_M_value_1 ⟨Nat.zero_le _, Nat.zero_le _⟩) (fun H locs hG => ?_)
  refine lv_if_eq (tgt := 43) hx hb d_M_value_4 (by decide) (fun hc => ?_) (fun hc => ?_)
  · replace h := it_t h hc
    refine lv_bipush (v := (-2)) hx hb d_M_value_43 (by decide) ?_
    exact g_iret C hG (sm_fst h) (sm_snd h) hQ d_M_value_45
  · replace h := it_f h hc
    refine lv_iload_n hx hb d_M_value_7 rfl (lv_at hl 2 rfl) ?_
    refine g_goi hG (g_runS (As := [.int x2]) (rest := []) C hG (c_M_isEvening l w S x2 _) sw_M_152 rfl rfl ⟨by decide, by decide⟩ rfl hl.1 rfl (Nat.le_of_ble_eq_true rfl) d_M_value_8 ⟨Nat.zero_le _, Nat.zero_le _⟩) (fun H locs hG => ?_)
    refine lv_if_eq (tgt := 43) hx hb d_M_value_11 (by decide) (fun hc => ?_) (fun hc => ?_)
    · replace h := it_t h hc
      refine lv_bipush (v := (-2)) hx hb d_M_value_43 (by decide) ?_
      exact g_iret C hG (sm_fst h) (sm_snd h) hQ d_M_value_45
    · replace h := it_f h hc
      refine lv_iload_n hx hb d_M_value_14 rfl (lv_at hl 3 rfl) ?_
      refine lv_i2l (v := x3.toInt64) hx hb d_M_value_15 rfl ?_
      refine lv_lconst (v := 0) hx hb d_M_value_16 (by decide) ?_
      refine lv_ldc2 (v := 99) hx hb C.2.2.2.1 (C.2.2.2.2.1 _ qw860) d_M_value_17 ?_
      refine g_goi hG (g_runS (As := [.long x3.toInt64, .long 0, .long 99]) (rest := []) C hG (c_M_in l w S x3.toInt64 0 99 _) sw_M_82 rfl rfl ⟨by decide, by decide⟩ rfl hl.1 rfl (Nat.le_of_ble_eq_true rfl) d_M_value_20 ⟨Nat.zero_le _, Nat.zero_le _⟩) (fun H locs hG => ?_)
      refine lv_if_eq (tgt := 43) hx hb d_M_value_23 (by decide) (fun hc => ?_) (fun hc => ?_)
      · replace h := it_t h hc
        refine lv_bipush (v := (-2)) hx hb d_M_value_43 (by decide) ?_
        exact g_iret C hG (sm_fst h) (sm_snd h) hQ d_M_value_45
      · replace h := it_f h hc
        refine lv_aload_n hx hb d_M_value_26 rfl (lv_at hl 0 rfl) ?_
        refine g_get C hG (hG.lt (Nat.le_of_ble_eq_true rfl)) (ce49 w _) rfl inC8 12 (Nat.le_of_ble_eq_true rfl) qw688 rfl d_M_value_27 ?_
        refine lv_bipush (v := 10) hx hb d_M_value_30 (by decide) ?_
        refine lv_iload_n hx hb d_M_value_32 rfl (lv_at hl 1 rfl) ?_
        refine lv_imul hx hb d_M_value_33 ?_
        refine lv_iload_n hx hb d_M_value_34 rfl (lv_at hl 2 rfl) ?_
        refine lv_iadd hx hb d_M_value_35 ?_
        refine lv_iload_n hx hb d_M_value_36 rfl (lv_at hl 3 rfl) ?_
        obtain ⟨z1, hz1, h⟩ := bnd_some h
        refine g_goi hG (g_runS (As := [.ref (gad w 58), .int ((10 * x1) + x2), .int x3]) (rest := []) C hG (c_M_tells l w S 58 50 ((10 * x1) + x2) x3 ⟨(hG.lt (Nat.le_of_ble_eq_true rfl)), (ce58 w)⟩ hz1 _) sw_M_148 rfl rfl ⟨by decide, by decide⟩ rfl hl.1 rfl (Nat.le_of_ble_eq_true rfl) d_M_value_37 ⟨Nat.zero_le _, Nat.zero_le _⟩) (fun H locs hG => ?_)
        refine lv_goto (tgt := 45) hx hb d_M_value_40 (by decide) ?_
        exact g_iret C hG (sm_fst h) (sm_snd h) hQ d_M_value_45
theorem d_M_joy_0 : decode b_M_joy 0 = .ok (.iload_n 1, 1) := by decide +kernel
theorem d_M_joy_1 : decode b_M_joy 1 = .ok (.invokestatic 140, 3) := by decide +kernel
theorem d_M_joy_4 : decode b_M_joy 4 = .ok (.ifCond .eq 43, 3) := by decide +kernel
theorem d_M_joy_7 : decode b_M_joy 7 = .ok (.iload_n 2, 1) := by decide +kernel
theorem d_M_joy_8 : decode b_M_joy 8 = .ok (.i2l, 1) := by decide +kernel
theorem d_M_joy_9 : decode b_M_joy 9 = .ok (.lconst 0, 1) := by decide +kernel
theorem d_M_joy_10 : decode b_M_joy 10 = .ok (.ldc2_w 126, 3) := by decide +kernel
theorem d_M_joy_13 : decode b_M_joy 13 = .ok (.invokestatic 82, 3) := by decide +kernel
theorem d_M_joy_16 : decode b_M_joy 16 = .ok (.ifCond .eq 31, 3) := by decide +kernel
theorem d_M_joy_19 : decode b_M_joy 19 = .ok (.iload_n 3, 1) := by decide +kernel
theorem d_M_joy_20 : decode b_M_joy 20 = .ok (.i2l, 1) := by decide +kernel
theorem d_M_joy_21 : decode b_M_joy 21 = .ok (.lconst 0, 1) := by decide +kernel
theorem d_M_joy_22 : decode b_M_joy 22 = .ok (.ldc2_w 128, 3) := by decide +kernel
theorem d_M_joy_25 : decode b_M_joy 25 = .ok (.invokestatic 82, 3) := by decide +kernel
theorem d_M_joy_28 : decode b_M_joy 28 = .ok (.ifCond .eq 19, 3) := by decide +kernel
theorem d_M_joy_31 : decode b_M_joy 31 = .ok (.aload_n 0, 1) := by decide +kernel
theorem d_M_joy_32 : decode b_M_joy 32 = .ok (.getfield 37, 3) := by decide +kernel
theorem d_M_joy_35 : decode b_M_joy 35 = .ok (.iconst 5, 1) := by decide +kernel
theorem d_M_joy_36 : decode b_M_joy 36 = .ok (.iload_n 1, 1) := by decide +kernel
theorem d_M_joy_37 : decode b_M_joy 37 = .ok (.imul, 1) := by decide +kernel
theorem d_M_joy_38 : decode b_M_joy 38 = .ok (.iload_n 2, 1) := by decide +kernel
theorem d_M_joy_39 : decode b_M_joy 39 = .ok (.iadd, 1) := by decide +kernel
theorem d_M_joy_40 : decode b_M_joy 40 = .ok (.iload_n 3, 1) := by decide +kernel
theorem d_M_joy_41 : decode b_M_joy 41 = .ok (.invokestatic 148, 3) := by decide +kernel
theorem d_M_joy_44 : decode b_M_joy 44 = .ok (.goto 5, 3) := by decide +kernel
theorem d_M_joy_47 : decode b_M_joy 47 = .ok (.bipush (-2), 2) := by decide +kernel
theorem d_M_joy_49 : decode b_M_joy 49 = .ok (.ireturn, 1) := by decide +kernel
noncomputable def M_joy (S : St) (x1 : Int32) (x2 : Int32) (x3 : Int32) : Option (Int32 × St) :=
  if (M_isBidder x1) = 0 then
      some ((-2), S)
    else
      if (M_in x2.toInt64 0 4) = 0 then
        some ((-2), S)
      else
        if (M_in x3.toInt64 0 9) = 0 then
          some ((-2), S)
        else
          bnd (M_tells S 59 25 ((5 * x1) + x2) x3) fun z1 =>
          some (z1.1, z1.2)
set_option maxHeartbeats 4000000 in
set_option maxRecDepth 100000 in
theorem c_M_joy (l : Launch) (w : gw) (S : St) (x1 : Int32) (x2 : Int32) (x3 : Int32)  {z : Int32 × St} (h : (M_joy S x1 x2 x3) = some z) : gMi l w y_M_joy b_M_joy 4 (some .int) (rmm 2 45) [.ref (gad w 49), .int x1, .int x2, .int x3] S z.1 z.2 := by
  unfold M_joy at h
  refine g_met (Qc := gQi w z.1 z.2) (by decide +kernel) (Nat.le_of_ble_eq_true rfl) ?_
  intro p e s m args below meth c A Q ls hQ C hG hl
  have hx := C.1
  have hb := C.2.1
  have hl : lv_has ls 4 [(0, .ref (gad w 49)), (1, .int x1), (2, .int x2), (3, .int x3)] := hl
  refine lv_iload_n hx hb d_M_joy_0 rfl (lv_at hl 1 rfl) ?_
  refine g_goi hG (g_runS (As := [.int x1]) (rest := []) C hG (c_M_isBidder l w S x1 _) sw_M_140 rfl rfl ⟨by decide, by decide⟩ rfl hl.1 rfl (Nat.le_of_ble_eq_true rfl) d_M_joy_1 ⟨Nat.zero_le _, Nat.zero_le _⟩) (fun H locs hG => ?_)
  refine lv_if_eq (tgt := 47) hx hb d_M_joy_4 (by decide) (fun hc => ?_) (fun hc => ?_)
  · replace h := it_t h hc
    refine lv_bipush (v := (-2)) hx hb d_M_joy_47 (by decide) ?_
    exact g_iret C hG (sm_fst h) (sm_snd h) hQ d_M_joy_49
  · replace h := it_f h hc
    refine lv_iload_n hx hb d_M_joy_7 rfl (lv_at hl 2 rfl) ?_
    refine lv_i2l (v := x2.toInt64) hx hb d_M_joy_8 rfl ?_
    refine lv_lconst (v := 0) hx hb d_M_joy_9 (by decide) ?_
    refine lv_ldc2 (v := 4) hx hb C.2.2.2.1 (C.2.2.2.2.1 _ qw829) d_M_joy_10 ?_
    refine g_goi hG (g_runS (As := [.long x2.toInt64, .long 0, .long 4]) (rest := []) C hG (c_M_in l w S x2.toInt64 0 4 _) sw_M_82 rfl rfl ⟨by decide, by decide⟩ rfl hl.1 rfl (Nat.le_of_ble_eq_true rfl) d_M_joy_13 ⟨Nat.zero_le _, Nat.zero_le _⟩) (fun H locs hG => ?_)
    refine lv_if_eq (tgt := 47) hx hb d_M_joy_16 (by decide) (fun hc => ?_) (fun hc => ?_)
    · replace h := it_t h hc
      refine lv_bipush (v := (-2)) hx hb d_M_joy_47 (by decide) ?_
      exact g_iret C hG (sm_fst h) (sm_snd h) hQ d_M_joy_49
    · replace h := it_f h hc
      refine lv_iload_n hx hb d_M_joy_19 rfl (lv_at hl 3 rfl) ?_
      refine lv_i2l (v := x3.toInt64) hx hb d_M_joy_20 rfl ?_
      refine lv_lconst (v := 0) hx hb d_M_joy_21 (by decide) ?_
      refine lv_ldc2 (v := 9) hx hb C.2.2.2.1 (C.2.2.2.2.1 _ qw830) d_M_joy_22 ?_
      refine g_goi hG (g_runS (As := [.long x3.toInt64, .long 0, .long 9]) (rest := []) C hG (c_M_in l w S x3.toInt64 0 9 _) sw_M_82 rfl rfl ⟨by decide, by decide⟩ rfl hl.1 rfl (Nat.le_of_ble_eq_true rfl) d_M_joy_25 ⟨Nat.zero_le _, Nat.zero_le _⟩) (fun H locs hG => ?_)
      refine lv_if_eq (tgt := 47) hx hb d_M_joy_28 (by decide) (fun hc => ?_) (fun hc => ?_)
      · replace h := it_t h hc
        refine lv_bipush (v := (-2)) hx hb d_M_joy_47 (by decide) ?_
        exact g_iret C hG (sm_fst h) (sm_snd h) hQ d_M_joy_49
      · replace h := it_f h hc
        refine lv_aload_n hx hb d_M_joy_31 rfl (lv_at hl 0 rfl) ?_
        refine g_get C hG (hG.lt (Nat.le_of_ble_eq_true rfl)) (ce49 w _) rfl inC8 13 (Nat.le_of_ble_eq_true rfl) qw689 rfl d_M_joy_32 ?_
        refine lv_iconst (v := 5) hx hb d_M_joy_35 (by decide) ?_
        refine lv_iload_n hx hb d_M_joy_36 rfl (lv_at hl 1 rfl) ?_
        refine lv_imul hx hb d_M_joy_37 ?_
        refine lv_iload_n hx hb d_M_joy_38 rfl (lv_at hl 2 rfl) ?_
        refine lv_iadd hx hb d_M_joy_39 ?_
        refine lv_iload_n hx hb d_M_joy_40 rfl (lv_at hl 3 rfl) ?_
        obtain ⟨z1, hz1, h⟩ := bnd_some h
        refine g_goi hG (g_runS (As := [.ref (gad w 59), .int ((5 * x1) + x2), .int x3]) (rest := []) C hG (c_M_tells l w S 59 25 ((5 * x1) + x2) x3 ⟨(hG.lt (Nat.le_of_ble_eq_true rfl)), (ce59 w)⟩ hz1 _) sw_M_148 rfl rfl ⟨by decide, by decide⟩ rfl hl.1 rfl (Nat.le_of_ble_eq_true rfl) d_M_joy_41 ⟨Nat.zero_le _, Nat.zero_le _⟩) (fun H locs hG => ?_)
        refine lv_goto (tgt := 49) hx hb d_M_joy_44 (by decide) ?_
        exact g_iret C hG (sm_fst h) (sm_snd h) hQ d_M_joy_49
