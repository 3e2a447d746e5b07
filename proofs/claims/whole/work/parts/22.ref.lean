variable {p : Program} {l : Launch} {e : Env} {s : State} {m : MethodId} {args : Array Value} {below : List Frame} {meth : Method} {c : Code} {A : Nat → Prop} {Q : State → Prop} {w : gw} {S : St}
theorem d_M_evening_0 : decode b_M_evening 0 = .ok (.iload_n 1, 1) := by decide +kernel
theorem d_M_evening_1 : decode b_M_evening 1 = .ok (.invokestatic 152, 3) := by decide +kernel
theorem d_M_evening_4 : decode b_M_evening 4 = .ok (.ifCond .eq 32, 3) := by decide +kernel
theorem d_M_evening_7 : decode b_M_evening 7 = .ok (.iload_n 2, 1) := by decide +kernel
theorem d_M_evening_8 : decode b_M_evening 8 = .ok (.invokestatic 143, 3) := by decide +kernel
theorem d_M_evening_11 : decode b_M_evening 11 = .ok (.ifCond .eq 25, 3) := by decide +kernel
theorem d_M_evening_14 : decode b_M_evening 14 = .ok (.iload_n 3, 1) := by decide +kernel
theorem d_M_evening_15 : decode b_M_evening 15 = .ok (.i2l, 1) := by decide +kernel
theorem d_M_evening_16 : decode b_M_evening 16 = .ok (.lconst 0, 1) := by decide +kernel
theorem d_M_evening_17 : decode b_M_evening 17 = .ok (.iload_n 2, 1) := by decide +kernel
theorem d_M_evening_18 : decode b_M_evening 18 = .ok (.ifCond .ne 9, 3) := by decide +kernel
theorem d_M_evening_21 : decode b_M_evening 21 = .ok (.ldc2_w 155, 3) := by decide +kernel
theorem d_M_evening_24 : decode b_M_evening 24 = .ok (.goto 6, 3) := by decide +kernel
theorem d_M_evening_27 : decode b_M_evening 27 = .ok (.ldc2_w 157, 3) := by decide +kernel
theorem d_M_evening_30 : decode b_M_evening 30 = .ok (.invokestatic 82, 3) := by decide +kernel
theorem d_M_evening_33 : decode b_M_evening 33 = .ok (.ifCond .ne 6, 3) := by decide +kernel
theorem d_M_evening_36 : decode b_M_evening 36 = .ok (.bipush (-2), 2) := by decide +kernel
theorem d_M_evening_38 : decode b_M_evening 38 = .ok (.ireturn, 1) := by decide +kernel
theorem d_M_evening_39 : decode b_M_evening 39 = .ok (.iload_n 2, 1) := by decide +kernel
theorem d_M_evening_40 : decode b_M_evening 40 = .ok (.ifCond .ne 15, 3) := by decide +kernel
theorem d_M_evening_43 : decode b_M_evening 43 = .ok (.aload_n 0, 1) := by decide +kernel
theorem d_M_evening_44 : decode b_M_evening 44 = .ok (.getfield 40, 3) := by decide +kernel
theorem d_M_evening_47 : decode b_M_evening 47 = .ok (.iload_n 1, 1) := by decide +kernel
theorem d_M_evening_48 : decode b_M_evening 48 = .ok (.iload_n 3, 1) := by decide +kernel
theorem d_M_evening_49 : decode b_M_evening 49 = .ok (.invokestatic 148, 3) := by decide +kernel
theorem d_M_evening_52 : decode b_M_evening 52 = .ok (.goto 12, 3) := by decide +kernel
theorem d_M_evening_55 : decode b_M_evening 55 = .ok (.aload_n 0, 1) := by decide +kernel
theorem d_M_evening_56 : decode b_M_evening 56 = .ok (.getfield 43, 3) := by decide +kernel
theorem d_M_evening_59 : decode b_M_evening 59 = .ok (.iload_n 1, 1) := by decide +kernel
theorem d_M_evening_60 : decode b_M_evening 60 = .ok (.iload_n 3, 1) := by decide +kernel
theorem d_M_evening_61 : decode b_M_evening 61 = .ok (.invokestatic 148, 3) := by decide +kernel
theorem d_M_evening_64 : decode b_M_evening 64 = .ok (.ireturn, 1) := by decide +kernel
noncomputable def M_evening_J30 (S : St) (x1 : Int32) (x2 : Int32) (x3 : Int32) (t0 : Int64) (t1 : Int64) (t2 : Int64) : Option (Int32 × St) :=
  if (M_in t0 t1 t2) = 0 then
      some ((-2), S)
    else
      if x2 = 0 then
        bnd (M_tells S 60 10 x1 x3) fun z2 =>
        some (z2.1, z2.2)
      else
        bnd (M_tells S 61 10 x1 x3) fun z1 =>
        some (z1.1, z1.2)
noncomputable def M_evening (S : St) (x1 : Int32) (x2 : Int32) (x3 : Int32) : Option (Int32 × St) :=
  if (M_isEvening x1) = 0 then
      some ((-2), S)
    else
      if (M_isTwo x2) = 0 then
        some ((-2), S)
      else
        if x2 = 0 then
          M_evening_J30 S x1 x2 x3 x3.toInt64 0 99
        else
          M_evening_J30 S x1 x2 x3 x3.toInt64 0 16
set_option maxHeartbeats 4000000 in
set_option maxRecDepth 100000 in
theorem c_M_evening (l : Launch) (w : gw) (S : St) (x1 : Int32) (x2 : Int32) (x3 : Int32)  {z : Int32 × St} (h : (M_evening S x1 x2 x3) = some z) : gMi l w y_M_evening b_M_evening 4 (some .int) (rmm 2 45) [.ref (gad w 49), .int x1, .int x2, .int x3] S z.1 z.2 := by
  unfold M_evening at h
  refine g_met (Qc := gQi w z.1 z.2) (by decide +kernel) (Nat.le_of_ble_eq_true rfl) ?_
  intro p e s m args below meth c A Q ls hQ C hG hl
  have hx := C.1
  have hb := C.2.1
  have hl : lv_has ls 4 [(0, .ref (gad w 49)), (1, .int x1), (2, .int x2), (3, .int x3)] := hl
  have J30 : ∀ (S : St) (t0 : Int64) (t1 : Int64) (t2 : Int64), M_evening_J30 S x1 x2 x3 t0 t1 t2 = some z → ∀ (ls : Array Slot) (H : Heap) (locs : List Loc), GH w s A S H locs → lv_has ls 4 [(0, .ref (gad w 49)), (1, .int x1), (2, .int x2), (3, .int x3)] → W p l e (rmm 2 45) s m args below meth c H locs 0 0 Q (F0 m 30 ls [.long t2, .long t1, .long t0]) := by
    intro S t0 t1 t2 h ls H locs hG hl
    unfold M_evening_J30 at h
    refine g_goi hG (g_runS (As := [.long t0, .long t1, .long t2]) (rest := []) C hG (c_M_in l w S t0 t1 t2 _) sw_M_82 rfl rfl ⟨by decide, by decide⟩ rfl hl.1 rfl (Nat.le_of_ble_eq_true rfl) d_M_evening_30 ⟨Nat.zero_le _, Nat.zero_le _⟩) (fun H locs hG => ?_)
    refine lv_if_ne (tgt := 39) hx hb d_M_evening_33 (by decide) (fun hc => ?_) (fun hc => ?_)
    · replace h := it_f h hc
      refine lv_iload_n hx hb d_M_evening_39 rfl (lv_at hl 2 rfl) ?_
      refine lv_if_ne (tgt := 55) hx hb d_M_evening_40 (by decide) (fun hc => ?_) (fun hc => ?_)
      · replace h := it_f h hc
        refine lv_aload_n hx hb d_M_evening_55 rfl (lv_at hl 0 rfl) ?_
        refine g_get C hG (hG.lt (Nat.le_of_ble_eq_true rfl)) (ce49 w _) rfl inC8 15 (Nat.le_of_ble_eq_true rfl) qw691 rfl d_M_evening_56 ?_
        refine lv_iload_n hx hb d_M_evening_59 rfl (lv_at hl 1 rfl) ?_
        refine lv_iload_n hx hb d_M_evening_60 rfl (lv_at hl 3 rfl) ?_
        obtain ⟨z1, hz1, h⟩ := bnd_some h
        refine g_goi hG (g_runS (As := [.ref (gad w 61), .int x1, .int x3]) (rest := []) C hG (c_M_tells l w S 61 10 x1 x3 ⟨(hG.lt (Nat.le_of_ble_eq_true rfl)), (ce61 w)⟩ hz1 _) sw_M_148 rfl rfl ⟨by decide, by decide⟩ rfl hl.1 rfl (Nat.le_of_ble_eq_true rfl) d_M_evening_61 ⟨Nat.zero_le _, Nat.zero_le _⟩) (fun H locs hG => ?_)
        exact g_iret C hG (sm_fst h) (sm_snd h) hQ d_M_evening_64
      · replace h := it_t h hc
        refine lv_aload_n hx hb d_M_evening_43 rfl (lv_at hl 0 rfl) ?_
        refine g_get C hG (hG.lt (Nat.le_of_ble_eq_true rfl)) (ce49 w _) rfl inC8 14 (Nat.le_of_ble_eq_true rfl) qw690 rfl d_M_evening_44 ?_
        refine lv_iload_n hx hb d_M_evening_47 rfl (lv_at hl 1 rfl) ?_
        refine lv_iload_n hx hb d_M_evening_48 rfl (lv_at hl 3 rfl) ?_
        obtain ⟨z2, hz2, h⟩ := bnd_some h
        refine g_goi hG (g_runS (As := [.ref (gad w 60), .int x1, .int x3]) (rest := []) C hG (c_M_tells l w S 60 10 x1 x3 ⟨(hG.lt (Nat.le_of_ble_eq_true rfl)), (ce60 w)⟩ hz2 _) sw_M_148 rfl rfl ⟨by decide, by decide⟩ rfl hl.1 rfl (Nat.le_of_ble_eq_true rfl) d_M_evening_49 ⟨Nat.zero_le _, Nat.zero_le _⟩) (fun H locs hG => ?_)
        refine lv_goto (tgt := 64) hx hb d_M_evening_52 (by decide) ?_
        exact g_iret C hG (sm_fst h) (sm_snd h) hQ d_M_evening_64
    · replace h := it_t h hc
      refine lv_bipush (v := (-2)) hx hb d_M_evening_36 (by decide) ?_
      exact g_iret C hG (sm_fst h) (sm_snd h) hQ d_M_evening_38
  refine lv_iload_n hx hb d_M_evening_0 rfl (lv_at hl 1 rfl) ?_
  refine g_goi hG (g_runS (As := [.int x1]) (rest := []) C hG (c_M_isEvening l w S x1 _) sw_M_152 rfl rfl ⟨by decide, by decide⟩ rfl hl.1 rfl (Nat.le_of_ble_eq_true rfl) d_M_evening_1 ⟨Nat.zero_le _, Nat.zero_le _⟩) (fun H locs hG => ?_)
  refine lv_if_eq (tgt := 36) hx hb d_M_evening_4 (by decide) (fun hc => ?_) (fun hc => ?_)
  · replace h := it_t h hc
    refine lv_bipush (v := (-2)) hx hb d_M_evening_36 (by decide) ?_
    exact g_iret C hG (sm_fst h) (sm_snd h) hQ d_M_evening_38
  · replace h := it_f h hc
    refine lv_iload_n hx hb d_M_evening_7 rfl (lv_at hl 2 rfl) ?_
    refine g_goi hG (g_runS (As := [.int x2]) (rest := []) C hG (c_M_isTwo l w S x2 _) sw_M_143 rfl rfl ⟨by decide, by decide⟩ rfl hl.1 rfl (Nat.le_of_ble_eq_true rfl) d_M_evening_8 ⟨Nat.zero_le _, Nat.zero_le _⟩) (fun H locs hG => ?_)
    refine lv_if_eq (tgt := 36) hx hb d_M_evening_11 (by decide) (fun hc => ?_) (fun hc => ?_)
    · replace h := it_t h hc
      refine lv_bipush (v := (-2)) hx hb d_M_evening_36 (by decide) ?_
      exact g_iret C hG (sm_fst h) (sm_snd h) hQ d_M_evening_38
    · replace h := it_f h hc
      refine lv_iload_n hx hb d_M_evening_14 rfl (lv_at hl 3 rfl) ?_
      refine lv_i2l (v := x3.toInt64) hx hb d_M_evening_15 rfl ?_
      refine lv_lconst (v := 0) hx hb d_M_evening_16 (by decide) ?_
      refine lv_iload_n hx hb d_M_evening_17 rfl (lv_at hl 2 rfl) ?_
      refine lv_if_ne (tgt := 27) hx hb d_M_evening_18 (by decide) (fun hc => ?_) (fun hc => ?_)
      · replace h := it_f h hc
        refine lv_ldc2 (v := 16) hx hb C.2.2.2.1 (C.2.2.2.2.1 _ qw869) d_M_evening_27 ?_
        exact J30 _ _ _ _ h ls _ _ hG (lv_sub hl [0, 1, 2, 3] rfl)
      · replace h := it_t h hc
        refine lv_ldc2 (v := 99) hx hb C.2.2.2.1 (C.2.2.2.2.1 _ qw860) d_M_evening_21 ?_
        refine lv_goto (tgt := 30) hx hb d_M_evening_24 (by decide) ?_
        exact J30 _ _ _ _ h ls _ _ hG (lv_sub hl [0, 1, 2, 3] rfl)
theorem d_M_set_0 : decode b_M_set 0 = .ok (.iload_n 1, 1) := by decide +kernel
theorem d_M_set_1 : decode b_M_set 1 = .ok (.iconst 1, 1) := by decide +kernel
theorem d_M_set_2 : decode b_M_set 2 = .ok (.if_icmp .ne 7, 3) := by decide +kernel
theorem d_M_set_5 : decode b_M_set 5 = .ok (.iconst 0, 1) := by decide +kernel
theorem d_M_set_6 : decode b_M_set 6 = .ok (.goto 4, 3) := by decide +kernel
theorem d_M_set_9 : decode b_M_set 9 = .ok (.iconst 1, 1) := by decide +kernel
theorem d_M_set_10 : decode b_M_set 10 = .ok (.istore_n 3, 1) := by decide +kernel
theorem d_M_set_11 : decode b_M_set 11 = .ok (.iload_n 1, 1) := by decide +kernel
theorem d_M_set_12 : decode b_M_set 12 = .ok (.ifCond .ne 8, 3) := by decide +kernel
theorem d_M_set_15 : decode b_M_set 15 = .ok (.bipush 20, 2) := by decide +kernel
theorem d_M_set_17 : decode b_M_set 17 = .ok (.goto 14, 3) := by decide +kernel
theorem d_M_set_20 : decode b_M_set 20 = .ok (.iload_n 1, 1) := by decide +kernel
theorem d_M_set_21 : decode b_M_set 21 = .ok (.iconst 1, 1) := by decide +kernel
theorem d_M_set_22 : decode b_M_set 22 = .ok (.if_icmp .ne 7, 3) := by decide +kernel
theorem d_M_set_25 : decode b_M_set 25 = .ok (.iconst 1, 1) := by decide +kernel
theorem d_M_set_26 : decode b_M_set 26 = .ok (.goto 5, 3) := by decide +kernel
theorem d_M_set_29 : decode b_M_set 29 = .ok (.bipush 10, 2) := by decide +kernel
theorem d_M_set_31 : decode b_M_set 31 = .ok (.istore 4, 2) := by decide +kernel
theorem d_M_set_33 : decode b_M_set 33 = .ok (.iload_n 1, 1) := by decide +kernel
theorem d_M_set_34 : decode b_M_set 34 = .ok (.i2l, 1) := by decide +kernel
theorem d_M_set_35 : decode b_M_set 35 = .ok (.lconst 0, 1) := by decide +kernel
theorem d_M_set_36 : decode b_M_set 36 = .ok (.ldc2_w 96, 3) := by decide +kernel
theorem d_M_set_39 : decode b_M_set 39 = .ok (.invokestatic 82, 3) := by decide +kernel
theorem d_M_set_42 : decode b_M_set 42 = .ok (.ifCond .eq 28, 3) := by decide +kernel
theorem d_M_set_45 : decode b_M_set 45 = .ok (.iload_n 2, 1) := by decide +kernel
theorem d_M_set_46 : decode b_M_set 46 = .ok (.i2l, 1) := by decide +kernel
theorem d_M_set_47 : decode b_M_set 47 = .ok (.iload_n 3, 1) := by decide +kernel
theorem d_M_set_48 : decode b_M_set 48 = .ok (.i2l, 1) := by decide +kernel
theorem d_M_set_49 : decode b_M_set 49 = .ok (.iload 4, 2) := by decide +kernel
theorem d_M_set_51 : decode b_M_set 51 = .ok (.i2l, 1) := by decide +kernel
theorem d_M_set_52 : decode b_M_set 52 = .ok (.invokestatic 82, 3) := by decide +kernel
theorem d_M_set_55 : decode b_M_set 55 = .ok (.ifCond .eq 15, 3) := by decide +kernel
theorem d_M_set_58 : decode b_M_set 58 = .ok (.aload_n 0, 1) := by decide +kernel
theorem d_M_set_59 : decode b_M_set 59 = .ok (.getfield 46, 3) := by decide +kernel
theorem d_M_set_62 : decode b_M_set 62 = .ok (.iload_n 1, 1) := by decide +kernel
theorem d_M_set_63 : decode b_M_set 63 = .ok (.iload_n 2, 1) := by decide +kernel
theorem d_M_set_64 : decode b_M_set 64 = .ok (.invokestatic 148, 3) := by decide +kernel
theorem d_M_set_67 : decode b_M_set 67 = .ok (.goto 5, 3) := by decide +kernel
theorem d_M_set_70 : decode b_M_set 70 = .ok (.bipush (-2), 2) := by decide +kernel
theorem d_M_set_72 : decode b_M_set 72 = .ok (.ireturn, 1) := by decide +kernel
noncomputable def M_set_J31 (S : St) (x1 : Int32) (x2 : Int32) (x3 : Int32) (t0 : Int32) : Option (Int32 × St) :=
  if (M_in x1.toInt64 0 2) = 0 then
      some ((-2), S)
    else
      if (M_in x2.toInt64 x3.toInt64 t0.toInt64) = 0 then
        some ((-2), S)
      else
        bnd (M_tells S 62 3 x1 x2) fun z1 =>
        some (z1.1, z1.2)
noncomputable def M_set_J10 (S : St) (x1 : Int32) (x2 : Int32) (t0 : Int32) : Option (Int32 × St) :=
  if x1 = 0 then
      M_set_J31 S x1 x2 t0 20
    else
      if x1 = 1 then
        M_set_J31 S x1 x2 t0 1
      else
        M_set_J31 S x1 x2 t0 10
noncomputable def M_set (S : St) (x1 : Int32) (x2 : Int32) : Option (Int32 × St) :=
  if x1 = 1 then
      M_set_J10 S x1 x2 0
    else
      M_set_J10 S x1 x2 1
set_option maxHeartbeats 4000000 in
set_option maxRecDepth 100000 in
theorem c_M_set (l : Launch) (w : gw) (S : St) (x1 : Int32) (x2 : Int32)  {z : Int32 × St} (h : (M_set S x1 x2) = some z) : gMi l w y_M_set b_M_set 5 (some .int) (rmm 1 25) [.ref (gad w 49), .int x1, .int x2] S z.1 z.2 := by
  unfold M_set at h
  refine g_met (Qc := gQi w z.1 z.2) (by decide +kernel) (Nat.le_of_ble_eq_true rfl) ?_
  intro p e s m args below meth c A Q ls hQ C hG hl
  have hx := C.1
  have hb := C.2.1
  have hl : lv_has ls 5 [(0, .ref (gad w 49)), (1, .int x1), (2, .int x2)] := hl
  have J31 : ∀ (S : St) (x3 : Int32) (t0 : Int32), M_set_J31 S x1 x2 x3 t0 = some z → ∀ (ls : Array Slot) (H : Heap) (locs : List Loc), GH w s A S H locs → lv_has ls 5 [(0, .ref (gad w 49)), (1, .int x1), (2, .int x2), (3, .int x3)] → W p l e (rmm 1 25) s m args below meth c H locs 0 0 Q (F0 m 31 ls [.int t0]) := by
    intro S x3 t0 h ls H locs hG hl
    unfold M_set_J31 at h
    refine lv_istore (lv' := [(4, .int t0), (0, .ref (gad w 49)), (1, .int x1), (2, .int x2), (3, .int x3)]) hx hb d_M_set_31 hl (by decide) rfl (fun ls hl => ?_)
    refine lv_iload_n hx hb d_M_set_33 rfl (lv_at hl 2 rfl) ?_
    refine lv_i2l (v := x1.toInt64) hx hb d_M_set_34 rfl ?_
    refine lv_lconst (v := 0) hx hb d_M_set_35 (by decide) ?_
    refine lv_ldc2 (v := 2) hx hb C.2.2.2.1 (C.2.2.2.2.1 _ qw775) d_M_set_36 ?_
    refine g_goi hG (g_runS (As := [.long x1.toInt64, .long 0, .long 2]) (rest := []) C hG (c_M_in l w S x1.toInt64 0 2 _) sw_M_82 rfl rfl ⟨by decide, by decide⟩ rfl hl.1 rfl (Nat.le_of_ble_eq_true rfl) d_M_set_39 ⟨Nat.zero_le _, Nat.zero_le _⟩) (fun H locs hG => ?_)
    refine lv_if_eq (tgt := 70) hx hb d_M_set_42 (by decide) (fun hc => ?_) (fun hc => ?_)
    · replace h := it_t h hc
      refine lv_bipush (v := (-2)) hx hb d_M_set_70 (by decide) ?_
      exact g_iret C hG (sm_fst h) (sm_snd h) hQ d_M_set_72
    · replace h := it_f h hc
      refine lv_iload_n hx hb d_M_set_45 rfl (lv_at hl 3 rfl) ?_
      refine lv_i2l (v := x2.toInt64) hx hb d_M_set_46 rfl ?_
      refine lv_iload_n hx hb d_M_set_47 rfl (lv_at hl 4 rfl) ?_
      refine lv_i2l (v := x3.toInt64) hx hb d_M_set_48 rfl ?_
      refine lv_iload hx hb d_M_set_49 (lv_at hl 0 rfl) ?_
      refine lv_i2l (v := t0.toInt64) hx hb d_M_set_51 rfl ?_
      refine g_goi hG (g_runS (As := [.long x2.toInt64, .long x3.toInt64, .long t0.toInt64]) (rest := []) C hG (c_M_in l w S x2.toInt64 x3.toInt64 t0.toInt64 _) sw_M_82 rfl rfl ⟨by decide, by decide⟩ rfl hl.1 rfl (Nat.le_of_ble_eq_true rfl) d_M_set_52 ⟨Nat.zero_le _, Nat.zero_le _⟩) (fun H locs hG => ?_)
      refine lv_if_eq (tgt := 70) hx hb d_M_set_55 (by decide) (fun hc => ?_) (fun hc => ?_)
      · replace h := it_t h hc
        refine lv_bipush (v := (-2)) hx hb d_M_set_70 (by decide) ?_
        exact g_iret C hG (sm_fst h) (sm_snd h) hQ d_M_set_72
      · replace h := it_f h hc
        refine lv_aload_n hx hb d_M_set_58 rfl (lv_at hl 1 rfl) ?_
        refine g_get C hG (hG.lt (Nat.le_of_ble_eq_true rfl)) (ce49 w _) rfl inC8 16 (Nat.le_of_ble_eq_true rfl) qw692 rfl d_M_set_59 ?_
        refine lv_iload_n hx hb d_M_set_62 rfl (lv_at hl 2 rfl) ?_
        refine lv_iload_n hx hb d_M_set_63 rfl (lv_at hl 3 rfl) ?_
        obtain ⟨z1, hz1, h⟩ := bnd_some h
        refine g_goi hG (g_runS (As := [.ref (gad w 62), .int x1, .int x2]) (rest := []) C hG (c_M_tells l w S 62 3 x1 x2 ⟨(hG.lt (Nat.le_of_ble_eq_true rfl)), (ce62 w)⟩ hz1 _) sw_M_148 rfl rfl ⟨by decide, by decide⟩ rfl hl.1 rfl (Nat.le_of_ble_eq_true rfl) d_M_set_64 ⟨Nat.zero_le _, Nat.zero_le _⟩) (fun H locs hG => ?_)
        refine lv_goto (tgt := 72) hx hb d_M_set_67 (by decide) ?_
        exact g_iret C hG (sm_fst h) (sm_snd h) hQ d_M_set_72
  have J10 : ∀ (S : St) (t0 : Int32), M_set_J10 S x1 x2 t0 = some z → ∀ (ls : Array Slot) (H : Heap) (locs : List Loc), GH w s A S H locs → lv_has ls 5 [(0, .ref (gad w 49)), (1, .int x1), (2, .int x2)] → W p l e (rmm 1 25) s m args below meth c H locs 0 0 Q (F0 m 10 ls [.int t0]) := by
    intro S t0 h ls H locs hG hl
    unfold M_set_J10 at h
    refine lv_istore_n (lv' := [(3, .int t0), (0, .ref (gad w 49)), (1, .int x1), (2, .int x2)]) hx hb d_M_set_10 rfl hl (by decide) rfl (fun ls hl => ?_)
    refine lv_iload_n hx hb d_M_set_11 rfl (lv_at hl 2 rfl) ?_
    refine lv_if_ne (tgt := 20) hx hb d_M_set_12 (by decide) (fun hc => ?_) (fun hc => ?_)
    · replace h := it_f h hc
      refine lv_iload_n hx hb d_M_set_20 rfl (lv_at hl 2 rfl) ?_
      refine lv_iconst (v := 1) hx hb d_M_set_21 (by decide) ?_
      refine lv_icmp_ne (tgt := 29) hx hb d_M_set_22 (by decide) (fun hc => ?_) (fun hc => ?_)
      · replace h := it_f h hc
        refine lv_bipush (v := 10) hx hb d_M_set_29 (by decide) ?_
        exact J31 _ _ _ h ls _ _ hG (lv_sub hl [1, 2, 3, 0] rfl)
      · replace h := it_t h hc
        refine lv_iconst (v := 1) hx hb d_M_set_25 (by decide) ?_
        refine lv_goto (tgt := 31) hx hb d_M_set_26 (by decide) ?_
        exact J31 _ _ _ h ls _ _ hG (lv_sub hl [1, 2, 3, 0] rfl)
    · replace h := it_t h hc
      refine lv_bipush (v := 20) hx hb d_M_set_15 (by decide) ?_
      refine lv_goto (tgt := 31) hx hb d_M_set_17 (by decide) ?_
      exact J31 _ _ _ h ls _ _ hG (lv_sub hl [1, 2, 3, 0] rfl)
  refine lv_iload_n hx hb d_M_set_0 rfl (lv_at hl 1 rfl) ?_
  refine lv_iconst (v := 1) hx hb d_M_set_1 (by decide) ?_
  refine lv_icmp_ne (tgt := 9) hx hb d_M_set_2 (by decide) (fun hc => ?_) (fun hc => ?_)
  · replace h := it_f h hc
    refine lv_iconst (v := 1) hx hb d_M_set_9 (by decide) ?_
    exact J10 _ _ h ls _ _ hG (lv_sub hl [0, 1, 2] rfl)
  · replace h := it_t h hc
    refine lv_iconst (v := 0) hx hb d_M_set_5 (by decide) ?_
    refine lv_goto (tgt := 10) hx hb d_M_set_6 (by decide) ?_
    exact J10 _ _ h ls _ _ hG (lv_sub hl [0, 1, 2] rfl)
theorem d_M_busy_0 : decode b_M_busy 0 = .ok (.iload_n 1, 1) := by decide +kernel
theorem d_M_busy_1 : decode b_M_busy 1 = .ok (.invokestatic 140, 3) := by decide +kernel
theorem d_M_busy_4 : decode b_M_busy 4 = .ok (.ifCond .eq 17, 3) := by decide +kernel
theorem d_M_busy_7 : decode b_M_busy 7 = .ok (.iload_n 2, 1) := by decide +kernel
theorem d_M_busy_8 : decode b_M_busy 8 = .ok (.invokestatic 152, 3) := by decide +kernel
theorem d_M_busy_11 : decode b_M_busy 11 = .ok (.ifCond .eq 10, 3) := by decide +kernel
theorem d_M_busy_14 : decode b_M_busy 14 = .ok (.iload_n 3, 1) := by decide +kernel
theorem d_M_busy_15 : decode b_M_busy 15 = .ok (.invokestatic 143, 3) := by decide +kernel
theorem d_M_busy_18 : decode b_M_busy 18 = .ok (.ifCond .ne 6, 3) := by decide +kernel
theorem d_M_busy_21 : decode b_M_busy 21 = .ok (.bipush (-2), 2) := by decide +kernel
theorem d_M_busy_23 : decode b_M_busy 23 = .ok (.ireturn, 1) := by decide +kernel
theorem d_M_busy_24 : decode b_M_busy 24 = .ok (.aload_n 0, 1) := by decide +kernel
theorem d_M_busy_25 : decode b_M_busy 25 = .ok (.getfield 49, 3) := by decide +kernel
theorem d_M_busy_28 : decode b_M_busy 28 = .ok (.iload_n 1, 1) := by decide +kernel
theorem d_M_busy_29 : decode b_M_busy 29 = .ok (.iaload, 1) := by decide +kernel
theorem d_M_busy_30 : decode b_M_busy 30 = .ok (.iload_n 2, 1) := by decide +kernel
theorem d_M_busy_31 : decode b_M_busy 31 = .ok (.ishr, 1) := by decide +kernel
theorem d_M_busy_32 : decode b_M_busy 32 = .ok (.iconst 1, 1) := by decide +kernel
theorem d_M_busy_33 : decode b_M_busy 33 = .ok (.iand, 1) := by decide +kernel
theorem d_M_busy_34 : decode b_M_busy 34 = .ok (.istore 4, 2) := by decide +kernel
theorem d_M_busy_36 : decode b_M_busy 36 = .ok (.aload_n 0, 1) := by decide +kernel
theorem d_M_busy_37 : decode b_M_busy 37 = .ok (.getfield 49, 3) := by decide +kernel
theorem d_M_busy_40 : decode b_M_busy 40 = .ok (.iload_n 1, 1) := by decide +kernel
theorem d_M_busy_41 : decode b_M_busy 41 = .ok (.aload_n 0, 1) := by decide +kernel
theorem d_M_busy_42 : decode b_M_busy 42 = .ok (.getfield 49, 3) := by decide +kernel
theorem d_M_busy_45 : decode b_M_busy 45 = .ok (.iload_n 1, 1) := by decide +kernel
theorem d_M_busy_46 : decode b_M_busy 46 = .ok (.iaload, 1) := by decide +kernel
theorem d_M_busy_47 : decode b_M_busy 47 = .ok (.iconst 1, 1) := by decide +kernel
theorem d_M_busy_48 : decode b_M_busy 48 = .ok (.iload_n 2, 1) := by decide +kernel
theorem d_M_busy_49 : decode b_M_busy 49 = .ok (.ishl, 1) := by decide +kernel
theorem d_M_busy_50 : decode b_M_busy 50 = .ok (.iconst (-1), 1) := by decide +kernel
theorem d_M_busy_51 : decode b_M_busy 51 = .ok (.ixor, 1) := by decide +kernel
theorem d_M_busy_52 : decode b_M_busy 52 = .ok (.iand, 1) := by decide +kernel
theorem d_M_busy_53 : decode b_M_busy 53 = .ok (.iload_n 3, 1) := by decide +kernel
theorem d_M_busy_54 : decode b_M_busy 54 = .ok (.iload_n 2, 1) := by decide +kernel
theorem d_M_busy_55 : decode b_M_busy 55 = .ok (.ishl, 1) := by decide +kernel
theorem d_M_busy_56 : decode b_M_busy 56 = .ok (.ior, 1) := by decide +kernel
theorem d_M_busy_57 : decode b_M_busy 57 = .ok (.iastore, 1) := by decide +kernel
theorem d_M_busy_58 : decode b_M_busy 58 = .ok (.iload 4, 2) := by decide +kernel
theorem d_M_busy_60 : decode b_M_busy 60 = .ok (.ireturn, 1) := by decide +kernel
noncomputable def M_busy (S : St) (x1 : Int32) (x2 : Int32) (x3 : Int32) : Option (Int32 × St) :=
  if (M_isBidder x1) = 0 then
      some ((-2), S)
    else
      if (M_isEvening x2) = 0 then
        some ((-2), S)
      else
        if (M_isTwo x3) = 0 then
          some ((-2), S)
        else
          chk (inb x1 5) <|
          chk (inb x1 5) <|
          chk (inb x1 5) <|
          some (((S 63 (ix x1)) >>> (x2 &&& 31)) &&& 1, up S 63 (ix x1) (((S 63 (ix x1)) &&& (((1 : Int32) <<< (x2 &&& 31)) ^^^ (-1))) ||| (x3 <<< (x2 &&& 31))))
set_option maxHeartbeats 4000000 in
set_option maxRecDepth 100000 in
theorem c_M_busy (l : Launch) (w : gw) (S : St) (x1 : Int32) (x2 : Int32) (x3 : Int32)  {z : Int32 × St} (h : (M_busy S x1 x2 x3) = some z) : gMi l w y_M_busy b_M_busy 5 (some .int) (rmm 2 45) [.ref (gad w 49), .int x1, .int x2, .int x3] S z.1 z.2 := by
  unfold M_busy at h
  refine g_met (Qc := gQi w z.1 z.2) (by decide +kernel) (Nat.le_of_ble_eq_true rfl) ?_
  intro p e s m args below meth c A Q ls hQ C hG hl
  have hx := C.1
  have hb := C.2.1
  have hl : lv_has ls 5 [(0, .ref (gad w 49)), (1, .int x1), (2, .int x2), (3, .int x3)] := hl
  refine lv_iload_n hx hb d_M_busy_0 rfl (lv_at hl 1 rfl) ?_
  refine g_goi hG (g_runS (As := [.int x1]) (rest := []) C hG (c_M_isBidder l w S x1 _) sw_M_140 rfl rfl ⟨by decide, by decide⟩ rfl hl.1 rfl (Nat.le_of_ble_eq_true rfl) d_M_busy_1 ⟨Nat.zero_le _, Nat.zero_le _⟩) (fun H locs hG => ?_)
  refine lv_if_eq (tgt := 21) hx hb d_M_busy_4 (by decide) (fun hc => ?_) (fun hc => ?_)
  · replace h := it_t h hc
    refine lv_bipush (v := (-2)) hx hb d_M_busy_21 (by decide) ?_
    exact g_iret C hG (sm_fst h) (sm_snd h) hQ d_M_busy_23
  · replace h := it_f h hc
    refine lv_iload_n hx hb d_M_busy_7 rfl (lv_at hl 2 rfl) ?_
    refine g_goi hG (g_runS (As := [.int x2]) (rest := []) C hG (c_M_isEvening l w S x2 _) sw_M_152 rfl rfl ⟨by decide, by decide⟩ rfl hl.1 rfl (Nat.le_of_ble_eq_true rfl) d_M_busy_8 ⟨Nat.zero_le _, Nat.zero_le _⟩) (fun H locs hG => ?_)
    refine lv_if_eq (tgt := 21) hx hb d_M_busy_11 (by decide) (fun hc => ?_) (fun hc => ?_)
    · replace h := it_t h hc
      refine lv_bipush (v := (-2)) hx hb d_M_busy_21 (by decide) ?_
      exact g_iret C hG (sm_fst h) (sm_snd h) hQ d_M_busy_23
    · replace h := it_f h hc
      refine lv_iload_n hx hb d_M_busy_14 rfl (lv_at hl 3 rfl) ?_
      refine g_goi hG (g_runS (As := [.int x3]) (rest := []) C hG (c_M_isTwo l w S x3 _) sw_M_143 rfl rfl ⟨by decide, by decide⟩ rfl hl.1 rfl (Nat.le_of_ble_eq_true rfl) d_M_busy_15 ⟨Nat.zero_le _, Nat.zero_le _⟩) (fun H locs hG => ?_)
      refine lv_if_ne (tgt := 24) hx hb d_M_busy_18 (by decide) (fun hc => ?_) (fun hc => ?_)
      · replace h := it_f h hc
        refine lv_aload_n hx hb d_M_busy_24 rfl (lv_at hl 0 rfl) ?_
        refine g_get C hG (hG.lt (Nat.le_of_ble_eq_true rfl)) (ce49 w _) rfl inC8 17 (Nat.le_of_ble_eq_true rfl) qw693 rfl d_M_busy_25 ?_
        refine lv_iload_n hx hb d_M_busy_28 rfl (lv_at hl 1 rfl) ?_
        obtain ⟨hi1, h⟩ := chk_some h
        refine g_iald (j := ix x1) C hG (hG.lt (Nat.le_of_ble_eq_true rfl)) (ce63 w _) (inb_in hi1) rfl d_M_busy_29 ?_
        refine lv_iload_n hx hb d_M_busy_30 rfl (lv_at hl 2 rfl) ?_
        refine lv_ishr hx hb d_M_busy_31 ?_
        refine lv_iconst (v := 1) hx hb d_M_busy_32 (by decide) ?_
        refine lv_iand hx hb d_M_busy_33 ?_
        refine lv_istore (lv' := [(4, .int (((S 63 (ix x1)) >>> (x2 &&& 31)) &&& 1)), (0, .ref (gad w 49)), (1, .int x1), (2, .int x2), (3, .int x3)]) hx hb d_M_busy_34 hl (by decide) rfl (fun ls hl => ?_)
        refine lv_aload_n hx hb d_M_busy_36 rfl (lv_at hl 1 rfl) ?_
        refine g_get C hG (hG.lt (Nat.le_of_ble_eq_true rfl)) (ce49 w _) rfl inC8 17 (Nat.le_of_ble_eq_true rfl) qw693 rfl d_M_busy_37 ?_
        refine lv_iload_n hx hb d_M_busy_40 rfl (lv_at hl 2 rfl) ?_
        refine lv_aload_n hx hb d_M_busy_41 rfl (lv_at hl 1 rfl) ?_
        refine g_get C hG (hG.lt (Nat.le_of_ble_eq_true rfl)) (ce49 w _) rfl inC8 17 (Nat.le_of_ble_eq_true rfl) qw693 rfl d_M_busy_42 ?_
        refine lv_iload_n hx hb d_M_busy_45 rfl (lv_at hl 2 rfl) ?_
        obtain ⟨hi2, h⟩ := chk_some h
        refine g_iald (j := ix x1) C hG (hG.lt (Nat.le_of_ble_eq_true rfl)) (ce63 w _) (inb_in hi2) rfl d_M_busy_46 ?_
        refine lv_iconst (v := 1) hx hb d_M_busy_47 (by decide) ?_
        refine lv_iload_n hx hb d_M_busy_48 rfl (lv_at hl 3 rfl) ?_
        refine lv_ishl hx hb d_M_busy_49 ?_
        refine lv_iconst (v := (-1)) hx hb d_M_busy_50 (by decide) ?_
        refine lv_ixor hx hb d_M_busy_51 ?_
        refine lv_iand hx hb d_M_busy_52 ?_
        refine lv_iload_n hx hb d_M_busy_53 rfl (lv_at hl 4 rfl) ?_
        refine lv_iload_n hx hb d_M_busy_54 rfl (lv_at hl 3 rfl) ?_
        refine lv_ishl hx hb d_M_busy_55 ?_
        refine lv_ior hx hb d_M_busy_56 ?_
        obtain ⟨hi3, h⟩ := chk_some h
        refine g_iast (j := ix x1) (x := ((S 63 (ix x1)) &&& (((1 : Int32) <<< (x2 &&& 31)) ^^^ (-1))) ||| (x3 <<< (x2 &&& 31))) C hG (hG.lt (Nat.le_of_ble_eq_true rfl)) (ce63 w) (inb_in hi3) rfl d_M_busy_57 (fun H locs hG => ?_)
        refine lv_iload hx hb d_M_busy_58 (lv_at hl 0 rfl) ?_
        exact g_iret C hG (sm_fst h) (sm_snd h) hQ d_M_busy_60
      · replace h := it_t h hc
        refine lv_bipush (v := (-2)) hx hb d_M_busy_21 (by decide) ?_
        exact g_iret C hG (sm_fst h) (sm_snd h) hQ d_M_busy_23
theorem d_M_read_0 : decode b_M_read 0 = .ok (.iload_n 1, 1) := by decide +kernel
theorem d_M_read_1 : decode b_M_read 1 = .ok (.invokestatic 92, 3) := by decide +kernel
theorem d_M_read_4 : decode b_M_read 4 = .ok (.ifCond .eq 10, 3) := by decide +kernel
theorem d_M_read_7 : decode b_M_read 7 = .ok (.iload_n 2, 1) := by decide +kernel
theorem d_M_read_8 : decode b_M_read 8 = .ok (.invokestatic 140, 3) := by decide +kernel
theorem d_M_read_11 : decode b_M_read 11 = .ok (.ifCond .ne 6, 3) := by decide +kernel
theorem d_M_read_14 : decode b_M_read 14 = .ok (.bipush (-2), 2) := by decide +kernel
theorem d_M_read_16 : decode b_M_read 16 = .ok (.ireturn, 1) := by decide +kernel
theorem d_M_read_17 : decode b_M_read 17 = .ok (.aload_n 0, 1) := by decide +kernel
theorem d_M_read_18 : decode b_M_read 18 = .ok (.getfield 7, 3) := by decide +kernel
theorem d_M_read_21 : decode b_M_read 21 = .ok (.iload_n 1, 1) := by decide +kernel
theorem d_M_read_22 : decode b_M_read 22 = .ok (.iaload, 1) := by decide +kernel
theorem d_M_read_23 : decode b_M_read 23 = .ok (.ifCond .ge 9, 3) := by decide +kernel
theorem d_M_read_26 : decode b_M_read 26 = .ok (.aload_n 0, 1) := by decide +kernel
theorem d_M_read_27 : decode b_M_read 27 = .ok (.iconst 1, 1) := by decide +kernel
theorem d_M_read_28 : decode b_M_read 28 = .ok (.invokevirtual 98, 3) := by decide +kernel
theorem d_M_read_31 : decode b_M_read 31 = .ok (.ireturn, 1) := by decide +kernel
theorem d_M_read_32 : decode b_M_read 32 = .ok (.iconst 0, 1) := by decide +kernel
theorem d_M_read_33 : decode b_M_read 33 = .ok (.istore_n 3, 1) := by decide +kernel
theorem d_M_read_34 : decode b_M_read 34 = .ok (.iload_n 3, 1) := by decide +kernel
theorem d_M_read_35 : decode b_M_read 35 = .ok (.aload_n 0, 1) := by decide +kernel
theorem d_M_read_36 : decode b_M_read 36 = .ok (.getfield 13, 3) := by decide +kernel
theorem d_M_read_39 : decode b_M_read 39 = .ok (.iload_n 1, 1) := by decide +kernel
theorem d_M_read_40 : decode b_M_read 40 = .ok (.iaload, 1) := by decide +kernel
theorem d_M_read_41 : decode b_M_read 41 = .ok (.if_icmp .ge 29, 3) := by decide +kernel
theorem d_M_read_44 : decode b_M_read 44 = .ok (.aload_n 0, 1) := by decide +kernel
theorem d_M_read_45 : decode b_M_read 45 = .ok (.iload_n 2, 1) := by decide +kernel
theorem d_M_read_46 : decode b_M_read 46 = .ok (.iload_n 3, 1) := by decide +kernel
theorem d_M_read_47 : decode b_M_read 47 = .ok (.aload_n 0, 1) := by decide +kernel
theorem d_M_read_48 : decode b_M_read 48 = .ok (.getfield 16, 3) := by decide +kernel
theorem d_M_read_51 : decode b_M_read 51 = .ok (.bipush 60, 2) := by decide +kernel
theorem d_M_read_53 : decode b_M_read 53 = .ok (.iload_n 1, 1) := by decide +kernel
theorem d_M_read_54 : decode b_M_read 54 = .ok (.imul, 1) := by decide +kernel
theorem d_M_read_55 : decode b_M_read 55 = .ok (.iload_n 3, 1) := by decide +kernel
theorem d_M_read_56 : decode b_M_read 56 = .ok (.iadd, 1) := by decide +kernel
theorem d_M_read_57 : decode b_M_read 57 = .ok (.iaload, 1) := by decide +kernel
theorem d_M_read_58 : decode b_M_read 58 = .ok (.invokevirtual 159, 3) := by decide +kernel
theorem d_M_read_61 : decode b_M_read 61 = .ok (.ifCond .lt 9, 3) := by decide +kernel
theorem d_M_read_64 : decode b_M_read 64 = .ok (.iinc 3 1, 3) := by decide +kernel
theorem d_M_read_67 : decode b_M_read 67 = .ok (.goto (-33), 3) := by decide +kernel
theorem d_M_read_70 : decode b_M_read 70 = .ok (.iload_n 3, 1) := by decide +kernel
theorem d_M_read_71 : decode b_M_read 71 = .ok (.ireturn, 1) := by decide +kernel
noncomputable def M_read_L34 (S : St) (x1 : Int32) (x2 : Int32) (x3 : Int32) : Option ((Int32 × St) × Nat) :=
  chk (inb x1 4) <|
    if (S 51 (ix x1)) ≤ x3 then
      some ((x3, S), 1)
    else
      chk (inb ((60 * x1) + x3) 240) <|
      bnd (M_value S x2 x3 (S 52 (ix ((60 * x1) + x3)))) fun z1 =>
      if z1.1 < 0 then
        some ((x3, z1.2), 1)
      else
        some ((x3 + 1, z1.2), 0)
noncomputable def M_read_J70 (S : St) (x3 : Int32) : Option (Int32 × St) :=
  some (x3, S)
noncomputable def M_read (S : St) (x1 : Int32) (x2 : Int32) : Option (Int32 × St) :=
  if (M_isSheet x1) = 0 then
      some ((-2), S)
    else
      if (M_isBidder x2) = 0 then
        some ((-2), S)
      else
        chk (inb x1 4) <|
        if 0 ≤ (S 50 (ix x1)) then
          bnd (lp (σ := Int32 × St) (fun q => M_read_L34 q.2 x1 x2 q.1) FZ (0, S)) fun z2 =>
          M_read_J70 z2.1.2 z2.1.1
        else
          bnd (M_met S 1) fun z3 =>
          some (z3.1, z3.2)
set_option maxHeartbeats 4000000 in
set_option maxRecDepth 100000 in
theorem L_M_read_34 (C : gCx p s m args meth c y_M_read.cls b_M_read 4 (some .int)) : ∀ (x1 : Int32) (x2 : Int32) (n : Nat) (x3 : Int32) (S : St) (r : (Int32 × St) × Nat), lp (σ := Int32 × St) (fun q => M_read_L34 q.2 x1 x2 q.1) n (x3, S) = some r → (∀ (y3 : Int32) (Sy : St), r = ((y3, Sy), 1) → ∀ (ls : Array Slot) (H : Heap) (locs : List Loc), GH w s A Sy H locs → lv_has ls 4 [(3, .int y3)] → W p l e (rmm 3 68) s m args below meth c H locs 0 0 Q (F0 m 70 ls [])) → ∀ (ls : Array Slot) (H : Heap) (locs : List Loc), GH w s A S H locs → lv_has ls 4 [(0, .ref (gad w 49)), (1, .int x1), (2, .int x2), (3, .int x3)] → W p l e (rmm 3 68) s m args below meth c H locs 0 0 Q (F0 m 34 ls []) := by
  have hx := C.1
  have hb := C.2.1
  intro x1 x2 n
  induction n with
  | zero => intro x3 S r h; cases h
  | succ n ih =>
    intro x3 S r h k1 ls H locs hG hl
    obtain ⟨z, h, hr⟩ := lp_succ h
    have h : M_read_L34 S x1 x2 x3 = some z := h
    unfold M_read_L34 at h
    refine lv_iload_n hx hb d_M_read_34 rfl (lv_at hl 3 rfl) ?_
    refine lv_aload_n hx hb d_M_read_35 rfl (lv_at hl 0 rfl) ?_
    refine g_get C hG (hG.lt (Nat.le_of_ble_eq_true rfl)) (ce49 w _) rfl inC8 1 (Nat.le_of_ble_eq_true rfl) qw677 rfl d_M_read_36 ?_
    refine lv_iload_n hx hb d_M_read_39 rfl (lv_at hl 1 rfl) ?_
    obtain ⟨hi1, h⟩ := chk_some h
    refine g_iald (j := ix x1) C hG (hG.lt (Nat.le_of_ble_eq_true rfl)) (ce51 w _) (inb_in hi1) rfl d_M_read_40 ?_
    refine lv_icmp_ge (tgt := 70) hx hb d_M_read_41 (by decide) (fun hc => ?_) (fun hc => ?_)
    · replace h := it_t h hc
      exact k1 _ _ (lp_exit h hr) ls _ _ hG (lv_sub hl [3] rfl)
    · replace h := it_f h hc
      refine lv_aload_n hx hb d_M_read_44 rfl (lv_at hl 0 rfl) ?_
      refine lv_iload_n hx hb d_M_read_45 rfl (lv_at hl 2 rfl) ?_
      refine lv_iload_n hx hb d_M_read_46 rfl (lv_at hl 3 rfl) ?_
      refine lv_aload_n hx hb d_M_read_47 rfl (lv_at hl 0 rfl) ?_
      refine g_get C hG (hG.lt (Nat.le_of_ble_eq_true rfl)) (ce49 w _) rfl inC8 2 (Nat.le_of_ble_eq_true rfl) qw678 rfl d_M_read_48 ?_
      refine lv_bipush (v := 60) hx hb d_M_read_51 (by decide) ?_
      refine lv_iload_n hx hb d_M_read_53 rfl (lv_at hl 1 rfl) ?_
      refine lv_imul hx hb d_M_read_54 ?_
      refine lv_iload_n hx hb d_M_read_55 rfl (lv_at hl 3 rfl) ?_
      refine lv_iadd hx hb d_M_read_56 ?_
      obtain ⟨hi2, h⟩ := chk_some h
      refine g_iald (j := ix ((60 * x1) + x3)) C hG (hG.lt (Nat.le_of_ble_eq_true rfl)) (ce52 w _) (inb_in hi2) rfl d_M_read_57 ?_
      obtain ⟨z1, hz1, h⟩ := bnd_some h
      refine g_goi hG (g_runV (As := [.int x2, .int x3, .int (S 52 (ix ((60 * x1) + x3)))]) (rest := []) C hG (c_M_value l w S x2 x3 (S 52 (ix ((60 * x1) + x3))) hz1 _) (hG.lt (Nat.le_of_ble_eq_true rfl)) (ce49 w _) rfl vw_M_159 rfl rfl ⟨by decide, by decide⟩ rfl hl.1 rfl (Nat.le_of_ble_eq_true rfl) d_M_read_58 ⟨Nat.zero_le _, Nat.zero_le _⟩) (fun H locs hG => ?_)
      refine lv_if_lt (tgt := 70) hx hb d_M_read_61 (by decide) (fun hc => ?_) (fun hc => ?_)
      · replace h := it_t h hc
        exact k1 _ _ (lp_exit h hr) ls _ _ hG (lv_sub hl [3] rfl)
      · replace h := it_f h hc
        refine lv_iinc (v := x3 + 1) (lv' := [(3, .int (x3 + 1)), (0, .ref (gad w 49)), (1, .int x1), (2, .int x2)]) hx hb d_M_read_64 hl (k := 3) rfl (congrArg (HAdd.hAdd x3) (by decide : Int32.ofInt 1 = 1)) (by decide) rfl (fun ls hl => ?_)
        refine lv_goto (tgt := 34) hx hb d_M_read_67 (by decide) ?_
        exact ih _ _ _ (lp_back h hr) k1 ls _ _ hG (lv_sub hl [1, 2, 3, 0] rfl)
set_option maxHeartbeats 4000000 in
set_option maxRecDepth 100000 in
theorem c_M_read (l : Launch) (w : gw) (S : St) (x1 : Int32) (x2 : Int32)  {z : Int32 × St} (h : (M_read S x1 x2) = some z) : gMi l w y_M_read b_M_read 4 (some .int) (rmm 3 68) [.ref (gad w 49), .int x1, .int x2] S z.1 z.2 := by
  unfold M_read at h
  refine g_met (Qc := gQi w z.1 z.2) (by decide +kernel) (Nat.le_of_ble_eq_true rfl) ?_
  intro p e s m args below meth c A Q ls hQ C hG hl
  have hx := C.1
  have hb := C.2.1
  have hl : lv_has ls 4 [(0, .ref (gad w 49)), (1, .int x1), (2, .int x2)] := hl
  have J70 : ∀ (S : St) (x3 : Int32), M_read_J70 S x3 = some z → ∀ (ls : Array Slot) (H : Heap) (locs : List Loc), GH w s A S H locs → lv_has ls 4 [(3, .int x3)] → W p l e (rmm 3 68) s m args below meth c H locs 0 0 Q (F0 m 70 ls []) := by
    intro S x3 h ls H locs hG hl
    unfold M_read_J70 at h
    refine lv_iload_n hx hb d_M_read_70 rfl (lv_at hl 0 rfl) ?_
    exact g_iret C hG (sm_fst h) (sm_snd h) hQ d_M_read_71
  refine lv_iload_n hx hb d_M_read_0 rfl (lv_at hl 1 rfl) ?_
  refine g_goi hG (g_runS (As := [.int x1]) (rest := []) C hG (c_M_isSheet l w S x1 _) sw_M_92 rfl rfl ⟨by decide, by decide⟩ rfl hl.1 rfl (Nat.le_of_ble_eq_true rfl) d_M_read_1 ⟨Nat.zero_le _, Nat.zero_le _⟩) (fun H locs hG => ?_)
  refine lv_if_eq (tgt := 14) hx hb d_M_read_4 (by decide) (fun hc => ?_) (fun hc => ?_)
  · replace h := it_t h hc
    refine lv_bipush (v := (-2)) hx hb d_M_read_14 (by decide) ?_
    exact g_iret C hG (sm_fst h) (sm_snd h) hQ d_M_read_16
  · replace h := it_f h hc
    refine lv_iload_n hx hb d_M_read_7 rfl (lv_at hl 2 rfl) ?_
    refine g_goi hG (g_runS (As := [.int x2]) (rest := []) C hG (c_M_isBidder l w S x2 _) sw_M_140 rfl rfl ⟨by decide, by decide⟩ rfl hl.1 rfl (Nat.le_of_ble_eq_true rfl) d_M_read_8 ⟨Nat.zero_le _, Nat.zero_le _⟩) (fun H locs hG => ?_)
    refine lv_if_ne (tgt := 17) hx hb d_M_read_11 (by decide) (fun hc => ?_) (fun hc => ?_)
    · replace h := it_f h hc
      refine lv_aload_n hx hb d_M_read_17 rfl (lv_at hl 0 rfl) ?_
      refine g_get C hG (hG.lt (Nat.le_of_ble_eq_true rfl)) (ce49 w _) rfl inC8 0 (Nat.le_of_ble_eq_true rfl) qw676 rfl d_M_read_18 ?_
      refine lv_iload_n hx hb d_M_read_21 rfl (lv_at hl 1 rfl) ?_
      obtain ⟨hi3, h⟩ := chk_some h
      refine g_iald (j := ix x1) C hG (hG.lt (Nat.le_of_ble_eq_true rfl)) (ce50 w _) (inb_in hi3) rfl d_M_read_22 ?_
      refine lv_if_ge (tgt := 32) hx hb d_M_read_23 (by decide) (fun hc => ?_) (fun hc => ?_)
      · replace h := it_t h hc
        refine lv_iconst (v := 0) hx hb d_M_read_32 (by decide) ?_
        refine lv_istore_n (lv' := [(3, .int 0), (0, .ref (gad w 49)), (1, .int x1), (2, .int x2)]) hx hb d_M_read_33 rfl hl (by decide) rfl (fun ls hl => ?_)
        obtain ⟨z2, hz2, h⟩ := bnd_some h
        refine L_M_read_34 C _ _ FZ _ _ _ hz2 ?_ ls _ _ hG (lv_sub hl [1, 2, 3, 0] rfl)
        intro y3 Sy e9 ls H locs hG hl
        subst e9
        exact J70 _ _ h ls _ _ hG (lv_sub hl [0] rfl)
      · replace h := it_f h hc
        refine lv_aload_n hx hb d_M_read_26 rfl (lv_at hl 0 rfl) ?_
        refine lv_iconst (v := 1) hx hb d_M_read_27 (by decide) ?_
        obtain ⟨z3, hz3, h⟩ := bnd_some h
        refine g_goi hG (g_runV (As := [.int 1]) (rest := []) C hG (c_M_met l w S 1 hz3 _) (hG.lt (Nat.le_of_ble_eq_true rfl)) (ce49 w _) rfl vw_M_98 rfl rfl ⟨by decide, by decide⟩ rfl hl.1 rfl (Nat.le_of_ble_eq_true rfl) d_M_read_28 ⟨Nat.zero_le _, Nat.zero_le _⟩) (fun H locs hG => ?_)
        exact g_iret C hG (sm_fst h) (sm_snd h) hQ d_M_read_31
    · replace h := it_t h hc
      refine lv_bipush (v := (-2)) hx hb d_M_read_14 (by decide) ?_
      exact g_iret C hG (sm_fst h) (sm_snd h) hQ d_M_read_16
theorem d_M_ownerOf_0 : decode b_M_ownerOf 0 = .ok (.aload_n 0, 1) := by decide +kernel
theorem d_M_ownerOf_1 : decode b_M_ownerOf 1 = .ok (.getfield 52, 3) := by decide +kernel
theorem d_M_ownerOf_4 : decode b_M_ownerOf 4 = .ok (.iload_n 1, 1) := by decide +kernel
theorem d_M_ownerOf_5 : decode b_M_ownerOf 5 = .ok (.iaload, 1) := by decide +kernel
theorem d_M_ownerOf_6 : decode b_M_ownerOf 6 = .ok (.iconst (-1), 1) := by decide +kernel
theorem d_M_ownerOf_7 : decode b_M_ownerOf 7 = .ok (.if_icmp .ne 7, 3) := by decide +kernel
theorem d_M_ownerOf_10 : decode b_M_ownerOf 10 = .ok (.iconst (-1), 1) := by decide +kernel
theorem d_M_ownerOf_11 : decode b_M_ownerOf 11 = .ok (.goto 18, 3) := by decide +kernel
theorem d_M_ownerOf_14 : decode b_M_ownerOf 14 = .ok (.aload_n 0, 1) := by decide +kernel
theorem d_M_ownerOf_15 : decode b_M_ownerOf 15 = .ok (.getfield 25, 3) := by decide +kernel
theorem d_M_ownerOf_18 : decode b_M_ownerOf 18 = .ok (.iconst 3, 1) := by decide +kernel
theorem d_M_ownerOf_19 : decode b_M_ownerOf 19 = .ok (.aload_n 0, 1) := by decide +kernel
theorem d_M_ownerOf_20 : decode b_M_ownerOf 20 = .ok (.getfield 52, 3) := by decide +kernel
theorem d_M_ownerOf_23 : decode b_M_ownerOf 23 = .ok (.iload_n 1, 1) := by decide +kernel
theorem d_M_ownerOf_24 : decode b_M_ownerOf 24 = .ok (.iaload, 1) := by decide +kernel
theorem d_M_ownerOf_25 : decode b_M_ownerOf 25 = .ok (.imul, 1) := by decide +kernel
theorem d_M_ownerOf_26 : decode b_M_ownerOf 26 = .ok (.iconst 1, 1) := by decide +kernel
theorem d_M_ownerOf_27 : decode b_M_ownerOf 27 = .ok (.iadd, 1) := by decide +kernel
theorem d_M_ownerOf_28 : decode b_M_ownerOf 28 = .ok (.iaload, 1) := by decide +kernel
theorem d_M_ownerOf_29 : decode b_M_ownerOf 29 = .ok (.ireturn, 1) := by decide +kernel
noncomputable def M_ownerOf (S : St) (x1 : Int32) : Option (Int32) :=
  chk (inb x1 10) <|
    if (S 64 (ix x1)) = (-1) then
      some (-1)
    else
      chk (inb x1 10) <|
      chk (inb ((3 * (S 64 (ix x1))) + 1) 60) <|
      some (S 55 (ix ((3 * (S 64 (ix x1))) + 1)))
set_option maxHeartbeats 4000000 in
set_option maxRecDepth 100000 in
theorem c_M_ownerOf (l : Launch) (w : gw) (S : St) (x1 : Int32)  {z : Int32} (h : (M_ownerOf S x1) = some z) : gMi l w y_M_ownerOf b_M_ownerOf 2 (some .int) (rmm 0 0) [.ref (gad w 49), .int x1] S z S := by
  unfold M_ownerOf at h
  refine g_met (Qc := gQi w z S) (by decide +kernel) (Nat.le_of_ble_eq_true rfl) ?_
  intro p e s m args below meth c A Q ls hQ C hG hl
  have hx := C.1
  have hb := C.2.1
  have hl : lv_has ls 2 [(0, .ref (gad w 49)), (1, .int x1)] := hl
  refine lv_aload_n hx hb d_M_ownerOf_0 rfl (lv_at hl 0 rfl) ?_
  refine g_get C hG (hG.lt (Nat.le_of_ble_eq_true rfl)) (ce49 w _) rfl inC8 18 (Nat.le_of_ble_eq_true rfl) qw694 rfl d_M_ownerOf_1 ?_
  refine lv_iload_n hx hb d_M_ownerOf_4 rfl (lv_at hl 1 rfl) ?_
  obtain ⟨hi1, h⟩ := chk_some h
  refine g_iald (j := ix x1) C hG (hG.lt (Nat.le_of_ble_eq_true rfl)) (ce64 w _) (inb_in hi1) rfl d_M_ownerOf_5 ?_
  refine lv_iconst (v := (-1)) hx hb d_M_ownerOf_6 (by decide) ?_
  refine lv_icmp_ne (tgt := 14) hx hb d_M_ownerOf_7 (by decide) (fun hc => ?_) (fun hc => ?_)
  · replace h := it_f h hc
    refine lv_aload_n hx hb d_M_ownerOf_14 rfl (lv_at hl 0 rfl) ?_
    refine g_get C hG (hG.lt (Nat.le_of_ble_eq_true rfl)) (ce49 w _) rfl inC8 9 (Nat.le_of_ble_eq_true rfl) qw685 rfl d_M_ownerOf_15 ?_
    refine lv_iconst (v := 3) hx hb d_M_ownerOf_18 (by decide) ?_
    refine lv_aload_n hx hb d_M_ownerOf_19 rfl (lv_at hl 0 rfl) ?_
    refine g_get C hG (hG.lt (Nat.le_of_ble_eq_true rfl)) (ce49 w _) rfl inC8 18 (Nat.le_of_ble_eq_true rfl) qw694 rfl d_M_ownerOf_20 ?_
    refine lv_iload_n hx hb d_M_ownerOf_23 rfl (lv_at hl 1 rfl) ?_
    obtain ⟨hi2, h⟩ := chk_some h
    refine g_iald (j := ix x1) C hG (hG.lt (Nat.le_of_ble_eq_true rfl)) (ce64 w _) (inb_in hi2) rfl d_M_ownerOf_24 ?_
    refine lv_imul hx hb d_M_ownerOf_25 ?_
    refine lv_iconst (v := 1) hx hb d_M_ownerOf_26 (by decide) ?_
    refine lv_iadd hx hb d_M_ownerOf_27 ?_
    obtain ⟨hi3, h⟩ := chk_some h
    refine g_iald (j := ix ((3 * (S 64 (ix x1))) + 1)) C hG (hG.lt (Nat.le_of_ble_eq_true rfl)) (ce55 w _) (inb_in hi3) rfl d_M_ownerOf_28 ?_
    exact g_iret C hG (Option.some.inj h) rfl hQ d_M_ownerOf_29
  · replace h := it_t h hc
    refine lv_iconst (v := (-1)) hx hb d_M_ownerOf_10 (by decide) ?_
    refine lv_goto (tgt := 29) hx hb d_M_ownerOf_11 (by decide) ?_
    exact g_iret C hG (Option.some.inj h) rfl hQ d_M_ownerOf_29
theorem d_M_amountOf_0 : decode b_M_amountOf 0 = .ok (.aload_n 0, 1) := by decide +kernel
theorem d_M_amountOf_1 : decode b_M_amountOf 1 = .ok (.getfield 52, 3) := by decide +kernel
theorem d_M_amountOf_4 : decode b_M_amountOf 4 = .ok (.iload_n 1, 1) := by decide +kernel
theorem d_M_amountOf_5 : decode b_M_amountOf 5 = .ok (.iaload, 1) := by decide +kernel
theorem d_M_amountOf_6 : decode b_M_amountOf 6 = .ok (.iconst (-1), 1) := by decide +kernel
theorem d_M_amountOf_7 : decode b_M_amountOf 7 = .ok (.if_icmp .ne 7, 3) := by decide +kernel
theorem d_M_amountOf_10 : decode b_M_amountOf 10 = .ok (.iconst 0, 1) := by decide +kernel
theorem d_M_amountOf_11 : decode b_M_amountOf 11 = .ok (.goto 18, 3) := by decide +kernel
theorem d_M_amountOf_14 : decode b_M_amountOf 14 = .ok (.aload_n 0, 1) := by decide +kernel
theorem d_M_amountOf_15 : decode b_M_amountOf 15 = .ok (.getfield 25, 3) := by decide +kernel
theorem d_M_amountOf_18 : decode b_M_amountOf 18 = .ok (.iconst 3, 1) := by decide +kernel
theorem d_M_amountOf_19 : decode b_M_amountOf 19 = .ok (.aload_n 0, 1) := by decide +kernel
theorem d_M_amountOf_20 : decode b_M_amountOf 20 = .ok (.getfield 52, 3) := by decide +kernel
theorem d_M_amountOf_23 : decode b_M_amountOf 23 = .ok (.iload_n 1, 1) := by decide +kernel
theorem d_M_amountOf_24 : decode b_M_amountOf 24 = .ok (.iaload, 1) := by decide +kernel
theorem d_M_amountOf_25 : decode b_M_amountOf 25 = .ok (.imul, 1) := by decide +kernel
theorem d_M_amountOf_26 : decode b_M_amountOf 26 = .ok (.iconst 2, 1) := by decide +kernel
theorem d_M_amountOf_27 : decode b_M_amountOf 27 = .ok (.iadd, 1) := by decide +kernel
theorem d_M_amountOf_28 : decode b_M_amountOf 28 = .ok (.iaload, 1) := by decide +kernel
theorem d_M_amountOf_29 : decode b_M_amountOf 29 = .ok (.ireturn, 1) := by decide +kernel
noncomputable def M_amountOf (S : St) (x1 : Int32) : Option (Int32) :=
  chk (inb x1 10) <|
    if (S 64 (ix x1)) = (-1) then
      some 0
    else
      chk (inb x1 10) <|
      chk (inb ((3 * (S 64 (ix x1))) + 2) 60) <|
      some (S 55 (ix ((3 * (S 64 (ix x1))) + 2)))
set_option maxHeartbeats 4000000 in
set_option maxRecDepth 100000 in
theorem c_M_amountOf (l : Launch) (w : gw) (S : St) (x1 : Int32)  {z : Int32} (h : (M_amountOf S x1) = some z) : gMi l w y_M_amountOf b_M_amountOf 2 (some .int) (rmm 0 0) [.ref (gad w 49), .int x1] S z S := by
  unfold M_amountOf at h
  refine g_met (Qc := gQi w z S) (by decide +kernel) (Nat.le_of_ble_eq_true rfl) ?_
  intro p e s m args below meth c A Q ls hQ C hG hl
  have hx := C.1
  have hb := C.2.1
  have hl : lv_has ls 2 [(0, .ref (gad w 49)), (1, .int x1)] := hl
  refine lv_aload_n hx hb d_M_amountOf_0 rfl (lv_at hl 0 rfl) ?_
  refine g_get C hG (hG.lt (Nat.le_of_ble_eq_true rfl)) (ce49 w _) rfl inC8 18 (Nat.le_of_ble_eq_true rfl) qw694 rfl d_M_amountOf_1 ?_
  refine lv_iload_n hx hb d_M_amountOf_4 rfl (lv_at hl 1 rfl) ?_
  obtain ⟨hi1, h⟩ := chk_some h
  refine g_iald (j := ix x1) C hG (hG.lt (Nat.le_of_ble_eq_true rfl)) (ce64 w _) (inb_in hi1) rfl d_M_amountOf_5 ?_
  refine lv_iconst (v := (-1)) hx hb d_M_amountOf_6 (by decide) ?_
  refine lv_icmp_ne (tgt := 14) hx hb d_M_amountOf_7 (by decide) (fun hc => ?_) (fun hc => ?_)
  · replace h := it_f h hc
    refine lv_aload_n hx hb d_M_amountOf_14 rfl (lv_at hl 0 rfl) ?_
    refine g_get C hG (hG.lt (Nat.le_of_ble_eq_true rfl)) (ce49 w _) rfl inC8 9 (Nat.le_of_ble_eq_true rfl) qw685 rfl d_M_amountOf_15 ?_
    refine lv_iconst (v := 3) hx hb d_M_amountOf_18 (by decide) ?_
    refine lv_aload_n hx hb d_M_amountOf_19 rfl (lv_at hl 0 rfl) ?_
    refine g_get C hG (hG.lt (Nat.le_of_ble_eq_true rfl)) (ce49 w _) rfl inC8 18 (Nat.le_of_ble_eq_true rfl) qw694 rfl d_M_amountOf_20 ?_
    refine lv_iload_n hx hb d_M_amountOf_23 rfl (lv_at hl 1 rfl) ?_
    obtain ⟨hi2, h⟩ := chk_some h
    refine g_iald (j := ix x1) C hG (hG.lt (Nat.le_of_ble_eq_true rfl)) (ce64 w _) (inb_in hi2) rfl d_M_amountOf_24 ?_
    refine lv_imul hx hb d_M_amountOf_25 ?_
    refine lv_iconst (v := 2) hx hb d_M_amountOf_26 (by decide) ?_
    refine lv_iadd hx hb d_M_amountOf_27 ?_
    obtain ⟨hi3, h⟩ := chk_some h
    refine g_iald (j := ix ((3 * (S 64 (ix x1))) + 2)) C hG (hG.lt (Nat.le_of_ble_eq_true rfl)) (ce55 w _) (inb_in hi3) rfl d_M_amountOf_28 ?_
    exact g_iret C hG (Option.some.inj h) rfl hQ d_M_amountOf_29
  · replace h := it_t h hc
    refine lv_iconst (v := 0) hx hb d_M_amountOf_10 (by decide) ?_
    refine lv_goto (tgt := 29) hx hb d_M_amountOf_11 (by decide) ?_
    exact g_iret C hG (Option.some.inj h) rfl hQ d_M_amountOf_29
theorem d_M_leadsWith_0 : decode b_M_leadsWith 0 = .ok (.iconst 0, 1) := by decide +kernel
theorem d_M_leadsWith_1 : decode b_M_leadsWith 1 = .ok (.istore_n 3, 1) := by decide +kernel
theorem d_M_leadsWith_2 : decode b_M_leadsWith 2 = .ok (.iconst 0, 1) := by decide +kernel
theorem d_M_leadsWith_3 : decode b_M_leadsWith 3 = .ok (.istore 4, 2) := by decide +kernel
theorem d_M_leadsWith_5 : decode b_M_leadsWith 5 = .ok (.iload 4, 2) := by decide +kernel
theorem d_M_leadsWith_7 : decode b_M_leadsWith 7 = .ok (.bipush 10, 2) := by decide +kernel
theorem d_M_leadsWith_9 : decode b_M_leadsWith 9 = .ok (.if_icmp .ge 38, 3) := by decide +kernel
theorem d_M_leadsWith_12 : decode b_M_leadsWith 12 = .ok (.iload_n 3, 1) := by decide +kernel
theorem d_M_leadsWith_13 : decode b_M_leadsWith 13 = .ok (.iload 4, 2) := by decide +kernel
theorem d_M_leadsWith_15 : decode b_M_leadsWith 15 = .ok (.iload_n 2, 1) := by decide +kernel
theorem d_M_leadsWith_16 : decode b_M_leadsWith 16 = .ok (.if_icmp .eq 22, 3) := by decide +kernel
theorem d_M_leadsWith_19 : decode b_M_leadsWith 19 = .ok (.aload_n 0, 1) := by decide +kernel
theorem d_M_leadsWith_20 : decode b_M_leadsWith 20 = .ok (.iload 4, 2) := by decide +kernel
theorem d_M_leadsWith_22 : decode b_M_leadsWith 22 = .ok (.invokevirtual 162, 3) := by decide +kernel
theorem d_M_leadsWith_25 : decode b_M_leadsWith 25 = .ok (.iload_n 1, 1) := by decide +kernel
theorem d_M_leadsWith_26 : decode b_M_leadsWith 26 = .ok (.if_icmp .ne 12, 3) := by decide +kernel
theorem d_M_leadsWith_29 : decode b_M_leadsWith 29 = .ok (.aload_n 0, 1) := by decide +kernel
theorem d_M_leadsWith_30 : decode b_M_leadsWith 30 = .ok (.iload 4, 2) := by decide +kernel
theorem d_M_leadsWith_32 : decode b_M_leadsWith 32 = .ok (.invokevirtual 165, 3) := by decide +kernel
theorem d_M_leadsWith_35 : decode b_M_leadsWith 35 = .ok (.goto 4, 3) := by decide +kernel
theorem d_M_leadsWith_38 : decode b_M_leadsWith 38 = .ok (.iconst 0, 1) := by decide +kernel
theorem d_M_leadsWith_39 : decode b_M_leadsWith 39 = .ok (.iadd, 1) := by decide +kernel
theorem d_M_leadsWith_40 : decode b_M_leadsWith 40 = .ok (.istore_n 3, 1) := by decide +kernel
theorem d_M_leadsWith_41 : decode b_M_leadsWith 41 = .ok (.iinc 4 1, 3) := by decide +kernel
theorem d_M_leadsWith_44 : decode b_M_leadsWith 44 = .ok (.goto (-39), 3) := by decide +kernel
theorem d_M_leadsWith_47 : decode b_M_leadsWith 47 = .ok (.iload_n 3, 1) := by decide +kernel
theorem d_M_leadsWith_48 : decode b_M_leadsWith 48 = .ok (.ireturn, 1) := by decide +kernel
noncomputable def M_leadsWith_L5 (S : St) (x1 : Int32) (x2 : Int32) (x3 : Int32) (x4 : Int32) : Option ((Int32 × Int32) × Nat) :=
  if 10 ≤ x4 then
      some ((x3, x4), 1)
    else
      if x4 = x2 then
        some ((x3 + 0, x4 + 1), 0)
      else
        bnd (M_ownerOf S x4) fun z1 =>
        if z1 = x1 then
          bnd (M_amountOf S x4) fun z2 =>
          some ((x3 + z2, x4 + 1), 0)
        else
          some ((x3 + 0, x4 + 1), 0)
noncomputable def M_leadsWith_J47 (S : St) (x3 : Int32) : Option (Int32) :=
  some x3
noncomputable def M_leadsWith (S : St) (x1 : Int32) (x2 : Int32) : Option (Int32) :=
  bnd (lp (σ := Int32 × Int32) (fun q => M_leadsWith_L5 S x1 x2 q.1 q.2) FZ (0, 0)) fun z3 =>
    M_leadsWith_J47 S z3.1.1
set_option maxHeartbeats 4000000 in
set_option maxRecDepth 100000 in
theorem L_M_leadsWith_5 (C : gCx p s m args meth c y_M_leadsWith.cls b_M_leadsWith 5 (some .int)) : ∀ (S : St) (x1 : Int32) (x2 : Int32) (n : Nat) (x3 : Int32) (x4 : Int32) (r : (Int32 × Int32) × Nat), lp (σ := Int32 × Int32) (fun q => M_leadsWith_L5 S x1 x2 q.1 q.2) n (x3, x4) = some r → (∀ (y3 : Int32) (y4 : Int32), r = ((y3, y4), 1) → ∀ (ls : Array Slot) (H : Heap) (locs : List Loc), GH w s A S H locs → lv_has ls 5 [(3, .int y3)] → W p l e (rmm 1 21) s m args below meth c H locs 0 0 Q (F0 m 47 ls [])) → ∀ (ls : Array Slot) (H : Heap) (locs : List Loc), GH w s A S H locs → lv_has ls 5 [(0, .ref (gad w 49)), (1, .int x1), (2, .int x2), (3, .int x3), (4, .int x4)] → W p l e (rmm 1 21) s m args below meth c H locs 0 0 Q (F0 m 5 ls []) := by
  have hx := C.1
  have hb := C.2.1
  intro S x1 x2 n
  induction n with
  | zero => intro x3 x4 r h; cases h
  | succ n ih =>
    intro x3 x4 r h k1 ls H locs hG hl
    obtain ⟨z, h, hr⟩ := lp_succ h
    have h : M_leadsWith_L5 S x1 x2 x3 x4 = some z := h
    unfold M_leadsWith_L5 at h
    refine lv_iload hx hb d_M_leadsWith_5 (lv_at hl 4 rfl) ?_
    refine lv_bipush (v := 10) hx hb d_M_leadsWith_7 (by decide) ?_
    refine lv_icmp_ge (tgt := 47) hx hb d_M_leadsWith_9 (by decide) (fun hc => ?_) (fun hc => ?_)
    · replace h := it_t h hc
      exact k1 _ _ (lp_exit h hr) ls _ _ hG (lv_sub hl [3] rfl)
    · replace h := it_f h hc
      refine lv_iload_n hx hb d_M_leadsWith_12 rfl (lv_at hl 3 rfl) ?_
      refine lv_iload hx hb d_M_leadsWith_13 (lv_at hl 4 rfl) ?_
      refine lv_iload_n hx hb d_M_leadsWith_15 rfl (lv_at hl 2 rfl) ?_
      refine lv_icmp_eq (tgt := 38) hx hb d_M_leadsWith_16 (by decide) (fun hc => ?_) (fun hc => ?_)
      · replace h := it_t h hc
        refine lv_iconst (v := 0) hx hb d_M_leadsWith_38 (by decide) ?_
        refine lv_iadd hx hb d_M_leadsWith_39 ?_
        refine lv_istore_n (lv' := [(3, .int (x3 + 0)), (0, .ref (gad w 49)), (1, .int x1), (2, .int x2), (4, .int x4)]) hx hb d_M_leadsWith_40 rfl hl (by decide) rfl (fun ls hl => ?_)
        refine lv_iinc (v := x4 + 1) (lv' := [(4, .int (x4 + 1)), (3, .int (x3 + 0)), (0, .ref (gad w 49)), (1, .int x1), (2, .int x2)]) hx hb d_M_leadsWith_41 hl (k := 4) rfl (congrArg (HAdd.hAdd x4) (by decide : Int32.ofInt 1 = 1)) (by decide) rfl (fun ls hl => ?_)
        refine lv_goto (tgt := 5) hx hb d_M_leadsWith_44 (by decide) ?_
        exact ih _ _ _ (lp_back h hr) k1 ls _ _ hG (lv_sub hl [2, 3, 4, 1, 0] rfl)
      · replace h := it_f h hc
        refine lv_aload_n hx hb d_M_leadsWith_19 rfl (lv_at hl 0 rfl) ?_
        refine lv_iload hx hb d_M_leadsWith_20 (lv_at hl 4 rfl) ?_
        obtain ⟨z1, hz1, h⟩ := bnd_some h
        refine g_goi hG (g_runV (As := [.int x4]) (rest := [.int x3]) C hG (c_M_ownerOf l w S x4 hz1 _) (hG.lt (Nat.le_of_ble_eq_true rfl)) (ce49 w _) rfl vw_M_162 rfl rfl ⟨by decide, by decide⟩ rfl hl.1 rfl (Nat.le_of_ble_eq_true rfl) d_M_leadsWith_22 ⟨Nat.zero_le _, Nat.zero_le _⟩) (fun H locs hG => ?_)
        refine lv_iload_n hx hb d_M_leadsWith_25 rfl (lv_at hl 1 rfl) ?_
        refine lv_icmp_ne (tgt := 38) hx hb d_M_leadsWith_26 (by decide) (fun hc => ?_) (fun hc => ?_)
        · replace h := it_f h hc
          refine lv_iconst (v := 0) hx hb d_M_leadsWith_38 (by decide) ?_
          refine lv_iadd hx hb d_M_leadsWith_39 ?_
          refine lv_istore_n (lv' := [(3, .int (x3 + 0)), (0, .ref (gad w 49)), (1, .int x1), (2, .int x2), (4, .int x4)]) hx hb d_M_leadsWith_40 rfl hl (by decide) rfl (fun ls hl => ?_)
          refine lv_iinc (v := x4 + 1) (lv' := [(4, .int (x4 + 1)), (3, .int (x3 + 0)), (0, .ref (gad w 49)), (1, .int x1), (2, .int x2)]) hx hb d_M_leadsWith_41 hl (k := 4) rfl (congrArg (HAdd.hAdd x4) (by decide : Int32.ofInt 1 = 1)) (by decide) rfl (fun ls hl => ?_)
          refine lv_goto (tgt := 5) hx hb d_M_leadsWith_44 (by decide) ?_
          exact ih _ _ _ (lp_back h hr) k1 ls _ _ hG (lv_sub hl [2, 3, 4, 1, 0] rfl)
        · replace h := it_t h hc
          refine lv_aload_n hx hb d_M_leadsWith_29 rfl (lv_at hl 0 rfl) ?_
          refine lv_iload hx hb d_M_leadsWith_30 (lv_at hl 4 rfl) ?_
          obtain ⟨z2, hz2, h⟩ := bnd_some h
          refine g_goi hG (g_runV (As := [.int x4]) (rest := [.int x3]) C hG (c_M_amountOf l w S x4 hz2 _) (hG.lt (Nat.le_of_ble_eq_true rfl)) (ce49 w _) rfl vw_M_165 rfl rfl ⟨by decide, by decide⟩ rfl hl.1 rfl (Nat.le_of_ble_eq_true rfl) d_M_leadsWith_32 ⟨Nat.zero_le _, Nat.zero_le _⟩) (fun H locs hG => ?_)
          refine lv_goto (tgt := 39) hx hb d_M_leadsWith_35 (by decide) ?_
          refine lv_iadd hx hb d_M_leadsWith_39 ?_
          refine lv_istore_n (lv' := [(3, .int (x3 + z2)), (0, .ref (gad w 49)), (1, .int x1), (2, .int x2), (4, .int x4)]) hx hb d_M_leadsWith_40 rfl hl (by decide) rfl (fun ls hl => ?_)
          refine lv_iinc (v := x4 + 1) (lv' := [(4, .int (x4 + 1)), (3, .int (x3 + z2)), (0, .ref (gad w 49)), (1, .int x1), (2, .int x2)]) hx hb d_M_leadsWith_41 hl (k := 4) rfl (congrArg (HAdd.hAdd x4) (by decide : Int32.ofInt 1 = 1)) (by decide) rfl (fun ls hl => ?_)
          refine lv_goto (tgt := 5) hx hb d_M_leadsWith_44 (by decide) ?_
          exact ih _ _ _ (lp_back h hr) k1 ls _ _ hG (lv_sub hl [2, 3, 4, 1, 0] rfl)
set_option maxHeartbeats 4000000 in
set_option maxRecDepth 100000 in
theorem c_M_leadsWith (l : Launch) (w : gw) (S : St) (x1 : Int32) (x2 : Int32)  {z : Int32} (h : (M_leadsWith S x1 x2) = some z) : gMi l w y_M_leadsWith b_M_leadsWith 5 (some .int) (rmm 1 21) [.ref (gad w 49), .int x1, .int x2] S z S := by
  unfold M_leadsWith at h
  refine g_met (Qc := gQi w z S) (by decide +kernel) (Nat.le_of_ble_eq_true rfl) ?_
  intro p e s m args below meth c A Q ls hQ C hG hl
  have hx := C.1
  have hb := C.2.1
  have hl : lv_has ls 5 [(0, .ref (gad w 49)), (1, .int x1), (2, .int x2)] := hl
  have J47 : ∀ (x3 : Int32), M_leadsWith_J47 S x3 = some z → ∀ (ls : Array Slot) (H : Heap) (locs : List Loc), GH w s A S H locs → lv_has ls 5 [(3, .int x3)] → W p l e (rmm 1 21) s m args below meth c H locs 0 0 Q (F0 m 47 ls []) := by
    intro x3 h ls H locs hG hl
    unfold M_leadsWith_J47 at h
    refine lv_iload_n hx hb d_M_leadsWith_47 rfl (lv_at hl 0 rfl) ?_
    exact g_iret C hG (Option.some.inj h) rfl hQ d_M_leadsWith_48
  refine lv_iconst (v := 0) hx hb d_M_leadsWith_0 (by decide) ?_
  refine lv_istore_n (lv' := [(3, .int 0), (0, .ref (gad w 49)), (1, .int x1), (2, .int x2)]) hx hb d_M_leadsWith_1 rfl hl (by decide) rfl (fun ls hl => ?_)
  refine lv_iconst (v := 0) hx hb d_M_leadsWith_2 (by decide) ?_
  refine lv_istore (lv' := [(4, .int 0), (3, .int 0), (0, .ref (gad w 49)), (1, .int x1), (2, .int x2)]) hx hb d_M_leadsWith_3 hl (by decide) rfl (fun ls hl => ?_)
  obtain ⟨z3, hz3, h⟩ := bnd_some h
  refine L_M_leadsWith_5 C _ _ _ FZ _ _ _ hz3 ?_ ls _ _ hG (lv_sub hl [2, 3, 4, 1, 0] rfl)
  intro y3 y4 e9 ls H locs hG hl
  subst e9
  exact J47 _ h ls _ _ hG (lv_sub hl [0] rfl)
theorem d_M_isHolding_0 : decode b_M_isHolding 0 = .ok (.aload_n 0, 1) := by decide +kernel
theorem d_M_isHolding_1 : decode b_M_isHolding 1 = .ok (.getfield 25, 3) := by decide +kernel
theorem d_M_isHolding_4 : decode b_M_isHolding 4 = .ok (.iconst 3, 1) := by decide +kernel
theorem d_M_isHolding_5 : decode b_M_isHolding 5 = .ok (.iload_n 1, 1) := by decide +kernel
theorem d_M_isHolding_6 : decode b_M_isHolding 6 = .ok (.imul, 1) := by decide +kernel
theorem d_M_isHolding_7 : decode b_M_isHolding 7 = .ok (.iaload, 1) := by decide +kernel
theorem d_M_isHolding_8 : decode b_M_isHolding 8 = .ok (.istore_n 2, 1) := by decide +kernel
theorem d_M_isHolding_9 : decode b_M_isHolding 9 = .ok (.aload_n 0, 1) := by decide +kernel
theorem d_M_isHolding_10 : decode b_M_isHolding 10 = .ok (.getfield 25, 3) := by decide +kernel
theorem d_M_isHolding_13 : decode b_M_isHolding 13 = .ok (.iconst 3, 1) := by decide +kernel
theorem d_M_isHolding_14 : decode b_M_isHolding 14 = .ok (.iload_n 1, 1) := by decide +kernel
theorem d_M_isHolding_15 : decode b_M_isHolding 15 = .ok (.imul, 1) := by decide +kernel
theorem d_M_isHolding_16 : decode b_M_isHolding 16 = .ok (.iconst 1, 1) := by decide +kernel
theorem d_M_isHolding_17 : decode b_M_isHolding 17 = .ok (.iadd, 1) := by decide +kernel
theorem d_M_isHolding_18 : decode b_M_isHolding 18 = .ok (.iaload, 1) := by decide +kernel
theorem d_M_isHolding_19 : decode b_M_isHolding 19 = .ok (.istore_n 3, 1) := by decide +kernel
theorem d_M_isHolding_20 : decode b_M_isHolding 20 = .ok (.aload_n 0, 1) := by decide +kernel
theorem d_M_isHolding_21 : decode b_M_isHolding 21 = .ok (.getfield 25, 3) := by decide +kernel
theorem d_M_isHolding_24 : decode b_M_isHolding 24 = .ok (.iconst 3, 1) := by decide +kernel
theorem d_M_isHolding_25 : decode b_M_isHolding 25 = .ok (.iload_n 1, 1) := by decide +kernel
theorem d_M_isHolding_26 : decode b_M_isHolding 26 = .ok (.imul, 1) := by decide +kernel
theorem d_M_isHolding_27 : decode b_M_isHolding 27 = .ok (.iconst 2, 1) := by decide +kernel
theorem d_M_isHolding_28 : decode b_M_isHolding 28 = .ok (.iadd, 1) := by decide +kernel
theorem d_M_isHolding_29 : decode b_M_isHolding 29 = .ok (.iaload, 1) := by decide +kernel
theorem d_M_isHolding_30 : decode b_M_isHolding 30 = .ok (.istore 4, 2) := by decide +kernel
theorem d_M_isHolding_32 : decode b_M_isHolding 32 = .ok (.iload 4, 2) := by decide +kernel
theorem d_M_isHolding_34 : decode b_M_isHolding 34 = .ok (.aload_n 0, 1) := by decide +kernel
theorem d_M_isHolding_35 : decode b_M_isHolding 35 = .ok (.getfield 40, 3) := by decide +kernel
theorem d_M_isHolding_38 : decode b_M_isHolding 38 = .ok (.iload_n 2, 1) := by decide +kernel
theorem d_M_isHolding_39 : decode b_M_isHolding 39 = .ok (.iaload, 1) := by decide +kernel
theorem d_M_isHolding_40 : decode b_M_isHolding 40 = .ok (.if_icmp .lt 34, 3) := by decide +kernel
theorem d_M_isHolding_43 : decode b_M_isHolding 43 = .ok (.aload_n 0, 1) := by decide +kernel
theorem d_M_isHolding_44 : decode b_M_isHolding 44 = .ok (.getfield 52, 3) := by decide +kernel
theorem d_M_isHolding_47 : decode b_M_isHolding 47 = .ok (.iload_n 2, 1) := by decide +kernel
theorem d_M_isHolding_48 : decode b_M_isHolding 48 = .ok (.iaload, 1) := by decide +kernel
theorem d_M_isHolding_49 : decode b_M_isHolding 49 = .ok (.iconst (-1), 1) := by decide +kernel
theorem d_M_isHolding_50 : decode b_M_isHolding 50 = .ok (.if_icmp .eq 20, 3) := by decide +kernel
theorem d_M_isHolding_53 : decode b_M_isHolding 53 = .ok (.iload 4, 2) := by decide +kernel
theorem d_M_isHolding_55 : decode b_M_isHolding 55 = .ok (.aload_n 0, 1) := by decide +kernel
theorem d_M_isHolding_56 : decode b_M_isHolding 56 = .ok (.iload_n 2, 1) := by decide +kernel
theorem d_M_isHolding_57 : decode b_M_isHolding 57 = .ok (.invokevirtual 165, 3) := by decide +kernel
theorem d_M_isHolding_60 : decode b_M_isHolding 60 = .ok (.aload_n 0, 1) := by decide +kernel
theorem d_M_isHolding_61 : decode b_M_isHolding 61 = .ok (.getfield 46, 3) := by decide +kernel
theorem d_M_isHolding_64 : decode b_M_isHolding 64 = .ok (.iconst 0, 1) := by decide +kernel
theorem d_M_isHolding_65 : decode b_M_isHolding 65 = .ok (.iaload, 1) := by decide +kernel
theorem d_M_isHolding_66 : decode b_M_isHolding 66 = .ok (.iadd, 1) := by decide +kernel
theorem d_M_isHolding_67 : decode b_M_isHolding 67 = .ok (.if_icmp .lt 7, 3) := by decide +kernel
theorem d_M_isHolding_70 : decode b_M_isHolding 70 = .ok (.iconst 1, 1) := by decide +kernel
theorem d_M_isHolding_71 : decode b_M_isHolding 71 = .ok (.goto 4, 3) := by decide +kernel
theorem d_M_isHolding_74 : decode b_M_isHolding 74 = .ok (.iconst 0, 1) := by decide +kernel
theorem d_M_isHolding_75 : decode b_M_isHolding 75 = .ok (.istore 5, 2) := by decide +kernel
theorem d_M_isHolding_77 : decode b_M_isHolding 77 = .ok (.iload 5, 2) := by decide +kernel
theorem d_M_isHolding_79 : decode b_M_isHolding 79 = .ok (.ifCond .eq 34, 3) := by decide +kernel
theorem d_M_isHolding_82 : decode b_M_isHolding 82 = .ok (.aload_n 0, 1) := by decide +kernel
theorem d_M_isHolding_83 : decode b_M_isHolding 83 = .ok (.iload_n 2, 1) := by decide +kernel
theorem d_M_isHolding_84 : decode b_M_isHolding 84 = .ok (.invokevirtual 162, 3) := by decide +kernel
theorem d_M_isHolding_87 : decode b_M_isHolding 87 = .ok (.iload_n 3, 1) := by decide +kernel
theorem d_M_isHolding_88 : decode b_M_isHolding 88 = .ok (.if_icmp .eq 25, 3) := by decide +kernel
theorem d_M_isHolding_91 : decode b_M_isHolding 91 = .ok (.aload_n 0, 1) := by decide +kernel
theorem d_M_isHolding_92 : decode b_M_isHolding 92 = .ok (.iload_n 3, 1) := by decide +kernel
theorem d_M_isHolding_93 : decode b_M_isHolding 93 = .ok (.iload_n 2, 1) := by decide +kernel
theorem d_M_isHolding_94 : decode b_M_isHolding 94 = .ok (.invokevirtual 168, 3) := by decide +kernel
theorem d_M_isHolding_97 : decode b_M_isHolding 97 = .ok (.iload 4, 2) := by decide +kernel
theorem d_M_isHolding_99 : decode b_M_isHolding 99 = .ok (.iadd, 1) := by decide +kernel
theorem d_M_isHolding_100 : decode b_M_isHolding 100 = .ok (.aload_n 0, 1) := by decide +kernel
theorem d_M_isHolding_101 : decode b_M_isHolding 101 = .ok (.getfield 28, 3) := by decide +kernel
theorem d_M_isHolding_104 : decode b_M_isHolding 104 = .ok (.iload_n 3, 1) := by decide +kernel
theorem d_M_isHolding_105 : decode b_M_isHolding 105 = .ok (.iaload, 1) := by decide +kernel
theorem d_M_isHolding_106 : decode b_M_isHolding 106 = .ok (.if_icmp .gt 7, 3) := by decide +kernel
theorem d_M_isHolding_109 : decode b_M_isHolding 109 = .ok (.iconst 1, 1) := by decide +kernel
theorem d_M_isHolding_110 : decode b_M_isHolding 110 = .ok (.goto 4, 3) := by decide +kernel
theorem d_M_isHolding_113 : decode b_M_isHolding 113 = .ok (.iconst 0, 1) := by decide +kernel
theorem d_M_isHolding_114 : decode b_M_isHolding 114 = .ok (.ireturn, 1) := by decide +kernel
noncomputable def M_isHolding_J75 (S : St) (x2 : Int32) (x3 : Int32) (x4 : Int32) (t0 : Int32) : Option (Int32) :=
  if t0 = 0 then
      some 0
    else
      bnd (M_ownerOf S x2) fun z1 =>
      if z1 = x3 then
        some 0
      else
        bnd (M_leadsWith S x3 x2) fun z2 =>
        chk (inb x3 5) <|
        if (S 56 (ix x3)) < (z2 + x4) then
          some 0
        else
          some 1
noncomputable def M_isHolding_J74 (S : St) (x2 : Int32) (x3 : Int32) (x4 : Int32) : Option (Int32) :=
  M_isHolding_J75 S x2 x3 x4 0
noncomputable def M_isHolding_J70 (S : St) (x2 : Int32) (x3 : Int32) (x4 : Int32) : Option (Int32) :=
  M_isHolding_J75 S x2 x3 x4 1
noncomputable def M_isHolding (S : St) (x1 : Int32) : Option (Int32) :=
  chk (inb (3 * x1) 60) <|
    chk (inb ((3 * x1) + 1) 60) <|
    chk (inb ((3 * x1) + 2) 60) <|
    chk (inb (S 55 (ix (3 * x1))) 10) <|
    if (S 55 (ix ((3 * x1) + 2))) < (S 60 (ix (S 55 (ix (3 * x1))))) then
      M_isHolding_J74 S (S 55 (ix (3 * x1))) (S 55 (ix ((3 * x1) + 1))) (S 55 (ix ((3 * x1) + 2)))
    else
      chk (inb (S 55 (ix (3 * x1))) 10) <|
      if (S 64 (ix (S 55 (ix (3 * x1))))) = (-1) then
        M_isHolding_J70 S (S 55 (ix (3 * x1))) (S 55 (ix ((3 * x1) + 1))) (S 55 (ix ((3 * x1) + 2)))
      else
        bnd (M_amountOf S (S 55 (ix (3 * x1)))) fun z3 =>
        if (S 55 (ix ((3 * x1) + 2))) < (z3 + (S 62 0)) then
          M_isHolding_J74 S (S 55 (ix (3 * x1))) (S 55 (ix ((3 * x1) + 1))) (S 55 (ix ((3 * x1) + 2)))
        else
          M_isHolding_J70 S (S 55 (ix (3 * x1))) (S 55 (ix ((3 * x1) + 1))) (S 55 (ix ((3 * x1) + 2)))
set_option maxHeartbeats 4000000 in
set_option maxRecDepth 100000 in
theorem c_M_isHolding (l : Launch) (w : gw) (S : St) (x1 : Int32)  {z : Int32} (h : (M_isHolding S x1) = some z) : gMi l w y_M_isHolding b_M_isHolding 6 (some .boolean) (rmm 2 45) [.ref (gad w 49), .int x1] S z S := by
  unfold M_isHolding at h
  refine g_met (Qc := gQi w z S) (by decide +kernel) (Nat.le_of_ble_eq_true rfl) ?_
  intro p e s m args below meth c A Q ls hQ C hG hl
  have hx := C.1
  have hb := C.2.1
  have hl : lv_has ls 6 [(0, .ref (gad w 49)), (1, .int x1)] := hl
  have J75 : ∀ (x2 : Int32) (x3 : Int32) (x4 : Int32) (t0 : Int32), M_isHolding_J75 S x2 x3 x4 t0 = some z → ∀ (ls : Array Slot) (H : Heap) (locs : List Loc), GH w s A S H locs → lv_has ls 6 [(0, .ref (gad w 49)), (2, .int x2), (3, .int x3), (4, .int x4)] → W p l e (rmm 2 45) s m args below meth c H locs 0 0 Q (F0 m 75 ls [.int t0]) := by
    intro x2 x3 x4 t0 h ls H locs hG hl
    unfold M_isHolding_J75 at h
    refine lv_istore (lv' := [(5, .int t0), (0, .ref (gad w 49)), (2, .int x2), (3, .int x3), (4, .int x4)]) hx hb d_M_isHolding_75 hl (by decide) rfl (fun ls hl => ?_)
    refine lv_iload hx hb d_M_isHolding_77 (lv_at hl 0 rfl) ?_
    refine lv_if_eq (tgt := 113) hx hb d_M_isHolding_79 (by decide) (fun hc => ?_) (fun hc => ?_)
    · replace h := it_t h hc
      refine lv_iconst (v := 0) hx hb d_M_isHolding_113 (by decide) ?_
      exact g_zret C hG (Or.inl rfl) (Option.some.inj h) rfl hQ d_M_isHolding_114
    · replace h := it_f h hc
      refine lv_aload_n hx hb d_M_isHolding_82 rfl (lv_at hl 1 rfl) ?_
      refine lv_iload_n hx hb d_M_isHolding_83 rfl (lv_at hl 2 rfl) ?_
      obtain ⟨z1, hz1, h⟩ := bnd_some h
      refine g_goi hG (g_runV (As := [.int x2]) (rest := []) C hG (c_M_ownerOf l w S x2 hz1 _) (hG.lt (Nat.le_of_ble_eq_true rfl)) (ce49 w _) rfl vw_M_162 rfl rfl ⟨by decide, by decide⟩ rfl hl.1 rfl (Nat.le_of_ble_eq_true rfl) d_M_isHolding_84 ⟨Nat.zero_le _, Nat.zero_le _⟩) (fun H locs hG => ?_)
      refine lv_iload_n hx hb d_M_isHolding_87 rfl (lv_at hl 3 rfl) ?_
      refine lv_icmp_eq (tgt := 113) hx hb d_M_isHolding_88 (by decide) (fun hc => ?_) (fun hc => ?_)
      · replace h := it_t h hc
        refine lv_iconst (v := 0) hx hb d_M_isHolding_113 (by decide) ?_
        exact g_zret C hG (Or.inl rfl) (Option.some.inj h) rfl hQ d_M_isHolding_114
      · replace h := it_f h hc
        refine lv_aload_n hx hb d_M_isHolding_91 rfl (lv_at hl 1 rfl) ?_
        refine lv_iload_n hx hb d_M_isHolding_92 rfl (lv_at hl 3 rfl) ?_
        refine lv_iload_n hx hb d_M_isHolding_93 rfl (lv_at hl 2 rfl) ?_
        obtain ⟨z2, hz2, h⟩ := bnd_some h
        refine g_goi hG (g_runV (As := [.int x3, .int x2]) (rest := []) C hG (c_M_leadsWith l w S x3 x2 hz2 _) (hG.lt (Nat.le_of_ble_eq_true rfl)) (ce49 w _) rfl vw_M_168 rfl rfl ⟨by decide, by decide⟩ rfl hl.1 rfl (Nat.le_of_ble_eq_true rfl) d_M_isHolding_94 ⟨Nat.zero_le _, Nat.zero_le _⟩) (fun H locs hG => ?_)
        refine lv_iload hx hb d_M_isHolding_97 (lv_at hl 4 rfl) ?_
        refine lv_iadd hx hb d_M_isHolding_99 ?_
        refine lv_aload_n hx hb d_M_isHolding_100 rfl (lv_at hl 1 rfl) ?_
        refine g_get C hG (hG.lt (Nat.le_of_ble_eq_true rfl)) (ce49 w _) rfl inC8 10 (Nat.le_of_ble_eq_true rfl) qw686 rfl d_M_isHolding_101 ?_
        refine lv_iload_n hx hb d_M_isHolding_104 rfl (lv_at hl 3 rfl) ?_
        obtain ⟨hi1, h⟩ := chk_some h
        refine g_iald (j := ix x3) C hG (hG.lt (Nat.le_of_ble_eq_true rfl)) (ce56 w _) (inb_in hi1) rfl d_M_isHolding_105 ?_
        refine lv_icmp_gt (tgt := 113) hx hb d_M_isHolding_106 (by decide) (fun hc => ?_) (fun hc => ?_)
        · replace h := it_t h hc
          refine lv_iconst (v := 0) hx hb d_M_isHolding_113 (by decide) ?_
          exact g_zret C hG (Or.inl rfl) (Option.some.inj h) rfl hQ d_M_isHolding_114
        · replace h := it_f h hc
          refine lv_iconst (v := 1) hx hb d_M_isHolding_109 (by decide) ?_
          refine lv_goto (tgt := 114) hx hb d_M_isHolding_110 (by decide) ?_
          exact g_zret C hG (Or.inr rfl) (Option.some.inj h) rfl hQ d_M_isHolding_114
  have J74 : ∀ (x2 : Int32) (x3 : Int32) (x4 : Int32), M_isHolding_J74 S x2 x3 x4 = some z → ∀ (ls : Array Slot) (H : Heap) (locs : List Loc), GH w s A S H locs → lv_has ls 6 [(0, .ref (gad w 49)), (2, .int x2), (3, .int x3), (4, .int x4)] → W p l e (rmm 2 45) s m args below meth c H locs 0 0 Q (F0 m 74 ls []) := by
    intro x2 x3 x4 h ls H locs hG hl
    unfold M_isHolding_J74 at h
    refine lv_iconst (v := 0) hx hb d_M_isHolding_74 (by decide) ?_
    exact J75 _ _ _ _ h ls _ _ hG (lv_sub hl [0, 1, 2, 3] rfl)
  have J70 : ∀ (x2 : Int32) (x3 : Int32) (x4 : Int32), M_isHolding_J70 S x2 x3 x4 = some z → ∀ (ls : Array Slot) (H : Heap) (locs : List Loc), GH w s A S H locs → lv_has ls 6 [(0, .ref (gad w 49)), (2, .int x2), (3, .int x3), (4, .int x4)] → W p l e (rmm 2 45) s m args below meth c H locs 0 0 Q (F0 m 70 ls []) := by
    intro x2 x3 x4 h ls H locs hG hl
    unfold M_isHolding_J70 at h
    refine lv_iconst (v := 1) hx hb d_M_isHolding_70 (by decide) ?_
    refine lv_goto (tgt := 75) hx hb d_M_isHolding_71 (by decide) ?_
    exact J75 _ _ _ _ h ls _ _ hG (lv_sub hl [0, 1, 2, 3] rfl)
  refine lv_aload_n hx hb d_M_isHolding_0 rfl (lv_at hl 0 rfl) ?_
  refine g_get C hG (hG.lt (Nat.le_of_ble_eq_true rfl)) (ce49 w _) rfl inC8 9 (Nat.le_of_ble_eq_true rfl) qw685 rfl d_M_isHolding_1 ?_
  refine lv_iconst (v := 3) hx hb d_M_isHolding_4 (by decide) ?_
  refine lv_iload_n hx hb d_M_isHolding_5 rfl (lv_at hl 1 rfl) ?_
  refine lv_imul hx hb d_M_isHolding_6 ?_
  obtain ⟨hi2, h⟩ := chk_some h
  refine g_iald (j := ix (3 * x1)) C hG (hG.lt (Nat.le_of_ble_eq_true rfl)) (ce55 w _) (inb_in hi2) rfl d_M_isHolding_7 ?_
  refine lv_istore_n (lv' := [(2, .int (S 55 (ix (3 * x1)))), (0, .ref (gad w 49)), (1, .int x1)]) hx hb d_M_isHolding_8 rfl hl (by decide) rfl (fun ls hl => ?_)
  refine lv_aload_n hx hb d_M_isHolding_9 rfl (lv_at hl 1 rfl) ?_
  refine g_get C hG (hG.lt (Nat.le_of_ble_eq_true rfl)) (ce49 w _) rfl inC8 9 (Nat.le_of_ble_eq_true rfl) qw685 rfl d_M_isHolding_10 ?_
  refine lv_iconst (v := 3) hx hb d_M_isHolding_13 (by decide) ?_
  refine lv_iload_n hx hb d_M_isHolding_14 rfl (lv_at hl 2 rfl) ?_
  refine lv_imul hx hb d_M_isHolding_15 ?_
  refine lv_iconst (v := 1) hx hb d_M_isHolding_16 (by decide) ?_
  refine lv_iadd hx hb d_M_isHolding_17 ?_
  obtain ⟨hi3, h⟩ := chk_some h
  refine g_iald (j := ix ((3 * x1) + 1)) C hG (hG.lt (Nat.le_of_ble_eq_true rfl)) (ce55 w _) (inb_in hi3) rfl d_M_isHolding_18 ?_
  refine lv_istore_n (lv' := [(3, .int (S 55 (ix ((3 * x1) + 1)))), (2, .int (S 55 (ix (3 * x1)))), (0, .ref (gad w 49)), (1, .int x1)]) hx hb d_M_isHolding_19 rfl hl (by decide) rfl (fun ls hl => ?_)
  refine lv_aload_n hx hb d_M_isHolding_20 rfl (lv_at hl 2 rfl) ?_
  refine g_get C hG (hG.lt (Nat.le_of_ble_eq_true rfl)) (ce49 w _) rfl inC8 9 (Nat.le_of_ble_eq_true rfl) qw685 rfl d_M_isHolding_21 ?_
  refine lv_iconst (v := 3) hx hb d_M_isHolding_24 (by decide) ?_
  refine lv_iload_n hx hb d_M_isHolding_25 rfl (lv_at hl 3 rfl) ?_
  refine lv_imul hx hb d_M_isHolding_26 ?_
  refine lv_iconst (v := 2) hx hb d_M_isHolding_27 (by decide) ?_
  refine lv_iadd hx hb d_M_isHolding_28 ?_
  obtain ⟨hi4, h⟩ := chk_some h
  refine g_iald (j := ix ((3 * x1) + 2)) C hG (hG.lt (Nat.le_of_ble_eq_true rfl)) (ce55 w _) (inb_in hi4) rfl d_M_isHolding_29 ?_
  refine lv_istore (lv' := [(4, .int (S 55 (ix ((3 * x1) + 2)))), (3, .int (S 55 (ix ((3 * x1) + 1)))), (2, .int (S 55 (ix (3 * x1)))), (0, .ref (gad w 49)), (1, .int x1)]) hx hb d_M_isHolding_30 hl (by decide) rfl (fun ls hl => ?_)
  refine lv_iload hx hb d_M_isHolding_32 (lv_at hl 0 rfl) ?_
  refine lv_aload_n hx hb d_M_isHolding_34 rfl (lv_at hl 3 rfl) ?_
  refine g_get C hG (hG.lt (Nat.le_of_ble_eq_true rfl)) (ce49 w _) rfl inC8 14 (Nat.le_of_ble_eq_true rfl) qw690 rfl d_M_isHolding_35 ?_
  refine lv_iload_n hx hb d_M_isHolding_38 rfl (lv_at hl 2 rfl) ?_
  obtain ⟨hi5, h⟩ := chk_some h
  refine g_iald (j := ix (S 55 (ix (3 * x1)))) C hG (hG.lt (Nat.le_of_ble_eq_true rfl)) (ce60 w _) (inb_in hi5) rfl d_M_isHolding_39 ?_
  refine lv_icmp_lt (tgt := 74) hx hb d_M_isHolding_40 (by decide) (fun hc => ?_) (fun hc => ?_)
  · replace h := it_t h hc
    exact J74 _ _ _ h ls _ _ hG (lv_sub hl [3, 2, 1, 0] rfl)
  · replace h := it_f h hc
    refine lv_aload_n hx hb d_M_isHolding_43 rfl (lv_at hl 3 rfl) ?_
    refine g_get C hG (hG.lt (Nat.le_of_ble_eq_true rfl)) (ce49 w _) rfl inC8 18 (Nat.le_of_ble_eq_true rfl) qw694 rfl d_M_isHolding_44 ?_
    refine lv_iload_n hx hb d_M_isHolding_47 rfl (lv_at hl 2 rfl) ?_
    obtain ⟨hi6, h⟩ := chk_some h
    refine g_iald (j := ix (S 55 (ix (3 * x1)))) C hG (hG.lt (Nat.le_of_ble_eq_true rfl)) (ce64 w _) (inb_in hi6) rfl d_M_isHolding_48 ?_
    refine lv_iconst (v := (-1)) hx hb d_M_isHolding_49 (by decide) ?_
    refine lv_icmp_eq (tgt := 70) hx hb d_M_isHolding_50 (by decide) (fun hc => ?_) (fun hc => ?_)
    · replace h := it_t h hc
      exact J70 _ _ _ h ls _ _ hG (lv_sub hl [3, 2, 1, 0] rfl)
    · replace h := it_f h hc
      refine lv_iload hx hb d_M_isHolding_53 (lv_at hl 0 rfl) ?_
      refine lv_aload_n hx hb d_M_isHolding_55 rfl (lv_at hl 3 rfl) ?_
      refine lv_iload_n hx hb d_M_isHolding_56 rfl (lv_at hl 2 rfl) ?_
      obtain ⟨z3, hz3, h⟩ := bnd_some h
      refine g_goi hG (g_runV (As := [.int (S 55 (ix (3 * x1)))]) (rest := [.int (S 55 (ix ((3 * x1) + 2)))]) C hG (c_M_amountOf l w S (S 55 (ix (3 * x1))) hz3 _) (hG.lt (Nat.le_of_ble_eq_true rfl)) (ce49 w _) rfl vw_M_165 rfl rfl ⟨by decide, by decide⟩ rfl hl.1 rfl (Nat.le_of_ble_eq_true rfl) d_M_isHolding_57 ⟨Nat.zero_le _, Nat.zero_le _⟩) (fun H locs hG => ?_)
      refine lv_aload_n hx hb d_M_isHolding_60 rfl (lv_at hl 3 rfl) ?_
      refine g_get C hG (hG.lt (Nat.le_of_ble_eq_true rfl)) (ce49 w _) rfl inC8 16 (Nat.le_of_ble_eq_true rfl) qw692 rfl d_M_isHolding_61 ?_
      refine lv_iconst (v := 0) hx hb d_M_isHolding_64 (by decide) ?_
      refine g_iald (j := 0) C hG (hG.lt (Nat.le_of_ble_eq_true rfl)) (ce62 w _) (inb_in (by decide)) rfl d_M_isHolding_65 ?_
      refine lv_iadd hx hb d_M_isHolding_66 ?_
      refine lv_icmp_lt (tgt := 74) hx hb d_M_isHolding_67 (by decide) (fun hc => ?_) (fun hc => ?_)
      · replace h := it_t h hc
        exact J74 _ _ _ h ls _ _ hG (lv_sub hl [3, 2, 1, 0] rfl)
      · replace h := it_f h hc
        exact J70 _ _ _ h ls _ _ hG (lv_sub hl [3, 2, 1, 0] rfl)
theorem d_M_looks_0 : decode b_M_looks 0 = .ok (.aload_n 0, 1) := by decide +kernel
theorem d_M_looks_1 : decode b_M_looks 1 = .ok (.iconst (-1), 1) := by decide +kernel
theorem d_M_looks_2 : decode b_M_looks 2 = .ok (.putfield 171, 3) := by decide +kernel
theorem d_M_looks_5 : decode b_M_looks 5 = .ok (.iconst 0, 1) := by decide +kernel
theorem d_M_looks_6 : decode b_M_looks 6 = .ok (.istore_n 2, 1) := by decide +kernel
theorem d_M_looks_7 : decode b_M_looks 7 = .ok (.iload_n 2, 1) := by decide +kernel
theorem d_M_looks_8 : decode b_M_looks 8 = .ok (.bipush 10, 2) := by decide +kernel
theorem d_M_looks_10 : decode b_M_looks 10 = .ok (.if_icmp .ge 16, 3) := by decide +kernel
theorem d_M_looks_13 : decode b_M_looks 13 = .ok (.aload_n 0, 1) := by decide +kernel
theorem d_M_looks_14 : decode b_M_looks 14 = .ok (.getfield 52, 3) := by decide +kernel
theorem d_M_looks_17 : decode b_M_looks 17 = .ok (.iload_n 2, 1) := by decide +kernel
theorem d_M_looks_18 : decode b_M_looks 18 = .ok (.iconst (-1), 1) := by decide +kernel
theorem d_M_looks_19 : decode b_M_looks 19 = .ok (.iastore, 1) := by decide +kernel
theorem d_M_looks_20 : decode b_M_looks 20 = .ok (.iinc 2 1, 3) := by decide +kernel
theorem d_M_looks_23 : decode b_M_looks 23 = .ok (.goto (-16), 3) := by decide +kernel
theorem d_M_looks_26 : decode b_M_looks 26 = .ok (.iconst 0, 1) := by decide +kernel
theorem d_M_looks_27 : decode b_M_looks 27 = .ok (.istore_n 2, 1) := by decide +kernel
theorem d_M_looks_28 : decode b_M_looks 28 = .ok (.iload_n 2, 1) := by decide +kernel
theorem d_M_looks_29 : decode b_M_looks 29 = .ok (.aload_n 0, 1) := by decide +kernel
theorem d_M_looks_30 : decode b_M_looks 30 = .ok (.getfield 119, 3) := by decide +kernel
theorem d_M_looks_33 : decode b_M_looks 33 = .ok (.if_icmp .ge 90, 3) := by decide +kernel
theorem d_M_looks_36 : decode b_M_looks 36 = .ok (.aload_n 0, 1) := by decide +kernel
theorem d_M_looks_37 : decode b_M_looks 37 = .ok (.getfield 55, 3) := by decide +kernel
theorem d_M_looks_40 : decode b_M_looks 40 = .ok (.iload_n 2, 1) := by decide +kernel
theorem d_M_looks_41 : decode b_M_looks 41 = .ok (.iload_n 2, 1) := by decide +kernel
theorem d_M_looks_42 : decode b_M_looks 42 = .ok (.iload_n 1, 1) := by decide +kernel
theorem d_M_looks_43 : decode b_M_looks 43 = .ok (.if_icmp .eq 15, 3) := by decide +kernel
theorem d_M_looks_46 : decode b_M_looks 46 = .ok (.aload_n 0, 1) := by decide +kernel
theorem d_M_looks_47 : decode b_M_looks 47 = .ok (.iload_n 2, 1) := by decide +kernel
theorem d_M_looks_48 : decode b_M_looks 48 = .ok (.invokevirtual 174, 3) := by decide +kernel
theorem d_M_looks_51 : decode b_M_looks 51 = .ok (.ifCond .eq 7, 3) := by decide +kernel
theorem d_M_looks_54 : decode b_M_looks 54 = .ok (.iconst 1, 1) := by decide +kernel
theorem d_M_looks_55 : decode b_M_looks 55 = .ok (.goto 4, 3) := by decide +kernel
theorem d_M_looks_58 : decode b_M_looks 58 = .ok (.iconst 0, 1) := by decide +kernel
theorem d_M_looks_59 : decode b_M_looks 59 = .ok (.bastore, 1) := by decide +kernel
theorem d_M_looks_60 : decode b_M_looks 60 = .ok (.aload_n 0, 1) := by decide +kernel
theorem d_M_looks_61 : decode b_M_looks 61 = .ok (.getfield 55, 3) := by decide +kernel
theorem d_M_looks_64 : decode b_M_looks 64 = .ok (.iload_n 2, 1) := by decide +kernel
theorem d_M_looks_65 : decode b_M_looks 65 = .ok (.baload, 1) := by decide +kernel
theorem d_M_looks_66 : decode b_M_looks 66 = .ok (.ifCond .eq 17, 3) := by decide +kernel
theorem d_M_looks_69 : decode b_M_looks 69 = .ok (.aload_n 0, 1) := by decide +kernel
theorem d_M_looks_70 : decode b_M_looks 70 = .ok (.getfield 52, 3) := by decide +kernel
theorem d_M_looks_73 : decode b_M_looks 73 = .ok (.aload_n 0, 1) := by decide +kernel
theorem d_M_looks_74 : decode b_M_looks 74 = .ok (.getfield 25, 3) := by decide +kernel
theorem d_M_looks_77 : decode b_M_looks 77 = .ok (.iconst 3, 1) := by decide +kernel
theorem d_M_looks_78 : decode b_M_looks 78 = .ok (.iload_n 2, 1) := by decide +kernel
theorem d_M_looks_79 : decode b_M_looks 79 = .ok (.imul, 1) := by decide +kernel
theorem d_M_looks_80 : decode b_M_looks 80 = .ok (.iaload, 1) := by decide +kernel
theorem d_M_looks_81 : decode b_M_looks 81 = .ok (.iload_n 2, 1) := by decide +kernel
theorem d_M_looks_82 : decode b_M_looks 82 = .ok (.iastore, 1) := by decide +kernel
theorem d_M_looks_83 : decode b_M_looks 83 = .ok (.aload_n 0, 1) := by decide +kernel
theorem d_M_looks_84 : decode b_M_looks 84 = .ok (.aload_n 0, 1) := by decide +kernel
theorem d_M_looks_85 : decode b_M_looks 85 = .ok (.getfield 171, 3) := by decide +kernel
theorem d_M_looks_88 : decode b_M_looks 88 = .ok (.iconst (-1), 1) := by decide +kernel
theorem d_M_looks_89 : decode b_M_looks 89 = .ok (.if_icmp .ne 21, 3) := by decide +kernel
theorem d_M_looks_92 : decode b_M_looks 92 = .ok (.iload_n 2, 1) := by decide +kernel
theorem d_M_looks_93 : decode b_M_looks 93 = .ok (.iload_n 1, 1) := by decide +kernel
theorem d_M_looks_94 : decode b_M_looks 94 = .ok (.if_icmp .eq 16, 3) := by decide +kernel
theorem d_M_looks_97 : decode b_M_looks 97 = .ok (.aload_n 0, 1) := by decide +kernel
theorem d_M_looks_98 : decode b_M_looks 98 = .ok (.getfield 55, 3) := by decide +kernel
theorem d_M_looks_101 : decode b_M_looks 101 = .ok (.iload_n 2, 1) := by decide +kernel
theorem d_M_looks_102 : decode b_M_looks 102 = .ok (.baload, 1) := by decide +kernel
theorem d_M_looks_103 : decode b_M_looks 103 = .ok (.ifCond .ne 7, 3) := by decide +kernel
theorem d_M_looks_106 : decode b_M_looks 106 = .ok (.iload_n 2, 1) := by decide +kernel
theorem d_M_looks_107 : decode b_M_looks 107 = .ok (.goto 7, 3) := by decide +kernel
theorem d_M_looks_110 : decode b_M_looks 110 = .ok (.aload_n 0, 1) := by decide +kernel
theorem d_M_looks_111 : decode b_M_looks 111 = .ok (.getfield 171, 3) := by decide +kernel
theorem d_M_looks_114 : decode b_M_looks 114 = .ok (.putfield 171, 3) := by decide +kernel
theorem d_M_looks_117 : decode b_M_looks 117 = .ok (.iinc 2 1, 3) := by decide +kernel
theorem d_M_looks_120 : decode b_M_looks 120 = .ok (.goto (-92), 3) := by decide +kernel
theorem d_M_looks_123 : decode b_M_looks 123 = .ok (.return_, 1) := by decide +kernel
noncomputable def M_looks_L7 (S : St) (x1 : Int32) (x2 : Int32) : Option ((Int32 × St) × Nat) :=
  if 10 ≤ x2 then
      some ((x2, S), 1)
    else
      chk (inb x2 10) <|
      some ((x2 + 1, up S 64 (ix x2) (-1)), 0)
noncomputable def M_looks_J83 (S : St) (x1 : Int32) (x2 : Int32) : Option ((Int32 × St) × Nat) :=
  if (S 49 20) = (-1) then
      if x2 = x1 then
        some ((x2 + 1, up S 49 20 (S 49 20)), 0)
      else
        chk (inb x2 20) <|
        if (S 65 (ix x2)) = 0 then
          some ((x2 + 1, up S 49 20 x2), 0)
        else
          some ((x2 + 1, up S 49 20 (S 49 20)), 0)
    else
      some ((x2 + 1, up S 49 20 (S 49 20)), 0)
noncomputable def M_looks_J59 (S : St) (x1 : Int32) (x2 : Int32) (t1 : Int32) (t2 : Int32) : Option ((Int32 × St) × Nat) :=
  chk (inb t1 20) <|
    chk (isz t2) <|
    chk (inb x2 20) <|
    if ((up S 65 (ix t1) t2) 65 (ix x2)) = 0 then
      M_looks_J83 (up S 65 (ix t1) t2) x1 x2
    else
      chk (inb (3 * x2) 60) <|
      chk (inb ((up S 65 (ix t1) t2) 55 (ix (3 * x2))) 10) <|
      M_looks_J83 (up (up S 65 (ix t1) t2) 64 (ix ((up S 65 (ix t1) t2) 55 (ix (3 * x2)))) x2) x1 x2
noncomputable def M_looks_J58 (S : St) (x1 : Int32) (x2 : Int32) (t1 : Int32) : Option ((Int32 × St) × Nat) :=
  M_looks_J59 S x1 x2 t1 0
noncomputable def M_looks_L28 (S : St) (x1 : Int32) (x2 : Int32) : Option ((Int32 × St) × Nat) :=
  if (S 49 8) ≤ x2 then
      some ((x2, S), 1)
    else
      if x2 = x1 then
        M_looks_J58 S x1 x2 x2
      else
        bnd (M_isHolding S x2) fun z1 =>
        if z1 = 0 then
          M_looks_J58 S x1 x2 x2
        else
          M_looks_J59 S x1 x2 x2 1
noncomputable def M_looks_J123 (S : St) : Option (St) :=
  some S
noncomputable def M_looks_J26 (S : St) (x1 : Int32) : Option (St) :=
  bnd (lp (σ := Int32 × St) (fun q => M_looks_L28 q.2 x1 q.1) FZ (0, S)) fun z2 =>
    M_looks_J123 z2.1.2
noncomputable def M_looks (S : St) (x1 : Int32) : Option (St) :=
  bnd (lp (σ := Int32 × St) (fun q => M_looks_L7 q.2 x1 q.1) FZ (0, up S 49 20 (-1))) fun z3 =>
    M_looks_J26 z3.1.2 x1
set_option maxHeartbeats 4000000 in
set_option maxRecDepth 100000 in
theorem L_M_looks_7 (C : gCx p s m args meth c y_M_looks.cls b_M_looks 3 none) : ∀ (x1 : Int32) (n : Nat) (x2 : Int32) (S : St) (r : (Int32 × St) × Nat), lp (σ := Int32 × St) (fun q => M_looks_L7 q.2 x1 q.1) n (x2, S) = some r → (∀ (y2 : Int32) (Sy : St), r = ((y2, Sy), 1) → ∀ (ls : Array Slot) (H : Heap) (locs : List Loc), GH w s A Sy H locs → lv_has ls 3 [(0, .ref (gad w 49)), (1, .int x1)] → W p l e (rmm 3 70) s m args below meth c H locs 0 0 Q (F0 m 26 ls [])) → ∀ (ls : Array Slot) (H : Heap) (locs : List Loc), GH w s A S H locs → lv_has ls 3 [(0, .ref (gad w 49)), (1, .int x1), (2, .int x2)] → W p l e (rmm 3 70) s m args below meth c H locs 0 0 Q (F0 m 7 ls []) := by
  have hx := C.1
  have hb := C.2.1
  intro x1 n
  induction n with
  | zero => intro x2 S r h; cases h
  | succ n ih =>
    intro x2 S r h k1 ls H locs hG hl
    obtain ⟨z, h, hr⟩ := lp_succ h
    have h : M_looks_L7 S x1 x2 = some z := h
    unfold M_looks_L7 at h
    refine lv_iload_n hx hb d_M_looks_7 rfl (lv_at hl 2 rfl) ?_
    refine lv_bipush (v := 10) hx hb d_M_looks_8 (by decide) ?_
    refine lv_icmp_ge (tgt := 26) hx hb d_M_looks_10 (by decide) (fun hc => ?_) (fun hc => ?_)
    · replace h := it_t h hc
      exact k1 _ _ (lp_exit h hr) ls _ _ hG (lv_sub hl [0, 1] rfl)
    · replace h := it_f h hc
      refine lv_aload_n hx hb d_M_looks_13 rfl (lv_at hl 0 rfl) ?_
      refine g_get C hG (hG.lt (Nat.le_of_ble_eq_true rfl)) (ce49 w _) rfl inC8 18 (Nat.le_of_ble_eq_true rfl) qw694 rfl d_M_looks_14 ?_
      refine lv_iload_n hx hb d_M_looks_17 rfl (lv_at hl 2 rfl) ?_
      refine lv_iconst (v := (-1)) hx hb d_M_looks_18 (by decide) ?_
      obtain ⟨hi1, h⟩ := chk_some h
      refine g_iast (j := ix x2) (x := (-1)) C hG (hG.lt (Nat.le_of_ble_eq_true rfl)) (ce64 w) (inb_in hi1) rfl d_M_looks_19 (fun H locs hG => ?_)
      refine lv_iinc (v := x2 + 1) (lv' := [(2, .int (x2 + 1)), (0, .ref (gad w 49)), (1, .int x1)]) hx hb d_M_looks_20 hl (k := 2) rfl (congrArg (HAdd.hAdd x2) (by decide : Int32.ofInt 1 = 1)) (by decide) rfl (fun ls hl => ?_)
      refine lv_goto (tgt := 7) hx hb d_M_looks_23 (by decide) ?_
      exact ih _ _ _ (lp_back h hr) k1 ls _ _ hG (lv_sub hl [1, 2, 0] rfl)
set_option maxHeartbeats 4000000 in
set_option maxRecDepth 100000 in
theorem L_M_looks_28 (C : gCx p s m args meth c y_M_looks.cls b_M_looks 3 none) : ∀ (x1 : Int32) (n : Nat) (x2 : Int32) (S : St) (r : (Int32 × St) × Nat), lp (σ := Int32 × St) (fun q => M_looks_L28 q.2 x1 q.1) n (x2, S) = some r → (∀ (y2 : Int32) (Sy : St), r = ((y2, Sy), 1) → ∀ (ls : Array Slot) (H : Heap) (locs : List Loc), GH w s A Sy H locs → lv_has ls 3 [] → W p l e (rmm 3 70) s m args below meth c H locs 0 0 Q (F0 m 123 ls [])) → ∀ (ls : Array Slot) (H : Heap) (locs : List Loc), GH w s A S H locs → lv_has ls 3 [(0, .ref (gad w 49)), (1, .int x1), (2, .int x2)] → W p l e (rmm 3 70) s m args below meth c H locs 0 0 Q (F0 m 28 ls []) := by
  have hx := C.1
  have hb := C.2.1
  intro x1 n
  induction n with
  | zero => intro x2 S r h; cases h
  | succ n ih =>
    intro x2 S r h k1 ls H locs hG hl
    obtain ⟨z, h, hr⟩ := lp_succ h
    have h : M_looks_L28 S x1 x2 = some z := h
    have J83 : ∀ (S : St) (x2 : Int32), M_looks_J83 S x1 x2 = some z → ∀ (ls : Array Slot) (H : Heap) (locs : List Loc), GH w s A S H locs → lv_has ls 3 [(0, .ref (gad w 49)), (1, .int x1), (2, .int x2)] → W p l e (rmm 3 70) s m args below meth c H locs 0 0 Q (F0 m 83 ls []) := by
      intro S x2 h ls H locs hG hl
      unfold M_looks_J83 at h
      refine lv_aload_n hx hb d_M_looks_83 rfl (lv_at hl 0 rfl) ?_
      refine lv_aload_n hx hb d_M_looks_84 rfl (lv_at hl 0 rfl) ?_
      refine g_get C hG (hG.lt (Nat.le_of_ble_eq_true rfl)) (ce49 w _) rfl inC8 20 (Nat.le_of_ble_eq_true rfl) qw696 rfl d_M_looks_85 ?_
      refine lv_iconst (v := (-1)) hx hb d_M_looks_88 (by decide) ?_
      refine lv_icmp_ne (tgt := 110) hx hb d_M_looks_89 (by decide) (fun hc => ?_) (fun hc => ?_)
      · replace h := it_f h hc
        refine lv_aload_n hx hb d_M_looks_110 rfl (lv_at hl 0 rfl) ?_
        refine g_get C hG (hG.lt (Nat.le_of_ble_eq_true rfl)) (ce49 w _) rfl inC8 20 (Nat.le_of_ble_eq_true rfl) qw696 rfl d_M_looks_111 ?_
        refine g_put (x := S 49 20) C hG (hG.lt (Nat.le_of_ble_eq_true rfl)) (ce49 w _) rfl inC8 okC8 nmC8 20 (Nat.le_of_ble_eq_true rfl) qw696 rfl rfl rfl (Nat.le_of_ble_eq_true rfl) rfl d_M_looks_114 (fun H locs hG => ?_)
        refine lv_iinc (v := x2 + 1) (lv' := [(2, .int (x2 + 1)), (0, .ref (gad w 49)), (1, .int x1)]) hx hb d_M_looks_117 hl (k := 2) rfl (congrArg (HAdd.hAdd x2) (by decide : Int32.ofInt 1 = 1)) (by decide) rfl (fun ls hl => ?_)
        refine lv_goto (tgt := 28) hx hb d_M_looks_120 (by decide) ?_
        exact ih _ _ _ (lp_back h hr) k1 ls _ _ hG (lv_sub hl [1, 2, 0] rfl)
      · replace h := it_t h hc
        refine lv_iload_n hx hb d_M_looks_92 rfl (lv_at hl 2 rfl) ?_
        refine lv_iload_n hx hb d_M_looks_93 rfl (lv_at hl 1 rfl) ?_
        refine lv_icmp_eq (tgt := 110) hx hb d_M_looks_94 (by decide) (fun hc => ?_) (fun hc => ?_)
        · replace h := it_t h hc
          refine lv_aload_n hx hb d_M_looks_110 rfl (lv_at hl 0 rfl) ?_
          refine g_get C hG (hG.lt (Nat.le_of_ble_eq_true rfl)) (ce49 w _) rfl inC8 20 (Nat.le_of_ble_eq_true rfl) qw696 rfl d_M_looks_111 ?_
          refine g_put (x := S 49 20) C hG (hG.lt (Nat.le_of_ble_eq_true rfl)) (ce49 w _) rfl inC8 okC8 nmC8 20 (Nat.le_of_ble_eq_true rfl) qw696 rfl rfl rfl (Nat.le_of_ble_eq_true rfl) rfl d_M_looks_114 (fun H locs hG => ?_)
          refine lv_iinc (v := x2 + 1) (lv' := [(2, .int (x2 + 1)), (0, .ref (gad w 49)), (1, .int x1)]) hx hb d_M_looks_117 hl (k := 2) rfl (congrArg (HAdd.hAdd x2) (by decide : Int32.ofInt 1 = 1)) (by decide) rfl (fun ls hl => ?_)
          refine lv_goto (tgt := 28) hx hb d_M_looks_120 (by decide) ?_
          exact ih _ _ _ (lp_back h hr) k1 ls _ _ hG (lv_sub hl [1, 2, 0] rfl)
        · replace h := it_f h hc
          refine lv_aload_n hx hb d_M_looks_97 rfl (lv_at hl 0 rfl) ?_
          refine g_get C hG (hG.lt (Nat.le_of_ble_eq_true rfl)) (ce49 w _) rfl inC8 19 (Nat.le_of_ble_eq_true rfl) qw695 rfl d_M_looks_98 ?_
          refine lv_iload_n hx hb d_M_looks_101 rfl (lv_at hl 2 rfl) ?_
          obtain ⟨hi2, h⟩ := chk_some h
          refine g_zald (j := ix x2) C hG (hG.lt (Nat.le_of_ble_eq_true rfl)) (ce65 w _) (inb_in hi2) rfl d_M_looks_102 ?_
          refine lv_if_ne (tgt := 110) hx hb d_M_looks_103 (by decide) (fun hc => ?_) (fun hc => ?_)
          · replace h := it_f h hc
            refine lv_aload_n hx hb d_M_looks_110 rfl (lv_at hl 0 rfl) ?_
            refine g_get C hG (hG.lt (Nat.le_of_ble_eq_true rfl)) (ce49 w _) rfl inC8 20 (Nat.le_of_ble_eq_true rfl) qw696 rfl d_M_looks_111 ?_
            refine g_put (x := S 49 20) C hG (hG.lt (Nat.le_of_ble_eq_true rfl)) (ce49 w _) rfl inC8 okC8 nmC8 20 (Nat.le_of_ble_eq_true rfl) qw696 rfl rfl rfl (Nat.le_of_ble_eq_true rfl) rfl d_M_looks_114 (fun H locs hG => ?_)
            refine lv_iinc (v := x2 + 1) (lv' := [(2, .int (x2 + 1)), (0, .ref (gad w 49)), (1, .int x1)]) hx hb d_M_looks_117 hl (k := 2) rfl (congrArg (HAdd.hAdd x2) (by decide : Int32.ofInt 1 = 1)) (by decide) rfl (fun ls hl => ?_)
            refine lv_goto (tgt := 28) hx hb d_M_looks_120 (by decide) ?_
            exact ih _ _ _ (lp_back h hr) k1 ls _ _ hG (lv_sub hl [1, 2, 0] rfl)
          · replace h := it_t h hc
            refine lv_iload_n hx hb d_M_looks_106 rfl (lv_at hl 2 rfl) ?_
            refine lv_goto (tgt := 114) hx hb d_M_looks_107 (by decide) ?_
            refine g_put (x := x2) C hG (hG.lt (Nat.le_of_ble_eq_true rfl)) (ce49 w _) rfl inC8 okC8 nmC8 20 (Nat.le_of_ble_eq_true rfl) qw696 rfl rfl rfl (Nat.le_of_ble_eq_true rfl) rfl d_M_looks_114 (fun H locs hG => ?_)
            refine lv_iinc (v := x2 + 1) (lv' := [(2, .int (x2 + 1)), (0, .ref (gad w 49)), (1, .int x1)]) hx hb d_M_looks_117 hl (k := 2) rfl (congrArg (HAdd.hAdd x2) (by decide : Int32.ofInt 1 = 1)) (by decide) rfl (fun ls hl => ?_)
            refine lv_goto (tgt := 28) hx hb d_M_looks_120 (by decide) ?_
            exact ih _ _ _ (lp_back h hr) k1 ls _ _ hG (lv_sub hl [1, 2, 0] rfl)
    have J59 : ∀ (S : St) (x2 : Int32) (t1 : Int32) (t2 : Int32), M_looks_J59 S x1 x2 t1 t2 = some z → ∀ (ls : Array Slot) (H : Heap) (locs : List Loc), GH w s A S H locs → lv_has ls 3 [(0, .ref (gad w 49)), (1, .int x1), (2, .int x2)] → W p l e (rmm 3 70) s m args below meth c H locs 0 0 Q (F0 m 59 ls [.int t2, .int t1, .ref (gad w 65)]) := by
      intro S x2 t1 t2 h ls H locs hG hl
      unfold M_looks_J59 at h
      obtain ⟨hi3, h⟩ := chk_some h
      obtain ⟨hi4, h⟩ := chk_some h
      refine g_zast (j := ix t1) (x := t2) C hG (hG.lt (Nat.le_of_ble_eq_true rfl)) (ce65 w) (inb_in hi3) rfl (isz_in hi4) d_M_looks_59 (fun H locs hG => ?_)
      refine lv_aload_n hx hb d_M_looks_60 rfl (lv_at hl 0 rfl) ?_
      refine g_get C hG (hG.lt (Nat.le_of_ble_eq_true rfl)) (ce49 w _) rfl inC8 19 (Nat.le_of_ble_eq_true rfl) qw695 rfl d_M_looks_61 ?_
      refine lv_iload_n hx hb d_M_looks_64 rfl (lv_at hl 2 rfl) ?_
      obtain ⟨hi5, h⟩ := chk_some h
      refine g_zald (j := ix x2) C hG (hG.lt (Nat.le_of_ble_eq_true rfl)) (ce65 w _) (inb_in hi5) rfl d_M_looks_65 ?_
      refine lv_if_eq (tgt := 83) hx hb d_M_looks_66 (by decide) (fun hc => ?_) (fun hc => ?_)
      · replace h := it_t h hc
        exact J83 _ _ h ls _ _ hG (lv_sub hl [0, 1, 2] rfl)
      · replace h := it_f h hc
        refine lv_aload_n hx hb d_M_looks_69 rfl (lv_at hl 0 rfl) ?_
        refine g_get C hG (hG.lt (Nat.le_of_ble_eq_true rfl)) (ce49 w _) rfl inC8 18 (Nat.le_of_ble_eq_true rfl) qw694 rfl d_M_looks_70 ?_
        refine lv_aload_n hx hb d_M_looks_73 rfl (lv_at hl 0 rfl) ?_
        refine g_get C hG (hG.lt (Nat.le_of_ble_eq_true rfl)) (ce49 w _) rfl inC8 9 (Nat.le_of_ble_eq_true rfl) qw685 rfl d_M_looks_74 ?_
        refine lv_iconst (v := 3) hx hb d_M_looks_77 (by decide) ?_
        refine lv_iload_n hx hb d_M_looks_78 rfl (lv_at hl 2 rfl) ?_
        refine lv_imul hx hb d_M_looks_79 ?_
        obtain ⟨hi6, h⟩ := chk_some h
        refine g_iald (j := ix (3 * x2)) C hG (hG.lt (Nat.le_of_ble_eq_true rfl)) (ce55 w _) (inb_in hi6) rfl d_M_looks_80 ?_
        refine lv_iload_n hx hb d_M_looks_81 rfl (lv_at hl 2 rfl) ?_
        obtain ⟨hi7, h⟩ := chk_some h
        refine g_iast (j := ix ((up S 65 (ix t1) t2) 55 (ix (3 * x2)))) (x := x2) C hG (hG.lt (Nat.le_of_ble_eq_true rfl)) (ce64 w) (inb_in hi7) rfl d_M_looks_82 (fun H locs hG => ?_)
        exact J83 _ _ h ls _ _ hG (lv_sub hl [0, 1, 2] rfl)
    have J58 : ∀ (S : St) (x2 : Int32) (t1 : Int32), M_looks_J58 S x1 x2 t1 = some z → ∀ (ls : Array Slot) (H : Heap) (locs : List Loc), GH w s A S H locs → lv_has ls 3 [(0, .ref (gad w 49)), (1, .int x1), (2, .int x2)] → W p l e (rmm 3 70) s m args below meth c H locs 0 0 Q (F0 m 58 ls [.int t1, .ref (gad w 65)]) := by
      intro S x2 t1 h ls H locs hG hl
      unfold M_looks_J58 at h
      refine lv_iconst (v := 0) hx hb d_M_looks_58 (by decide) ?_
      exact J59 _ _ _ _ h ls _ _ hG (lv_sub hl [0, 1, 2] rfl)
    unfold M_looks_L28 at h
    refine lv_iload_n hx hb d_M_looks_28 rfl (lv_at hl 2 rfl) ?_
    refine lv_aload_n hx hb d_M_looks_29 rfl (lv_at hl 0 rfl) ?_
    refine g_get C hG (hG.lt (Nat.le_of_ble_eq_true rfl)) (ce49 w _) rfl inC8 8 (Nat.le_of_ble_eq_true rfl) qw684 rfl d_M_looks_30 ?_
    refine lv_icmp_ge (tgt := 123) hx hb d_M_looks_33 (by decide) (fun hc => ?_) (fun hc => ?_)
    · replace h := it_t h hc
      exact k1 _ _ (lp_exit h hr) ls _ _ hG (lv_sub hl [] rfl)
    · replace h := it_f h hc
      refine lv_aload_n hx hb d_M_looks_36 rfl (lv_at hl 0 rfl) ?_
      refine g_get C hG (hG.lt (Nat.le_of_ble_eq_true rfl)) (ce49 w _) rfl inC8 19 (Nat.le_of_ble_eq_true rfl) qw695 rfl d_M_looks_37 ?_
      refine lv_iload_n hx hb d_M_looks_40 rfl (lv_at hl 2 rfl) ?_
      refine lv_iload_n hx hb d_M_looks_41 rfl (lv_at hl 2 rfl) ?_
      refine lv_iload_n hx hb d_M_looks_42 rfl (lv_at hl 1 rfl) ?_
      refine lv_icmp_eq (tgt := 58) hx hb d_M_looks_43 (by decide) (fun hc => ?_) (fun hc => ?_)
      · replace h := it_t h hc
        exact J58 _ _ _ h ls _ _ hG (lv_sub hl [0, 1, 2] rfl)
      · replace h := it_f h hc
        refine lv_aload_n hx hb d_M_looks_46 rfl (lv_at hl 0 rfl) ?_
        refine lv_iload_n hx hb d_M_looks_47 rfl (lv_at hl 2 rfl) ?_
        obtain ⟨z1, hz1, h⟩ := bnd_some h
        refine g_goi hG (g_runV (As := [.int x2]) (rest := [.int x2, .ref (gad w 65)]) C hG (c_M_isHolding l w S x2 hz1 _) (hG.lt (Nat.le_of_ble_eq_true rfl)) (ce49 w _) rfl vw_M_174 rfl rfl ⟨by decide, by decide⟩ rfl hl.1 rfl (Nat.le_of_ble_eq_true rfl) d_M_looks_48 ⟨Nat.zero_le _, Nat.zero_le _⟩) (fun H locs hG => ?_)
        refine lv_if_eq (tgt := 58) hx hb d_M_looks_51 (by decide) (fun hc => ?_) (fun hc => ?_)
        · replace h := it_t h hc
          exact J58 _ _ _ h ls _ _ hG (lv_sub hl [0, 1, 2] rfl)
        · replace h := it_f h hc
          refine lv_iconst (v := 1) hx hb d_M_looks_54 (by decide) ?_
          refine lv_goto (tgt := 59) hx hb d_M_looks_55 (by decide) ?_
          exact J59 _ _ _ _ h ls _ _ hG (lv_sub hl [0, 1, 2] rfl)
set_option maxHeartbeats 4000000 in
set_option maxRecDepth 100000 in
theorem c_M_looks (l : Launch) (w : gw) (S : St) (x1 : Int32)  {z : St} (h : (M_looks S x1) = some z) : gMv l w y_M_looks b_M_looks 3 none (rmm 3 70) [.ref (gad w 49), .int x1] S z := by
  unfold M_looks at h
  refine g_met (Qc := gQv w z) (by decide +kernel) (Nat.le_of_ble_eq_true rfl) ?_
  intro p e s m args below meth c A Q ls hQ C hG hl
  have hx := C.1
  have hb := C.2.1
  have hl : lv_has ls 3 [(0, .ref (gad w 49)), (1, .int x1)] := hl
  have J123 : ∀ (S : St), M_looks_J123 S = some z → ∀ (ls : Array Slot) (H : Heap) (locs : List Loc), GH w s A S H locs → lv_has ls 3 [] → W p l e (rmm 3 70) s m args below meth c H locs 0 0 Q (F0 m 123 ls []) := by
    intro S h ls H locs hG hl
    unfold M_looks_J123 at h
    exact g_vret C hG (Option.some.inj h) hQ d_M_looks_123
  have J26 : ∀ (S : St), M_looks_J26 S x1 = some z → ∀ (ls : Array Slot) (H : Heap) (locs : List Loc), GH w s A S H locs → lv_has ls 3 [(0, .ref (gad w 49)), (1, .int x1)] → W p l e (rmm 3 70) s m args below meth c H locs 0 0 Q (F0 m 26 ls []) := by
    intro S h ls H locs hG hl
    unfold M_looks_J26 at h
    refine lv_iconst (v := 0) hx hb d_M_looks_26 (by decide) ?_
    refine lv_istore_n (lv' := [(2, .int 0), (0, .ref (gad w 49)), (1, .int x1)]) hx hb d_M_looks_27 rfl hl (by decide) rfl (fun ls hl => ?_)
    obtain ⟨z2, hz2, h⟩ := bnd_some h
    refine L_M_looks_28 C _ FZ _ _ _ hz2 ?_ ls _ _ hG (lv_sub hl [1, 2, 0] rfl)
    intro y2 Sy e9 ls H locs hG hl
    subst e9
    exact J123 _ h ls _ _ hG (lv_sub hl [] rfl)
  refine lv_aload_n hx hb d_M_looks_0 rfl (lv_at hl 0 rfl) ?_
  refine lv_iconst (v := (-1)) hx hb d_M_looks_1 (by decide) ?_
  refine g_put (x := (-1)) C hG (hG.lt (Nat.le_of_ble_eq_true rfl)) (ce49 w _) rfl inC8 okC8 nmC8 20 (Nat.le_of_ble_eq_true rfl) qw696 rfl rfl rfl (Nat.le_of_ble_eq_true rfl) rfl d_M_looks_2 (fun H locs hG => ?_)
  refine lv_iconst (v := 0) hx hb d_M_looks_5 (by decide) ?_
  refine lv_istore_n (lv' := [(2, .int 0), (0, .ref (gad w 49)), (1, .int x1)]) hx hb d_M_looks_6 rfl hl (by decide) rfl (fun ls hl => ?_)
  obtain ⟨z3, hz3, h⟩ := bnd_some h
  refine L_M_looks_7 C _ FZ _ _ _ hz3 ?_ ls _ _ hG (lv_sub hl [1, 2, 0] rfl)
  intro y2 Sy e9 ls H locs hG hl
  subst e9
  exact J26 _ h ls _ _ hG (lv_sub hl [0, 1] rfl)
theorem d_M_find_0 : decode b_M_find 0 = .ok (.aload_n 0, 1) := by decide +kernel
theorem d_M_find_1 : decode b_M_find 1 = .ok (.invokevirtual 137, 3) := by decide +kernel
theorem d_M_find_4 : decode b_M_find 4 = .ok (.pop, 1) := by decide +kernel
theorem d_M_find_5 : decode b_M_find 5 = .ok (.aload_n 0, 1) := by decide +kernel
theorem d_M_find_6 : decode b_M_find 6 = .ok (.iconst (-1), 1) := by decide +kernel
theorem d_M_find_7 : decode b_M_find 7 = .ok (.invokevirtual 177, 3) := by decide +kernel
theorem d_M_find_10 : decode b_M_find 10 = .ok (.return_, 1) := by decide +kernel
noncomputable def M_find (S : St) : Option (St) :=
  bnd (M_reads S) fun z1 =>
    bnd (M_looks z1.2 (-1)) fun z2 =>
    some z2
set_option maxHeartbeats 4000000 in
set_option maxRecDepth 100000 in
theorem c_M_find (l : Launch) (w : gw) (S : St)   {z : St} (h : (M_find S) = some z) : gMv l w y_M_find b_M_find 1 none (rmm 4 92) [.ref (gad w 49)] S z := by
  unfold M_find at h
  refine g_met (Qc := gQv w z) (by decide +kernel) (Nat.le_of_ble_eq_true rfl) ?_
  intro p e s m args below meth c A Q ls hQ C hG hl
  have hx := C.1
  have hb := C.2.1
  have hl : lv_has ls 1 [(0, .ref (gad w 49))] := hl
  refine lv_aload_n hx hb d_M_find_0 rfl (lv_at hl 0 rfl) ?_
  obtain ⟨z1, hz1, h⟩ := bnd_some h
  refine g_goi hG (g_runV (As := []) (rest := []) C hG (c_M_reads l w S hz1 _) (hG.lt (Nat.le_of_ble_eq_true rfl)) (ce49 w _) rfl vw_M_137 rfl rfl ⟨by decide, by decide⟩ rfl hl.1 rfl (Nat.le_of_ble_eq_true rfl) d_M_find_1 ⟨Nat.zero_le _, Nat.zero_le _⟩) (fun H locs hG => ?_)
  refine lv_pop hx hb d_M_find_4 rfl ?_
  refine lv_aload_n hx hb d_M_find_5 rfl (lv_at hl 0 rfl) ?_
  refine lv_iconst (v := (-1)) hx hb d_M_find_6 (by decide) ?_
  obtain ⟨z2, hz2, h⟩ := bnd_some h
  refine g_gov hG (g_runV (As := [.int (-1)]) (rest := []) C hG (c_M_looks l w z1.2 (-1) hz2 _) (hG.lt (Nat.le_of_ble_eq_true rfl)) (ce49 w _) rfl vw_M_177 rfl rfl ⟨by decide, by decide⟩ rfl hl.1 rfl (Nat.le_of_ble_eq_true rfl) d_M_find_7 ⟨Nat.zero_le _, Nat.zero_le _⟩) (fun H locs hG => ?_)
  exact g_vret C hG (Option.some.inj h) hQ d_M_find_10
theorem d_M_holds_0 : decode b_M_holds 0 = .ok (.aload_n 0, 1) := by decide +kernel
theorem d_M_holds_1 : decode b_M_holds 1 = .ok (.invokevirtual 181, 3) := by decide +kernel
theorem d_M_holds_4 : decode b_M_holds 4 = .ok (.iload_n 1, 1) := by decide +kernel
theorem d_M_holds_5 : decode b_M_holds 5 = .ok (.i2l, 1) := by decide +kernel
theorem d_M_holds_6 : decode b_M_holds 6 = .ok (.lconst 0, 1) := by decide +kernel
theorem d_M_holds_7 : decode b_M_holds 7 = .ok (.aload_n 0, 1) := by decide +kernel
theorem d_M_holds_8 : decode b_M_holds 8 = .ok (.getfield 119, 3) := by decide +kernel
theorem d_M_holds_11 : decode b_M_holds 11 = .ok (.iconst 1, 1) := by decide +kernel
theorem d_M_holds_12 : decode b_M_holds 12 = .ok (.isub, 1) := by decide +kernel
theorem d_M_holds_13 : decode b_M_holds 13 = .ok (.i2l, 1) := by decide +kernel
theorem d_M_holds_14 : decode b_M_holds 14 = .ok (.invokestatic 82, 3) := by decide +kernel
theorem d_M_holds_17 : decode b_M_holds 17 = .ok (.ifCond .eq 20, 3) := by decide +kernel
theorem d_M_holds_20 : decode b_M_holds 20 = .ok (.aload_n 0, 1) := by decide +kernel
theorem d_M_holds_21 : decode b_M_holds 21 = .ok (.getfield 55, 3) := by decide +kernel
theorem d_M_holds_24 : decode b_M_holds 24 = .ok (.iload_n 1, 1) := by decide +kernel
theorem d_M_holds_25 : decode b_M_holds 25 = .ok (.baload, 1) := by decide +kernel
theorem d_M_holds_26 : decode b_M_holds 26 = .ok (.ifCond .eq 7, 3) := by decide +kernel
theorem d_M_holds_29 : decode b_M_holds 29 = .ok (.iconst 1, 1) := by decide +kernel
theorem d_M_holds_30 : decode b_M_holds 30 = .ok (.goto 9, 3) := by decide +kernel
theorem d_M_holds_33 : decode b_M_holds 33 = .ok (.iconst 0, 1) := by decide +kernel
theorem d_M_holds_34 : decode b_M_holds 34 = .ok (.goto 5, 3) := by decide +kernel
theorem d_M_holds_37 : decode b_M_holds 37 = .ok (.bipush (-2), 2) := by decide +kernel
theorem d_M_holds_39 : decode b_M_holds 39 = .ok (.ireturn, 1) := by decide +kernel
noncomputable def M_holds (S : St) (x1 : Int32) : Option (Int32 × St) :=
  bnd (M_find S) fun z1 =>
    if (M_in x1.toInt64 0 (((z1 49 8) - 1).toInt64)) = 0 then
      some ((-2), z1)
    else
      chk (inb x1 20) <|
      if (z1 65 (ix x1)) = 0 then
        some (0, z1)
      else
        some (1, z1)
set_option maxHeartbeats 4000000 in
set_option maxRecDepth 100000 in
theorem c_M_holds (l : Launch) (w : gw) (S : St) (x1 : Int32)  {z : Int32 × St} (h : (M_holds S x1) = some z) : gMi l w y_M_holds b_M_holds 2 (some .int) (rmm 5 112) [.ref (gad w 49), .int x1] S z.1 z.2 := by
  unfold M_holds at h
  refine g_met (Qc := gQi w z.1 z.2) (by decide +kernel) (Nat.le_of_ble_eq_true rfl) ?_
  intro p e s m args below meth c A Q ls hQ C hG hl
  have hx := C.1
  have hb := C.2.1
  have hl : lv_has ls 2 [(0, .ref (gad w 49)), (1, .int x1)] := hl
  refine lv_aload_n hx hb d_M_holds_0 rfl (lv_at hl 0 rfl) ?_
  obtain ⟨z1, hz1, h⟩ := bnd_some h
  refine g_gov hG (g_runV (As := []) (rest := []) C hG (c_M_find l w S hz1 _) (hG.lt (Nat.le_of_ble_eq_true rfl)) (ce49 w _) rfl vw_M_181 rfl rfl ⟨by decide, by decide⟩ rfl hl.1 rfl (Nat.le_of_ble_eq_true rfl) d_M_holds_1 ⟨Nat.zero_le _, Nat.zero_le _⟩) (fun H locs hG => ?_)
  refine lv_iload_n hx hb d_M_holds_4 rfl (lv_at hl 1 rfl) ?_
  refine lv_i2l (v := x1.toInt64) hx hb d_M_holds_5 rfl ?_
  refine lv_lconst (v := 0) hx hb d_M_holds_6 (by decide) ?_
  refine lv_aload_n hx hb d_M_holds_7 rfl (lv_at hl 0 rfl) ?_
  refine g_get C hG (hG.lt (Nat.le_of_ble_eq_true rfl)) (ce49 w _) rfl inC8 8 (Nat.le_of_ble_eq_true rfl) qw684 rfl d_M_holds_8 ?_
  refine lv_iconst (v := 1) hx hb d_M_holds_11 (by decide) ?_
  refine lv_isub hx hb d_M_holds_12 ?_
  refine lv_i2l (v := ((z1 49 8) - 1).toInt64) hx hb d_M_holds_13 rfl ?_
  refine g_goi hG (g_runS (As := [.long x1.toInt64, .long 0, .long (((z1 49 8) - 1).toInt64)]) (rest := []) C hG (c_M_in l w z1 x1.toInt64 0 (((z1 49 8) - 1).toInt64) _) sw_M_82 rfl rfl ⟨by decide, by decide⟩ rfl hl.1 rfl (Nat.le_of_ble_eq_true rfl) d_M_holds_14 ⟨Nat.zero_le _, Nat.zero_le _⟩) (fun H locs hG => ?_)
  refine lv_if_eq (tgt := 37) hx hb d_M_holds_17 (by decide) (fun hc => ?_) (fun hc => ?_)
  · replace h := it_t h hc
    refine lv_bipush (v := (-2)) hx hb d_M_holds_37 (by decide) ?_
    exact g_iret C hG (sm_fst h) (sm_snd h) hQ d_M_holds_39
  · replace h := it_f h hc
    refine lv_aload_n hx hb d_M_holds_20 rfl (lv_at hl 0 rfl) ?_
    refine g_get C hG (hG.lt (Nat.le_of_ble_eq_true rfl)) (ce49 w _) rfl inC8 19 (Nat.le_of_ble_eq_true rfl) qw695 rfl d_M_holds_21 ?_
    refine lv_iload_n hx hb d_M_holds_24 rfl (lv_at hl 1 rfl) ?_
    obtain ⟨hi1, h⟩ := chk_some h
    refine g_zald (j := ix x1) C hG (hG.lt (Nat.le_of_ble_eq_true rfl)) (ce65 w _) (inb_in hi1) rfl d_M_holds_25 ?_
    refine lv_if_eq (tgt := 33) hx hb d_M_holds_26 (by decide) (fun hc => ?_) (fun hc => ?_)
    · replace h := it_t h hc
      refine lv_iconst (v := 0) hx hb d_M_holds_33 (by decide) ?_
      refine lv_goto (tgt := 39) hx hb d_M_holds_34 (by decide) ?_
      exact g_iret C hG (sm_fst h) (sm_snd h) hQ d_M_holds_39
    · replace h := it_f h hc
      refine lv_iconst (v := 1) hx hb d_M_holds_29 (by decide) ?_
      refine lv_goto (tgt := 39) hx hb d_M_holds_30 (by decide) ?_
      exact g_iret C hG (sm_fst h) (sm_snd h) hQ d_M_holds_39
theorem d_M_judged_0 : decode b_M_judged 0 = .ok (.aload_n 0, 1) := by decide +kernel
theorem d_M_judged_1 : decode b_M_judged 1 = .ok (.invokevirtual 181, 3) := by decide +kernel
theorem d_M_judged_4 : decode b_M_judged 4 = .ok (.aload_n 0, 1) := by decide +kernel
theorem d_M_judged_5 : decode b_M_judged 5 = .ok (.getfield 171, 3) := by decide +kernel
theorem d_M_judged_8 : decode b_M_judged 8 = .ok (.ireturn, 1) := by decide +kernel
noncomputable def M_judged (S : St) : Option (Int32 × St) :=
  bnd (M_find S) fun z1 =>
    some (z1 49 20, z1)
set_option maxHeartbeats 4000000 in
set_option maxRecDepth 100000 in
theorem c_M_judged (l : Launch) (w : gw) (S : St)   {z : Int32 × St} (h : (M_judged S) = some z) : gMi l w y_M_judged b_M_judged 1 (some .int) (rmm 5 112) [.ref (gad w 49)] S z.1 z.2 := by
  unfold M_judged at h
  refine g_met (Qc := gQi w z.1 z.2) (by decide +kernel) (Nat.le_of_ble_eq_true rfl) ?_
  intro p e s m args below meth c A Q ls hQ C hG hl
  have hx := C.1
  have hb := C.2.1
  have hl : lv_has ls 1 [(0, .ref (gad w 49))] := hl
  refine lv_aload_n hx hb d_M_judged_0 rfl (lv_at hl 0 rfl) ?_
  obtain ⟨z1, hz1, h⟩ := bnd_some h
  refine g_gov hG (g_runV (As := []) (rest := []) C hG (c_M_find l w S hz1 _) (hG.lt (Nat.le_of_ble_eq_true rfl)) (ce49 w _) rfl vw_M_181 rfl rfl ⟨by decide, by decide⟩ rfl hl.1 rfl (Nat.le_of_ble_eq_true rfl) d_M_judged_1 ⟨Nat.zero_le _, Nat.zero_le _⟩) (fun H locs hG => ?_)
  refine lv_aload_n hx hb d_M_judged_4 rfl (lv_at hl 0 rfl) ?_
  refine g_get C hG (hG.lt (Nat.le_of_ble_eq_true rfl)) (ce49 w _) rfl inC8 20 (Nat.le_of_ble_eq_true rfl) qw696 rfl d_M_judged_5 ?_
  exact g_iret C hG (sm_fst h) (sm_snd h) hQ d_M_judged_8
theorem d_M_owner_0 : decode b_M_owner 0 = .ok (.aload_n 0, 1) := by decide +kernel
theorem d_M_owner_1 : decode b_M_owner 1 = .ok (.invokevirtual 181, 3) := by decide +kernel
theorem d_M_owner_4 : decode b_M_owner 4 = .ok (.iload_n 1, 1) := by decide +kernel
theorem d_M_owner_5 : decode b_M_owner 5 = .ok (.invokestatic 152, 3) := by decide +kernel
theorem d_M_owner_8 : decode b_M_owner 8 = .ok (.ifCond .eq 11, 3) := by decide +kernel
theorem d_M_owner_11 : decode b_M_owner 11 = .ok (.aload_n 0, 1) := by decide +kernel
theorem d_M_owner_12 : decode b_M_owner 12 = .ok (.iload_n 1, 1) := by decide +kernel
theorem d_M_owner_13 : decode b_M_owner 13 = .ok (.invokevirtual 162, 3) := by decide +kernel
theorem d_M_owner_16 : decode b_M_owner 16 = .ok (.goto 5, 3) := by decide +kernel
theorem d_M_owner_19 : decode b_M_owner 19 = .ok (.bipush (-2), 2) := by decide +kernel
theorem d_M_owner_21 : decode b_M_owner 21 = .ok (.ireturn, 1) := by decide +kernel
noncomputable def M_owner (S : St) (x1 : Int32) : Option (Int32 × St) :=
  bnd (M_find S) fun z1 =>
    if (M_isEvening x1) = 0 then
      some ((-2), z1)
    else
      bnd (M_ownerOf z1 x1) fun z2 =>
      some (z2, z1)
set_option maxHeartbeats 4000000 in
set_option maxRecDepth 100000 in
theorem c_M_owner (l : Launch) (w : gw) (S : St) (x1 : Int32)  {z : Int32 × St} (h : (M_owner S x1) = some z) : gMi l w y_M_owner b_M_owner 2 (some .int) (rmm 5 112) [.ref (gad w 49), .int x1] S z.1 z.2 := by
  unfold M_owner at h
  refine g_met (Qc := gQi w z.1 z.2) (by decide +kernel) (Nat.le_of_ble_eq_true rfl) ?_
  intro p e s m args below meth c A Q ls hQ C hG hl
  have hx := C.1
  have hb := C.2.1
  have hl : lv_has ls 2 [(0, .ref (gad w 49)), (1, .int x1)] := hl
  refine lv_aload_n hx hb d_M_owner_0 rfl (lv_at hl 0 rfl) ?_
  obtain ⟨z1, hz1, h⟩ := bnd_some h
  refine g_gov hG (g_runV (As := []) (rest := []) C hG (c_M_find l w S hz1 _) (hG.lt (Nat.le_of_ble_eq_true rfl)) (ce49 w _) rfl vw_M_181 rfl rfl ⟨by decide, by decide⟩ rfl hl.1 rfl (Nat.le_of_ble_eq_true rfl) d_M_owner_1 ⟨Nat.zero_le _, Nat.zero_le _⟩) (fun H locs hG => ?_)
  refine lv_iload_n hx hb d_M_owner_4 rfl (lv_at hl 1 rfl) ?_
  refine g_goi hG (g_runS (As := [.int x1]) (rest := []) C hG (c_M_isEvening l w z1 x1 _) sw_M_152 rfl rfl ⟨by decide, by decide⟩ rfl hl.1 rfl (Nat.le_of_ble_eq_true rfl) d_M_owner_5 ⟨Nat.zero_le _, Nat.zero_le _⟩) (fun H locs hG => ?_)
  refine lv_if_eq (tgt := 19) hx hb d_M_owner_8 (by decide) (fun hc => ?_) (fun hc => ?_)
  · replace h := it_t h hc
    refine lv_bipush (v := (-2)) hx hb d_M_owner_19 (by decide) ?_
    exact g_iret C hG (sm_fst h) (sm_snd h) hQ d_M_owner_21
  · replace h := it_f h hc
    refine lv_aload_n hx hb d_M_owner_11 rfl (lv_at hl 0 rfl) ?_
    refine lv_iload_n hx hb d_M_owner_12 rfl (lv_at hl 1 rfl) ?_
    obtain ⟨z2, hz2, h⟩ := bnd_some h
    refine g_goi hG (g_runV (As := [.int x1]) (rest := []) C hG (c_M_ownerOf l w z1 x1 hz2 _) (hG.lt (Nat.le_of_ble_eq_true rfl)) (ce49 w _) rfl vw_M_162 rfl rfl ⟨by decide, by decide⟩ rfl hl.1 rfl (Nat.le_of_ble_eq_true rfl) d_M_owner_13 ⟨Nat.zero_le _, Nat.zero_le _⟩) (fun H locs hG => ?_)
    refine lv_goto (tgt := 21) hx hb d_M_owner_16 (by decide) ?_
    exact g_iret C hG (sm_fst h) (sm_snd h) hQ d_M_owner_21
theorem d_M_priceOf_0 : decode b_M_priceOf 0 = .ok (.aload_n 0, 1) := by decide +kernel
theorem d_M_priceOf_1 : decode b_M_priceOf 1 = .ok (.getfield 52, 3) := by decide +kernel
theorem d_M_priceOf_4 : decode b_M_priceOf 4 = .ok (.iload_n 1, 1) := by decide +kernel
theorem d_M_priceOf_5 : decode b_M_priceOf 5 = .ok (.iaload, 1) := by decide +kernel
theorem d_M_priceOf_6 : decode b_M_priceOf 6 = .ok (.iconst (-1), 1) := by decide +kernel
theorem d_M_priceOf_7 : decode b_M_priceOf 7 = .ok (.if_icmp .ne 6, 3) := by decide +kernel
theorem d_M_priceOf_10 : decode b_M_priceOf 10 = .ok (.bipush (-3), 2) := by decide +kernel
theorem d_M_priceOf_12 : decode b_M_priceOf 12 = .ok (.ireturn, 1) := by decide +kernel
theorem d_M_priceOf_13 : decode b_M_priceOf 13 = .ok (.aload_n 0, 1) := by decide +kernel
theorem d_M_priceOf_14 : decode b_M_priceOf 14 = .ok (.getfield 46, 3) := by decide +kernel
theorem d_M_priceOf_17 : decode b_M_priceOf 17 = .ok (.iconst 1, 1) := by decide +kernel
theorem d_M_priceOf_18 : decode b_M_priceOf 18 = .ok (.iaload, 1) := by decide +kernel
theorem d_M_priceOf_19 : decode b_M_priceOf 19 = .ok (.ifCond .ne 9, 3) := by decide +kernel
theorem d_M_priceOf_22 : decode b_M_priceOf 22 = .ok (.aload_n 0, 1) := by decide +kernel
theorem d_M_priceOf_23 : decode b_M_priceOf 23 = .ok (.iload_n 1, 1) := by decide +kernel
theorem d_M_priceOf_24 : decode b_M_priceOf 24 = .ok (.invokevirtual 165, 3) := by decide +kernel
theorem d_M_priceOf_27 : decode b_M_priceOf 27 = .ok (.ireturn, 1) := by decide +kernel
theorem d_M_priceOf_28 : decode b_M_priceOf 28 = .ok (.aload_n 0, 1) := by decide +kernel
theorem d_M_priceOf_29 : decode b_M_priceOf 29 = .ok (.getfield 40, 3) := by decide +kernel
theorem d_M_priceOf_32 : decode b_M_priceOf 32 = .ok (.iload_n 1, 1) := by decide +kernel
theorem d_M_priceOf_33 : decode b_M_priceOf 33 = .ok (.iaload, 1) := by decide +kernel
theorem d_M_priceOf_34 : decode b_M_priceOf 34 = .ok (.istore_n 2, 1) := by decide +kernel
theorem d_M_priceOf_35 : decode b_M_priceOf 35 = .ok (.iconst 0, 1) := by decide +kernel
theorem d_M_priceOf_36 : decode b_M_priceOf 36 = .ok (.istore_n 3, 1) := by decide +kernel
theorem d_M_priceOf_37 : decode b_M_priceOf 37 = .ok (.iload_n 3, 1) := by decide +kernel
theorem d_M_priceOf_38 : decode b_M_priceOf 38 = .ok (.aload_n 0, 1) := by decide +kernel
theorem d_M_priceOf_39 : decode b_M_priceOf 39 = .ok (.getfield 119, 3) := by decide +kernel
theorem d_M_priceOf_42 : decode b_M_priceOf 42 = .ok (.if_icmp .ge 81, 3) := by decide +kernel
theorem d_M_priceOf_45 : decode b_M_priceOf 45 = .ok (.aload_n 0, 1) := by decide +kernel
theorem d_M_priceOf_46 : decode b_M_priceOf 46 = .ok (.getfield 55, 3) := by decide +kernel
theorem d_M_priceOf_49 : decode b_M_priceOf 49 = .ok (.iload_n 3, 1) := by decide +kernel
theorem d_M_priceOf_50 : decode b_M_priceOf 50 = .ok (.baload, 1) := by decide +kernel
theorem d_M_priceOf_51 : decode b_M_priceOf 51 = .ok (.ifCond .eq 29, 3) := by decide +kernel
theorem d_M_priceOf_54 : decode b_M_priceOf 54 = .ok (.iload_n 3, 1) := by decide +kernel
theorem d_M_priceOf_55 : decode b_M_priceOf 55 = .ok (.aload_n 0, 1) := by decide +kernel
theorem d_M_priceOf_56 : decode b_M_priceOf 56 = .ok (.getfield 52, 3) := by decide +kernel
theorem d_M_priceOf_59 : decode b_M_priceOf 59 = .ok (.iload_n 1, 1) := by decide +kernel
theorem d_M_priceOf_60 : decode b_M_priceOf 60 = .ok (.iaload, 1) := by decide +kernel
theorem d_M_priceOf_61 : decode b_M_priceOf 61 = .ok (.if_icmp .eq 19, 3) := by decide +kernel
theorem d_M_priceOf_64 : decode b_M_priceOf 64 = .ok (.aload_n 0, 1) := by decide +kernel
theorem d_M_priceOf_65 : decode b_M_priceOf 65 = .ok (.getfield 25, 3) := by decide +kernel
theorem d_M_priceOf_68 : decode b_M_priceOf 68 = .ok (.iconst 3, 1) := by decide +kernel
theorem d_M_priceOf_69 : decode b_M_priceOf 69 = .ok (.iload_n 3, 1) := by decide +kernel
theorem d_M_priceOf_70 : decode b_M_priceOf 70 = .ok (.imul, 1) := by decide +kernel
theorem d_M_priceOf_71 : decode b_M_priceOf 71 = .ok (.iaload, 1) := by decide +kernel
theorem d_M_priceOf_72 : decode b_M_priceOf 72 = .ok (.iload_n 1, 1) := by decide +kernel
theorem d_M_priceOf_73 : decode b_M_priceOf 73 = .ok (.if_icmp .ne 7, 3) := by decide +kernel
theorem d_M_priceOf_76 : decode b_M_priceOf 76 = .ok (.iconst 1, 1) := by decide +kernel
theorem d_M_priceOf_77 : decode b_M_priceOf 77 = .ok (.goto 4, 3) := by decide +kernel
theorem d_M_priceOf_80 : decode b_M_priceOf 80 = .ok (.iconst 0, 1) := by decide +kernel
theorem d_M_priceOf_81 : decode b_M_priceOf 81 = .ok (.istore 4, 2) := by decide +kernel
theorem d_M_priceOf_83 : decode b_M_priceOf 83 = .ok (.iload 4, 2) := by decide +kernel
theorem d_M_priceOf_85 : decode b_M_priceOf 85 = .ok (.ifCond .eq 30, 3) := by decide +kernel
theorem d_M_priceOf_88 : decode b_M_priceOf 88 = .ok (.aload_n 0, 1) := by decide +kernel
theorem d_M_priceOf_89 : decode b_M_priceOf 89 = .ok (.getfield 25, 3) := by decide +kernel
theorem d_M_priceOf_92 : decode b_M_priceOf 92 = .ok (.iconst 3, 1) := by decide +kernel
theorem d_M_priceOf_93 : decode b_M_priceOf 93 = .ok (.iload_n 3, 1) := by decide +kernel
theorem d_M_priceOf_94 : decode b_M_priceOf 94 = .ok (.imul, 1) := by decide +kernel
theorem d_M_priceOf_95 : decode b_M_priceOf 95 = .ok (.iconst 2, 1) := by decide +kernel
theorem d_M_priceOf_96 : decode b_M_priceOf 96 = .ok (.iadd, 1) := by decide +kernel
theorem d_M_priceOf_97 : decode b_M_priceOf 97 = .ok (.iaload, 1) := by decide +kernel
theorem d_M_priceOf_98 : decode b_M_priceOf 98 = .ok (.iload_n 2, 1) := by decide +kernel
theorem d_M_priceOf_99 : decode b_M_priceOf 99 = .ok (.if_icmp .le 16, 3) := by decide +kernel
theorem d_M_priceOf_102 : decode b_M_priceOf 102 = .ok (.aload_n 0, 1) := by decide +kernel
theorem d_M_priceOf_103 : decode b_M_priceOf 103 = .ok (.getfield 25, 3) := by decide +kernel
theorem d_M_priceOf_106 : decode b_M_priceOf 106 = .ok (.iconst 3, 1) := by decide +kernel
theorem d_M_priceOf_107 : decode b_M_priceOf 107 = .ok (.iload_n 3, 1) := by decide +kernel
theorem d_M_priceOf_108 : decode b_M_priceOf 108 = .ok (.imul, 1) := by decide +kernel
theorem d_M_priceOf_109 : decode b_M_priceOf 109 = .ok (.iconst 2, 1) := by decide +kernel
theorem d_M_priceOf_110 : decode b_M_priceOf 110 = .ok (.iadd, 1) := by decide +kernel
theorem d_M_priceOf_111 : decode b_M_priceOf 111 = .ok (.iaload, 1) := by decide +kernel
theorem d_M_priceOf_112 : decode b_M_priceOf 112 = .ok (.goto 4, 3) := by decide +kernel
theorem d_M_priceOf_115 : decode b_M_priceOf 115 = .ok (.iload_n 2, 1) := by decide +kernel
theorem d_M_priceOf_116 : decode b_M_priceOf 116 = .ok (.istore_n 2, 1) := by decide +kernel
theorem d_M_priceOf_117 : decode b_M_priceOf 117 = .ok (.iinc 3 1, 3) := by decide +kernel
theorem d_M_priceOf_120 : decode b_M_priceOf 120 = .ok (.goto (-83), 3) := by decide +kernel
theorem d_M_priceOf_123 : decode b_M_priceOf 123 = .ok (.iload_n 2, 1) := by decide +kernel
theorem d_M_priceOf_124 : decode b_M_priceOf 124 = .ok (.ireturn, 1) := by decide +kernel
noncomputable def M_priceOf_J81 (S : St) (x1 : Int32) (x2 : Int32) (x3 : Int32) (t0 : Int32) : Option ((Int32 × Int32) × Nat) :=
  if t0 = 0 then
      some ((x2, x3 + 1), 0)
    else
      chk (inb ((3 * x3) + 2) 60) <|
      if (S 55 (ix ((3 * x3) + 2))) ≤ x2 then
        some ((x2, x3 + 1), 0)
      else
        chk (inb ((3 * x3) + 2) 60) <|
        some ((S 55 (ix ((3 * x3) + 2)), x3 + 1), 0)
noncomputable def M_priceOf_J80 (S : St) (x1 : Int32) (x2 : Int32) (x3 : Int32) : Option ((Int32 × Int32) × Nat) :=
  M_priceOf_J81 S x1 x2 x3 0
noncomputable def M_priceOf_L37 (S : St) (x1 : Int32) (x2 : Int32) (x3 : Int32) : Option ((Int32 × Int32) × Nat) :=
  if (S 49 8) ≤ x3 then
      some ((x2, x3), 1)
    else
      chk (inb x3 20) <|
      if (S 65 (ix x3)) = 0 then
        M_priceOf_J80 S x1 x2 x3
      else
        chk (inb x1 10) <|
        if x3 = (S 64 (ix x1)) then
          M_priceOf_J80 S x1 x2 x3
        else
          chk (inb (3 * x3) 60) <|
          if (S 55 (ix (3 * x3))) = x1 then
            M_priceOf_J81 S x1 x2 x3 1
          else
            M_priceOf_J80 S x1 x2 x3
noncomputable def M_priceOf_J123 (S : St) (x2 : Int32) : Option (Int32) :=
  some x2
noncomputable def M_priceOf (S : St) (x1 : Int32) : Option (Int32) :=
  chk (inb x1 10) <|
    if (S 64 (ix x1)) = (-1) then
      some (-3)
    else
      if (S 62 1) = 0 then
        bnd (M_amountOf S x1) fun z2 =>
        some z2
      else
        chk (inb x1 10) <|
        bnd (lp (σ := Int32 × Int32) (fun q => M_priceOf_L37 S x1 q.1 q.2) FZ (S 60 (ix x1), 0)) fun z1 =>
        M_priceOf_J123 S z1.1.1
set_option maxHeartbeats 4000000 in
set_option maxRecDepth 100000 in
theorem L_M_priceOf_37 (C : gCx p s m args meth c y_M_priceOf.cls b_M_priceOf 5 (some .int)) : ∀ (S : St) (x1 : Int32) (n : Nat) (x2 : Int32) (x3 : Int32) (r : (Int32 × Int32) × Nat), lp (σ := Int32 × Int32) (fun q => M_priceOf_L37 S x1 q.1 q.2) n (x2, x3) = some r → (∀ (y2 : Int32) (y3 : Int32), r = ((y2, y3), 1) → ∀ (ls : Array Slot) (H : Heap) (locs : List Loc), GH w s A S H locs → lv_has ls 5 [(2, .int y2)] → W p l e (rmm 1 21) s m args below meth c H locs 0 0 Q (F0 m 123 ls [])) → ∀ (ls : Array Slot) (H : Heap) (locs : List Loc), GH w s A S H locs → lv_has ls 5 [(0, .ref (gad w 49)), (1, .int x1), (2, .int x2), (3, .int x3)] → W p l e (rmm 1 21) s m args below meth c H locs 0 0 Q (F0 m 37 ls []) := by
  have hx := C.1
  have hb := C.2.1
  intro S x1 n
  induction n with
  | zero => intro x2 x3 r h; cases h
  | succ n ih =>
    intro x2 x3 r h k1 ls H locs hG hl
    obtain ⟨z, h, hr⟩ := lp_succ h
    have h : M_priceOf_L37 S x1 x2 x3 = some z := h
    have J81 : ∀ (x2 : Int32) (x3 : Int32) (t0 : Int32), M_priceOf_J81 S x1 x2 x3 t0 = some z → ∀ (ls : Array Slot) (H : Heap) (locs : List Loc), GH w s A S H locs → lv_has ls 5 [(0, .ref (gad w 49)), (1, .int x1), (2, .int x2), (3, .int x3)] → W p l e (rmm 1 21) s m args below meth c H locs 0 0 Q (F0 m 81 ls [.int t0]) := by
      intro x2 x3 t0 h ls H locs hG hl
      unfold M_priceOf_J81 at h
      refine lv_istore (lv' := [(4, .int t0), (0, .ref (gad w 49)), (1, .int x1), (2, .int x2), (3, .int x3)]) hx hb d_M_priceOf_81 hl (by decide) rfl (fun ls hl => ?_)
      refine lv_iload hx hb d_M_priceOf_83 (lv_at hl 0 rfl) ?_
      refine lv_if_eq (tgt := 115) hx hb d_M_priceOf_85 (by decide) (fun hc => ?_) (fun hc => ?_)
      · replace h := it_t h hc
        refine lv_iload_n hx hb d_M_priceOf_115 rfl (lv_at hl 3 rfl) ?_
        refine lv_istore_n (lv' := [(2, .int x2), (4, .int t0), (0, .ref (gad w 49)), (1, .int x1), (3, .int x3)]) hx hb d_M_priceOf_116 rfl hl (by decide) rfl (fun ls hl => ?_)
        refine lv_iinc (v := x3 + 1) (lv' := [(3, .int (x3 + 1)), (2, .int x2), (4, .int t0), (0, .ref (gad w 49)), (1, .int x1)]) hx hb d_M_priceOf_117 hl (k := 4) rfl (congrArg (HAdd.hAdd x3) (by decide : Int32.ofInt 1 = 1)) (by decide) rfl (fun ls hl => ?_)
        refine lv_goto (tgt := 37) hx hb d_M_priceOf_120 (by decide) ?_
        exact ih _ _ _ (lp_back h hr) k1 ls _ _ hG (lv_sub hl [3, 4, 1, 0] rfl)
      · replace h := it_f h hc
        refine lv_aload_n hx hb d_M_priceOf_88 rfl (lv_at hl 1 rfl) ?_
        refine g_get C hG (hG.lt (Nat.le_of_ble_eq_true rfl)) (ce49 w _) rfl inC8 9 (Nat.le_of_ble_eq_true rfl) qw685 rfl d_M_priceOf_89 ?_
        refine lv_iconst (v := 3) hx hb d_M_priceOf_92 (by decide) ?_
        refine lv_iload_n hx hb d_M_priceOf_93 rfl (lv_at hl 4 rfl) ?_
        refine lv_imul hx hb d_M_priceOf_94 ?_
        refine lv_iconst (v := 2) hx hb d_M_priceOf_95 (by decide) ?_
        refine lv_iadd hx hb d_M_priceOf_96 ?_
        obtain ⟨hi1, h⟩ := chk_some h
        refine g_iald (j := ix ((3 * x3) + 2)) C hG (hG.lt (Nat.le_of_ble_eq_true rfl)) (ce55 w _) (inb_in hi1) rfl d_M_priceOf_97 ?_
        refine lv_iload_n hx hb d_M_priceOf_98 rfl (lv_at hl 3 rfl) ?_
        refine lv_icmp_le (tgt := 115) hx hb d_M_priceOf_99 (by decide) (fun hc => ?_) (fun hc => ?_)
        · replace h := it_t h hc
          refine lv_iload_n hx hb d_M_priceOf_115 rfl (lv_at hl 3 rfl) ?_
          refine lv_istore_n (lv' := [(2, .int x2), (4, .int t0), (0, .ref (gad w 49)), (1, .int x1), (3, .int x3)]) hx hb d_M_priceOf_116 rfl hl (by decide) rfl (fun ls hl => ?_)
          refine lv_iinc (v := x3 + 1) (lv' := [(3, .int (x3 + 1)), (2, .int x2), (4, .int t0), (0, .ref (gad w 49)), (1, .int x1)]) hx hb d_M_priceOf_117 hl (k := 4) rfl (congrArg (HAdd.hAdd x3) (by decide : Int32.ofInt 1 = 1)) (by decide) rfl (fun ls hl => ?_)
          refine lv_goto (tgt := 37) hx hb d_M_priceOf_120 (by decide) ?_
          exact ih _ _ _ (lp_back h hr) k1 ls _ _ hG (lv_sub hl [3, 4, 1, 0] rfl)
        · replace h := it_f h hc
          refine lv_aload_n hx hb d_M_priceOf_102 rfl (lv_at hl 1 rfl) ?_
          refine g_get C hG (hG.lt (Nat.le_of_ble_eq_true rfl)) (ce49 w _) rfl inC8 9 (Nat.le_of_ble_eq_true rfl) qw685 rfl d_M_priceOf_103 ?_
          refine lv_iconst (v := 3) hx hb d_M_priceOf_106 (by decide) ?_
          refine lv_iload_n hx hb d_M_priceOf_107 rfl (lv_at hl 4 rfl) ?_
          refine lv_imul hx hb d_M_priceOf_108 ?_
          refine lv_iconst (v := 2) hx hb d_M_priceOf_109 (by decide) ?_
          refine lv_iadd hx hb d_M_priceOf_110 ?_
          obtain ⟨hi2, h⟩ := chk_some h
          refine g_iald (j := ix ((3 * x3) + 2)) C hG (hG.lt (Nat.le_of_ble_eq_true rfl)) (ce55 w _) (inb_in hi2) rfl d_M_priceOf_111 ?_
          refine lv_goto (tgt := 116) hx hb d_M_priceOf_112 (by decide) ?_
          refine lv_istore_n (lv' := [(2, .int (S 55 (ix ((3 * x3) + 2)))), (4, .int t0), (0, .ref (gad w 49)), (1, .int x1), (3, .int x3)]) hx hb d_M_priceOf_116 rfl hl (by decide) rfl (fun ls hl => ?_)
          refine lv_iinc (v := x3 + 1) (lv' := [(3, .int (x3 + 1)), (2, .int (S 55 (ix ((3 * x3) + 2)))), (4, .int t0), (0, .ref (gad w 49)), (1, .int x1)]) hx hb d_M_priceOf_117 hl (k := 4) rfl (congrArg (HAdd.hAdd x3) (by decide : Int32.ofInt 1 = 1)) (by decide) rfl (fun ls hl => ?_)
          refine lv_goto (tgt := 37) hx hb d_M_priceOf_120 (by decide) ?_
          exact ih _ _ _ (lp_back h hr) k1 ls _ _ hG (lv_sub hl [3, 4, 1, 0] rfl)
    have J80 : ∀ (x2 : Int32) (x3 : Int32), M_priceOf_J80 S x1 x2 x3 = some z → ∀ (ls : Array Slot) (H : Heap) (locs : List Loc), GH w s A S H locs → lv_has ls 5 [(0, .ref (gad w 49)), (1, .int x1), (2, .int x2), (3, .int x3)] → W p l e (rmm 1 21) s m args below meth c H locs 0 0 Q (F0 m 80 ls []) := by
      intro x2 x3 h ls H locs hG hl
      unfold M_priceOf_J80 at h
      refine lv_iconst (v := 0) hx hb d_M_priceOf_80 (by decide) ?_
      exact J81 _ _ _ h ls _ _ hG (lv_sub hl [0, 1, 2, 3] rfl)
    unfold M_priceOf_L37 at h
    refine lv_iload_n hx hb d_M_priceOf_37 rfl (lv_at hl 3 rfl) ?_
    refine lv_aload_n hx hb d_M_priceOf_38 rfl (lv_at hl 0 rfl) ?_
    refine g_get C hG (hG.lt (Nat.le_of_ble_eq_true rfl)) (ce49 w _) rfl inC8 8 (Nat.le_of_ble_eq_true rfl) qw684 rfl d_M_priceOf_39 ?_
    refine lv_icmp_ge (tgt := 123) hx hb d_M_priceOf_42 (by decide) (fun hc => ?_) (fun hc => ?_)
    · replace h := it_t h hc
      exact k1 _ _ (lp_exit h hr) ls _ _ hG (lv_sub hl [2] rfl)
    · replace h := it_f h hc
      refine lv_aload_n hx hb d_M_priceOf_45 rfl (lv_at hl 0 rfl) ?_
      refine g_get C hG (hG.lt (Nat.le_of_ble_eq_true rfl)) (ce49 w _) rfl inC8 19 (Nat.le_of_ble_eq_true rfl) qw695 rfl d_M_priceOf_46 ?_
      refine lv_iload_n hx hb d_M_priceOf_49 rfl (lv_at hl 3 rfl) ?_
      obtain ⟨hi3, h⟩ := chk_some h
      refine g_zald (j := ix x3) C hG (hG.lt (Nat.le_of_ble_eq_true rfl)) (ce65 w _) (inb_in hi3) rfl d_M_priceOf_50 ?_
      refine lv_if_eq (tgt := 80) hx hb d_M_priceOf_51 (by decide) (fun hc => ?_) (fun hc => ?_)
      · replace h := it_t h hc
        exact J80 _ _ h ls _ _ hG (lv_sub hl [0, 1, 2, 3] rfl)
      · replace h := it_f h hc
        refine lv_iload_n hx hb d_M_priceOf_54 rfl (lv_at hl 3 rfl) ?_
        refine lv_aload_n hx hb d_M_priceOf_55 rfl (lv_at hl 0 rfl) ?_
        refine g_get C hG (hG.lt (Nat.le_of_ble_eq_true rfl)) (ce49 w _) rfl inC8 18 (Nat.le_of_ble_eq_true rfl) qw694 rfl d_M_priceOf_56 ?_
        refine lv_iload_n hx hb d_M_priceOf_59 rfl (lv_at hl 1 rfl) ?_
        obtain ⟨hi4, h⟩ := chk_some h
        refine g_iald (j := ix x1) C hG (hG.lt (Nat.le_of_ble_eq_true rfl)) (ce64 w _) (inb_in hi4) rfl d_M_priceOf_60 ?_
        refine lv_icmp_eq (tgt := 80) hx hb d_M_priceOf_61 (by decide) (fun hc => ?_) (fun hc => ?_)
        · replace h := it_t h hc
          exact J80 _ _ h ls _ _ hG (lv_sub hl [0, 1, 2, 3] rfl)
        · replace h := it_f h hc
          refine lv_aload_n hx hb d_M_priceOf_64 rfl (lv_at hl 0 rfl) ?_
          refine g_get C hG (hG.lt (Nat.le_of_ble_eq_true rfl)) (ce49 w _) rfl inC8 9 (Nat.le_of_ble_eq_true rfl) qw685 rfl d_M_priceOf_65 ?_
          refine lv_iconst (v := 3) hx hb d_M_priceOf_68 (by decide) ?_
          refine lv_iload_n hx hb d_M_priceOf_69 rfl (lv_at hl 3 rfl) ?_
          refine lv_imul hx hb d_M_priceOf_70 ?_
          obtain ⟨hi5, h⟩ := chk_some h
          refine g_iald (j := ix (3 * x3)) C hG (hG.lt (Nat.le_of_ble_eq_true rfl)) (ce55 w _) (inb_in hi5) rfl d_M_priceOf_71 ?_
          refine lv_iload_n hx hb d_M_priceOf_72 rfl (lv_at hl 1 rfl) ?_
          refine lv_icmp_ne (tgt := 80) hx hb d_M_priceOf_73 (by decide) (fun hc => ?_) (fun hc => ?_)
          · replace h := it_f h hc
            exact J80 _ _ h ls _ _ hG (lv_sub hl [0, 1, 2, 3] rfl)
          · replace h := it_t h hc
            refine lv_iconst (v := 1) hx hb d_M_priceOf_76 (by decide) ?_
            refine lv_goto (tgt := 81) hx hb d_M_priceOf_77 (by decide) ?_
            exact J81 _ _ _ h ls _ _ hG (lv_sub hl [0, 1, 2, 3] rfl)
set_option maxHeartbeats 4000000 in
set_option maxRecDepth 100000 in
theorem c_M_priceOf (l : Launch) (w : gw) (S : St) (x1 : Int32)  {z : Int32} (h : (M_priceOf S x1) = some z) : gMi l w y_M_priceOf b_M_priceOf 5 (some .int) (rmm 1 21) [.ref (gad w 49), .int x1] S z S := by
  unfold M_priceOf at h
  refine g_met (Qc := gQi w z S) (by decide +kernel) (Nat.le_of_ble_eq_true rfl) ?_
  intro p e s m args below meth c A Q ls hQ C hG hl
  have hx := C.1
  have hb := C.2.1
  have hl : lv_has ls 5 [(0, .ref (gad w 49)), (1, .int x1)] := hl
  have J123 : ∀ (x2 : Int32), M_priceOf_J123 S x2 = some z → ∀ (ls : Array Slot) (H : Heap) (locs : List Loc), GH w s A S H locs → lv_has ls 5 [(2, .int x2)] → W p l e (rmm 1 21) s m args below meth c H locs 0 0 Q (F0 m 123 ls []) := by
    intro x2 h ls H locs hG hl
    unfold M_priceOf_J123 at h
    refine lv_iload_n hx hb d_M_priceOf_123 rfl (lv_at hl 0 rfl) ?_
    exact g_iret C hG (Option.some.inj h) rfl hQ d_M_priceOf_124
  refine lv_aload_n hx hb d_M_priceOf_0 rfl (lv_at hl 0 rfl) ?_
  refine g_get C hG (hG.lt (Nat.le_of_ble_eq_true rfl)) (ce49 w _) rfl inC8 18 (Nat.le_of_ble_eq_true rfl) qw694 rfl d_M_priceOf_1 ?_
  refine lv_iload_n hx hb d_M_priceOf_4 rfl (lv_at hl 1 rfl) ?_
  obtain ⟨hi6, h⟩ := chk_some h
  refine g_iald (j := ix x1) C hG (hG.lt (Nat.le_of_ble_eq_true rfl)) (ce64 w _) (inb_in hi6) rfl d_M_priceOf_5 ?_
  refine lv_iconst (v := (-1)) hx hb d_M_priceOf_6 (by decide) ?_
  refine lv_icmp_ne (tgt := 13) hx hb d_M_priceOf_7 (by decide) (fun hc => ?_) (fun hc => ?_)
  · replace h := it_f h hc
    refine lv_aload_n hx hb d_M_priceOf_13 rfl (lv_at hl 0 rfl) ?_
    refine g_get C hG (hG.lt (Nat.le_of_ble_eq_true rfl)) (ce49 w _) rfl inC8 16 (Nat.le_of_ble_eq_true rfl) qw692 rfl d_M_priceOf_14 ?_
    refine lv_iconst (v := 1) hx hb d_M_priceOf_17 (by decide) ?_
    refine g_iald (j := 1) C hG (hG.lt (Nat.le_of_ble_eq_true rfl)) (ce62 w _) (inb_in (by decide)) rfl d_M_priceOf_18 ?_
    refine lv_if_ne (tgt := 28) hx hb d_M_priceOf_19 (by decide) (fun hc => ?_) (fun hc => ?_)
    · replace h := it_f h hc
      refine lv_aload_n hx hb d_M_priceOf_28 rfl (lv_at hl 0 rfl) ?_
      refine g_get C hG (hG.lt (Nat.le_of_ble_eq_true rfl)) (ce49 w _) rfl inC8 14 (Nat.le_of_ble_eq_true rfl) qw690 rfl d_M_priceOf_29 ?_
      refine lv_iload_n hx hb d_M_priceOf_32 rfl (lv_at hl 1 rfl) ?_
      obtain ⟨hi7, h⟩ := chk_some h
      refine g_iald (j := ix x1) C hG (hG.lt (Nat.le_of_ble_eq_true rfl)) (ce60 w _) (inb_in hi7) rfl d_M_priceOf_33 ?_
      refine lv_istore_n (lv' := [(2, .int (S 60 (ix x1))), (0, .ref (gad w 49)), (1, .int x1)]) hx hb d_M_priceOf_34 rfl hl (by decide) rfl (fun ls hl => ?_)
      refine lv_iconst (v := 0) hx hb d_M_priceOf_35 (by decide) ?_
      refine lv_istore_n (lv' := [(3, .int 0), (2, .int (S 60 (ix x1))), (0, .ref (gad w 49)), (1, .int x1)]) hx hb d_M_priceOf_36 rfl hl (by decide) rfl (fun ls hl => ?_)
      obtain ⟨z1, hz1, h⟩ := bnd_some h
      refine L_M_priceOf_37 C _ _ FZ _ _ _ hz1 ?_ ls _ _ hG (lv_sub hl [2, 3, 1, 0] rfl)
      intro y2 y3 e9 ls H locs hG hl
      subst e9
      exact J123 _ h ls _ _ hG (lv_sub hl [0] rfl)
    · replace h := it_t h hc
      refine lv_aload_n hx hb d_M_priceOf_22 rfl (lv_at hl 0 rfl) ?_
      refine lv_iload_n hx hb d_M_priceOf_23 rfl (lv_at hl 1 rfl) ?_
      obtain ⟨z2, hz2, h⟩ := bnd_some h
      refine g_goi hG (g_runV (As := [.int x1]) (rest := []) C hG (c_M_amountOf l w S x1 hz2 _) (hG.lt (Nat.le_of_ble_eq_true rfl)) (ce49 w _) rfl vw_M_165 rfl rfl ⟨by decide, by decide⟩ rfl hl.1 rfl (Nat.le_of_ble_eq_true rfl) d_M_priceOf_24 ⟨Nat.zero_le _, Nat.zero_le _⟩) (fun H locs hG => ?_)
      exact g_iret C hG (Option.some.inj h) rfl hQ d_M_priceOf_27
  · replace h := it_t h hc
    refine lv_bipush (v := (-3)) hx hb d_M_priceOf_10 (by decide) ?_
    exact g_iret C hG (Option.some.inj h) rfl hQ d_M_priceOf_12
