variable {p : Program} {l : Launch} {e : Env} {s : State} {m : MethodId} {args : Array Value} {below : List Frame} {meth : Method} {c : Code} {A : Nat → Prop} {Q : State → Prop} {w : gw} {S : St}
theorem d_X_bidder_0 : decode b_X_bidder 0 = .ok (.iload_n 1, 1) := by decide +kernel
theorem d_X_bidder_1 : decode b_X_bidder 1 = .ok (.invokestatic 91, 3) := by decide +kernel
theorem d_X_bidder_4 : decode b_X_bidder 4 = .ok (.ifCond .ne 6, 3) := by decide +kernel
theorem d_X_bidder_7 : decode b_X_bidder 7 = .ok (.bipush (-2), 2) := by decide +kernel
theorem d_X_bidder_9 : decode b_X_bidder 9 = .ok (.ireturn, 1) := by decide +kernel
theorem d_X_bidder_10 : decode b_X_bidder 10 = .ok (.iload_n 2, 1) := by decide +kernel
theorem d_X_bidder_11 : decode b_X_bidder 11 = .ok (.ifCond .ne 28, 3) := by decide +kernel
theorem d_X_bidder_14 : decode b_X_bidder 14 = .ok (.iload_n 3, 1) := by decide +kernel
theorem d_X_bidder_15 : decode b_X_bidder 15 = .ok (.iconst 0, 1) := by decide +kernel
theorem d_X_bidder_16 : decode b_X_bidder 16 = .ok (.sipush 999, 3) := by decide +kernel
theorem d_X_bidder_19 : decode b_X_bidder 19 = .ok (.invokestatic 67, 3) := by decide +kernel
theorem d_X_bidder_22 : decode b_X_bidder 22 = .ok (.ifCond .eq 17, 3) := by decide +kernel
theorem d_X_bidder_25 : decode b_X_bidder 25 = .ok (.aload_n 0, 1) := by decide +kernel
theorem d_X_bidder_26 : decode b_X_bidder 26 = .ok (.aload_n 0, 1) := by decide +kernel
theorem d_X_bidder_27 : decode b_X_bidder 27 = .ok (.getfield 10, 3) := by decide +kernel
theorem d_X_bidder_30 : decode b_X_bidder 30 = .ok (.getfield 95, 3) := by decide +kernel
theorem d_X_bidder_33 : decode b_X_bidder 33 = .ok (.iload_n 1, 1) := by decide +kernel
theorem d_X_bidder_34 : decode b_X_bidder 34 = .ok (.iload_n 3, 1) := by decide +kernel
theorem d_X_bidder_35 : decode b_X_bidder 35 = .ok (.invokevirtual 99, 3) := by decide +kernel
theorem d_X_bidder_38 : decode b_X_bidder 38 = .ok (.ireturn, 1) := by decide +kernel
theorem d_X_bidder_39 : decode b_X_bidder 39 = .ok (.iload_n 2, 1) := by decide +kernel
theorem d_X_bidder_40 : decode b_X_bidder 40 = .ok (.iconst 1, 1) := by decide +kernel
theorem d_X_bidder_41 : decode b_X_bidder 41 = .ok (.if_icmp .ne 24, 3) := by decide +kernel
theorem d_X_bidder_44 : decode b_X_bidder 44 = .ok (.iload_n 3, 1) := by decide +kernel
theorem d_X_bidder_45 : decode b_X_bidder 45 = .ok (.invokestatic 103, 3) := by decide +kernel
theorem d_X_bidder_48 : decode b_X_bidder 48 = .ok (.ifCond .eq 17, 3) := by decide +kernel
theorem d_X_bidder_51 : decode b_X_bidder 51 = .ok (.aload_n 0, 1) := by decide +kernel
theorem d_X_bidder_52 : decode b_X_bidder 52 = .ok (.aload_n 0, 1) := by decide +kernel
theorem d_X_bidder_53 : decode b_X_bidder 53 = .ok (.getfield 10, 3) := by decide +kernel
theorem d_X_bidder_56 : decode b_X_bidder 56 = .ok (.getfield 106, 3) := by decide +kernel
theorem d_X_bidder_59 : decode b_X_bidder 59 = .ok (.iload_n 1, 1) := by decide +kernel
theorem d_X_bidder_60 : decode b_X_bidder 60 = .ok (.iload_n 3, 1) := by decide +kernel
theorem d_X_bidder_61 : decode b_X_bidder 61 = .ok (.invokevirtual 99, 3) := by decide +kernel
theorem d_X_bidder_64 : decode b_X_bidder 64 = .ok (.ireturn, 1) := by decide +kernel
theorem d_X_bidder_65 : decode b_X_bidder 65 = .ok (.bipush (-2), 2) := by decide +kernel
theorem d_X_bidder_67 : decode b_X_bidder 67 = .ok (.ireturn, 1) := by decide +kernel
noncomputable def X_bidder_J39 (S : St) (x1 : Int32) (x2 : Int32) (x3 : Int32) : Option (Int32 × St) :=
  if x2 = 1 then
      if (X_isProgramme x3) = 0 then
        some ((-2), S)
      else
        bnd (X_replace S 3 5 x1 x3) fun z1 =>
        some (z1.1, z1.2)
    else
      some ((-2), S)
noncomputable def X_bidder (S : St) (x1 : Int32) (x2 : Int32) (x3 : Int32) : Option (Int32 × St) :=
  if (X_isBidder x1) = 0 then
      some ((-2), S)
    else
      if x2 = 0 then
        if (X_within x3 0 999) = 0 then
          X_bidder_J39 S x1 x2 x3
        else
          bnd (X_replace S 2 5 x1 x3) fun z2 =>
          some (z2.1, z2.2)
      else
        X_bidder_J39 S x1 x2 x3
set_option maxHeartbeats 4000000 in
set_option maxRecDepth 100000 in
theorem c_X_bidder (l : Launch) (w : gw) (S : St) (x1 : Int32) (x2 : Int32) (x3 : Int32)  {z : Int32 × St} (h : (X_bidder S x1 x2 x3) = some z) : gMi l w y_X_bidder b_X_bidder 4 (some .int) (rmm 2 42) [.ref (gad w 0), .int x1, .int x2, .int x3] S z.1 z.2 := by
  unfold X_bidder at h
  refine g_met (Qc := gQi w z.1 z.2) (by decide +kernel) (Nat.le_of_ble_eq_true rfl) ?_
  intro p e s m args below meth c A Q ls hQ C hG hl
  have hx := C.1
  have hb := C.2.1
  have hl : lv_has ls 4 [(0, .ref (gad w 0)), (1, .int x1), (2, .int x2), (3, .int x3)] := hl
  have J39 : ∀ (S : St), X_bidder_J39 S x1 x2 x3 = some z → ∀ (ls : Array Slot) (H : Heap) (locs : List Loc), GH w s A S H locs → lv_has ls 4 [(0, .ref (gad w 0)), (1, .int x1), (2, .int x2), (3, .int x3)] → W p l e (rmm 2 42) s m args below meth c H locs 0 0 Q (F0 m 39 ls []) := by
    intro S h ls H locs hG hl
    unfold X_bidder_J39 at h
    refine lv_iload_n hx hb d_X_bidder_39 rfl (lv_at hl 2 rfl) ?_
    refine lv_iconst (v := 1) hx hb d_X_bidder_40 (by decide) ?_
    refine lv_icmp_ne (tgt := 65) hx hb d_X_bidder_41 (by decide) (fun hc => ?_) (fun hc => ?_)
    · replace h := it_f h hc
      refine lv_bipush (v := (-2)) hx hb d_X_bidder_65 (by decide) ?_
      exact g_iret C hG (sm_fst h) (sm_snd h) hQ d_X_bidder_67
    · replace h := it_t h hc
      refine lv_iload_n hx hb d_X_bidder_44 rfl (lv_at hl 3 rfl) ?_
      refine g_goi hG (g_runS (As := [.int x3]) (rest := []) C hG (c_X_isProgramme l w S x3 _) sw_X_103 rfl rfl ⟨by decide, by decide⟩ rfl hl.1 rfl (Nat.le_of_ble_eq_true rfl) d_X_bidder_45 ⟨Nat.zero_le _, Nat.zero_le _⟩) (fun H locs hG => ?_)
      refine lv_if_eq (tgt := 65) hx hb d_X_bidder_48 (by decide) (fun hc => ?_) (fun hc => ?_)
      · replace h := it_t h hc
        refine lv_bipush (v := (-2)) hx hb d_X_bidder_65 (by decide) ?_
        exact g_iret C hG (sm_fst h) (sm_snd h) hQ d_X_bidder_67
      · replace h := it_f h hc
        refine lv_aload_n hx hb d_X_bidder_51 rfl (lv_at hl 0 rfl) ?_
        refine lv_aload_n hx hb d_X_bidder_52 rfl (lv_at hl 0 rfl) ?_
        refine g_get C hG (hG.lt (Nat.le_of_ble_eq_true rfl)) (ce0 w _) rfl inC7 0 (Nat.le_of_ble_eq_true rfl) qw199 rfl d_X_bidder_53 ?_
        refine g_get C hG (hG.lt (Nat.le_of_ble_eq_true rfl)) (ce1 w _) rfl inC6 1 (Nat.le_of_ble_eq_true rfl) qw33 rfl d_X_bidder_56 ?_
        refine lv_iload_n hx hb d_X_bidder_59 rfl (lv_at hl 1 rfl) ?_
        refine lv_iload_n hx hb d_X_bidder_60 rfl (lv_at hl 3 rfl) ?_
        obtain ⟨z1, hz1, h⟩ := bnd_some h
        refine g_goi hG (g_runV (As := [.ref (gad w 3), .int x1, .int x3]) (rest := []) C hG (c_X_replace l w S 3 5 x1 x3 ⟨(hG.lt (Nat.le_of_ble_eq_true rfl)), (ce3 w)⟩ hz1 _) (hG.lt (Nat.le_of_ble_eq_true rfl)) (ce0 w _) rfl vw_X_99 rfl rfl ⟨by decide, by decide⟩ rfl hl.1 rfl (Nat.le_of_ble_eq_true rfl) d_X_bidder_61 ⟨Nat.zero_le _, Nat.zero_le _⟩) (fun H locs hG => ?_)
        exact g_iret C hG (sm_fst h) (sm_snd h) hQ d_X_bidder_64
  refine lv_iload_n hx hb d_X_bidder_0 rfl (lv_at hl 1 rfl) ?_
  refine g_goi hG (g_runS (As := [.int x1]) (rest := []) C hG (c_X_isBidder l w S x1 _) sw_X_91 rfl rfl ⟨by decide, by decide⟩ rfl hl.1 rfl (Nat.le_of_ble_eq_true rfl) d_X_bidder_1 ⟨Nat.zero_le _, Nat.zero_le _⟩) (fun H locs hG => ?_)
  refine lv_if_ne (tgt := 10) hx hb d_X_bidder_4 (by decide) (fun hc => ?_) (fun hc => ?_)
  · replace h := it_f h hc
    refine lv_iload_n hx hb d_X_bidder_10 rfl (lv_at hl 2 rfl) ?_
    refine lv_if_ne (tgt := 39) hx hb d_X_bidder_11 (by decide) (fun hc => ?_) (fun hc => ?_)
    · replace h := it_f h hc
      exact J39 _ h ls _ _ hG (lv_sub hl [0, 1, 2, 3] rfl)
    · replace h := it_t h hc
      refine lv_iload_n hx hb d_X_bidder_14 rfl (lv_at hl 3 rfl) ?_
      refine lv_iconst (v := 0) hx hb d_X_bidder_15 (by decide) ?_
      refine lv_sipush (v := 999) hx hb d_X_bidder_16 (by decide) ?_
      refine g_goi hG (g_runS (As := [.int x3, .int 0, .int 999]) (rest := []) C hG (c_X_within l w S x3 0 999 _) sw_X_67 rfl rfl ⟨by decide, by decide⟩ rfl hl.1 rfl (Nat.le_of_ble_eq_true rfl) d_X_bidder_19 ⟨Nat.zero_le _, Nat.zero_le _⟩) (fun H locs hG => ?_)
      refine lv_if_eq (tgt := 39) hx hb d_X_bidder_22 (by decide) (fun hc => ?_) (fun hc => ?_)
      · replace h := it_t h hc
        exact J39 _ h ls _ _ hG (lv_sub hl [0, 1, 2, 3] rfl)
      · replace h := it_f h hc
        refine lv_aload_n hx hb d_X_bidder_25 rfl (lv_at hl 0 rfl) ?_
        refine lv_aload_n hx hb d_X_bidder_26 rfl (lv_at hl 0 rfl) ?_
        refine g_get C hG (hG.lt (Nat.le_of_ble_eq_true rfl)) (ce0 w _) rfl inC7 0 (Nat.le_of_ble_eq_true rfl) qw199 rfl d_X_bidder_27 ?_
        refine g_get C hG (hG.lt (Nat.le_of_ble_eq_true rfl)) (ce1 w _) rfl inC6 0 (Nat.le_of_ble_eq_true rfl) qw31 rfl d_X_bidder_30 ?_
        refine lv_iload_n hx hb d_X_bidder_33 rfl (lv_at hl 1 rfl) ?_
        refine lv_iload_n hx hb d_X_bidder_34 rfl (lv_at hl 3 rfl) ?_
        obtain ⟨z2, hz2, h⟩ := bnd_some h
        refine g_goi hG (g_runV (As := [.ref (gad w 2), .int x1, .int x3]) (rest := []) C hG (c_X_replace l w S 2 5 x1 x3 ⟨(hG.lt (Nat.le_of_ble_eq_true rfl)), (ce2 w)⟩ hz2 _) (hG.lt (Nat.le_of_ble_eq_true rfl)) (ce0 w _) rfl vw_X_99 rfl rfl ⟨by decide, by decide⟩ rfl hl.1 rfl (Nat.le_of_ble_eq_true rfl) d_X_bidder_35 ⟨Nat.zero_le _, Nat.zero_le _⟩) (fun H locs hG => ?_)
        exact g_iret C hG (sm_fst h) (sm_snd h) hQ d_X_bidder_38
  · replace h := it_t h hc
    refine lv_bipush (v := (-2)) hx hb d_X_bidder_7 (by decide) ?_
    exact g_iret C hG (sm_fst h) (sm_snd h) hQ d_X_bidder_9
theorem d_X_value_0 : decode b_X_value 0 = .ok (.iload_n 1, 1) := by decide +kernel
theorem d_X_value_1 : decode b_X_value 1 = .ok (.invokestatic 91, 3) := by decide +kernel
theorem d_X_value_4 : decode b_X_value 4 = .ok (.ifCond .eq 17, 3) := by decide +kernel
theorem d_X_value_7 : decode b_X_value 7 = .ok (.iload_n 2, 1) := by decide +kernel
theorem d_X_value_8 : decode b_X_value 8 = .ok (.invokestatic 109, 3) := by decide +kernel
theorem d_X_value_11 : decode b_X_value 11 = .ok (.ifCond .eq 10, 3) := by decide +kernel
theorem d_X_value_14 : decode b_X_value 14 = .ok (.iload_n 3, 1) := by decide +kernel
theorem d_X_value_15 : decode b_X_value 15 = .ok (.invokestatic 112, 3) := by decide +kernel
theorem d_X_value_18 : decode b_X_value 18 = .ok (.ifCond .ne 6, 3) := by decide +kernel
theorem d_X_value_21 : decode b_X_value 21 = .ok (.bipush (-2), 2) := by decide +kernel
theorem d_X_value_23 : decode b_X_value 23 = .ok (.ireturn, 1) := by decide +kernel
theorem d_X_value_24 : decode b_X_value 24 = .ok (.aload_n 0, 1) := by decide +kernel
theorem d_X_value_25 : decode b_X_value 25 = .ok (.aload_n 0, 1) := by decide +kernel
theorem d_X_value_26 : decode b_X_value 26 = .ok (.getfield 10, 3) := by decide +kernel
theorem d_X_value_29 : decode b_X_value 29 = .ok (.getfield 115, 3) := by decide +kernel
theorem d_X_value_32 : decode b_X_value 32 = .ok (.iload_n 1, 1) := by decide +kernel
theorem d_X_value_33 : decode b_X_value 33 = .ok (.aaload, 1) := by decide +kernel
theorem d_X_value_34 : decode b_X_value 34 = .ok (.iload_n 2, 1) := by decide +kernel
theorem d_X_value_35 : decode b_X_value 35 = .ok (.iload_n 3, 1) := by decide +kernel
theorem d_X_value_36 : decode b_X_value 36 = .ok (.invokevirtual 99, 3) := by decide +kernel
theorem d_X_value_39 : decode b_X_value 39 = .ok (.ireturn, 1) := by decide +kernel
noncomputable def X_value (S : St) (x1 : Int32) (x2 : Int32) (x3 : Int32) : Option (Int32 × St) :=
  if (X_isBidder x1) = 0 then
      some ((-2), S)
    else
      if (X_isEvening x2) = 0 then
        some ((-2), S)
      else
        if (X_isValue x3) = 0 then
          some ((-2), S)
        else
          chk (inb x1 5) <|
          bnd (X_replace S (5 + (ix x1)) 10 x2 x3) fun z1 =>
          some (z1.1, z1.2)
set_option maxHeartbeats 4000000 in
set_option maxRecDepth 100000 in
theorem c_X_value (l : Launch) (w : gw) (S : St) (x1 : Int32) (x2 : Int32) (x3 : Int32)  {z : Int32 × St} (h : (X_value S x1 x2 x3) = some z) : gMi l w y_X_value b_X_value 4 (some .int) (rmm 2 42) [.ref (gad w 0), .int x1, .int x2, .int x3] S z.1 z.2 := by
  unfold X_value at h
  refine g_met (Qc := gQi w z.1 z.2) (by decide +kernel) (Nat.le_of_ble_eq_true rfl) ?_
  intro p e s m args below meth c A Q ls hQ C hG hl
  have hx := C.1
  have hb := C.2.1
  have hl : lv_has ls 4 [(0, .ref (gad w 0)), (1, .int x1), (2, .int x2), (3, .int x3)] := hl
  refine lv_iload_n hx hb d_X_value_0 rfl (lv_at hl 1 rfl) ?_
  refine g_goi hG (g_runS (As := [.int x1]) (rest := []) C hG (c_X_isBidder l w S x1 _) sw_X_91 rfl rfl ⟨by decide, by decide⟩ rfl hl.1 rfl (Nat.le_of_ble_eq_true rfl) d_X_value_1 ⟨Nat.zero_le _, Nat.zero_le _⟩) (fun H locs hG => ?_)
  refine lv_if_eq (tgt := 21) hx hb d_X_value_4 (by decide) (fun hc => ?_) (fun hc => ?_)
  · replace h := it_t h hc
    refine lv_bipush (v := (-2)) hx hb d_X_value_21 (by decide) ?_
    exact g_iret C hG (sm_fst h) (sm_snd h) hQ d_X_value_23
  · replace h := it_f h hc
    refine lv_iload_n hx hb d_X_value_7 rfl (lv_at hl 2 rfl) ?_
    refine g_goi hG (g_runS (As := [.int x2]) (rest := []) C hG (c_X_isEvening l w S x2 _) sw_X_109 rfl rfl ⟨by decide, by decide⟩ rfl hl.1 rfl (Nat.le_of_ble_eq_true rfl) d_X_value_8 ⟨Nat.zero_le _, Nat.zero_le _⟩) (fun H locs hG => ?_)
    refine lv_if_eq (tgt := 21) hx hb d_X_value_11 (by decide) (fun hc => ?_) (fun hc => ?_)
    · replace h := it_t h hc
      refine lv_bipush (v := (-2)) hx hb d_X_value_21 (by decide) ?_
      exact g_iret C hG (sm_fst h) (sm_snd h) hQ d_X_value_23
    · replace h := it_f h hc
      refine lv_iload_n hx hb d_X_value_14 rfl (lv_at hl 3 rfl) ?_
      refine g_goi hG (g_runS (As := [.int x3]) (rest := []) C hG (c_X_isValue l w S x3 _) sw_X_112 rfl rfl ⟨by decide, by decide⟩ rfl hl.1 rfl (Nat.le_of_ble_eq_true rfl) d_X_value_15 ⟨Nat.zero_le _, Nat.zero_le _⟩) (fun H locs hG => ?_)
      refine lv_if_ne (tgt := 24) hx hb d_X_value_18 (by decide) (fun hc => ?_) (fun hc => ?_)
      · replace h := it_f h hc
        refine lv_aload_n hx hb d_X_value_24 rfl (lv_at hl 0 rfl) ?_
        refine lv_aload_n hx hb d_X_value_25 rfl (lv_at hl 0 rfl) ?_
        refine g_get C hG (hG.lt (Nat.le_of_ble_eq_true rfl)) (ce0 w _) rfl inC7 0 (Nat.le_of_ble_eq_true rfl) qw199 rfl d_X_value_26 ?_
        refine g_get C hG (hG.lt (Nat.le_of_ble_eq_true rfl)) (ce1 w _) rfl inC6 2 (Nat.le_of_ble_eq_true rfl) qw37 rfl d_X_value_29 ?_
        refine lv_iload_n hx hb d_X_value_32 rfl (lv_at hl 1 rfl) ?_
        obtain ⟨hi1, h⟩ := chk_some h
        refine g_ald2 (j := ix x1) C hG (hG.lt (Nat.le_of_ble_eq_true rfl)) (ce4 w _) (inb_in hi1) rfl d_X_value_33 ?_
        have hr2 : ix x1 < 5 := row_lt (inb_in hi1)
        refine lv_iload_n hx hb d_X_value_34 rfl (lv_at hl 2 rfl) ?_
        refine lv_iload_n hx hb d_X_value_35 rfl (lv_at hl 3 rfl) ?_
        obtain ⟨z1, hz1, h⟩ := bnd_some h
        refine g_goi hG (g_runV (As := [.ref (gad w (5 + (ix x1))), .int x2, .int x3]) (rest := []) C hG (c_X_replace l w S (5 + (ix x1)) 10 x2 x3 ⟨(hG.lt (by omega)), (fun r => cr4 w r hr2)⟩ hz1 _) (hG.lt (Nat.le_of_ble_eq_true rfl)) (ce0 w _) rfl vw_X_99 rfl rfl ⟨by decide, by decide⟩ rfl hl.1 rfl (Nat.le_of_ble_eq_true rfl) d_X_value_36 ⟨Nat.zero_le _, Nat.zero_le _⟩) (fun H locs hG => ?_)
        exact g_iret C hG (sm_fst h) (sm_snd h) hQ d_X_value_39
      · replace h := it_t h hc
        refine lv_bipush (v := (-2)) hx hb d_X_value_21 (by decide) ?_
        exact g_iret C hG (sm_fst h) (sm_snd h) hQ d_X_value_23
theorem d_X_joy_0 : decode b_X_joy 0 = .ok (.iload_n 1, 1) := by decide +kernel
theorem d_X_joy_1 : decode b_X_joy 1 = .ok (.invokestatic 91, 3) := by decide +kernel
theorem d_X_joy_4 : decode b_X_joy 4 = .ok (.ifCond .eq 20, 3) := by decide +kernel
theorem d_X_joy_7 : decode b_X_joy 7 = .ok (.iload_n 2, 1) := by decide +kernel
theorem d_X_joy_8 : decode b_X_joy 8 = .ok (.invokestatic 103, 3) := by decide +kernel
theorem d_X_joy_11 : decode b_X_joy 11 = .ok (.ifCond .eq 13, 3) := by decide +kernel
theorem d_X_joy_14 : decode b_X_joy 14 = .ok (.iload_n 3, 1) := by decide +kernel
theorem d_X_joy_15 : decode b_X_joy 15 = .ok (.iconst 0, 1) := by decide +kernel
theorem d_X_joy_16 : decode b_X_joy 16 = .ok (.bipush 9, 2) := by decide +kernel
theorem d_X_joy_18 : decode b_X_joy 18 = .ok (.invokestatic 67, 3) := by decide +kernel
theorem d_X_joy_21 : decode b_X_joy 21 = .ok (.ifCond .ne 6, 3) := by decide +kernel
theorem d_X_joy_24 : decode b_X_joy 24 = .ok (.bipush (-2), 2) := by decide +kernel
theorem d_X_joy_26 : decode b_X_joy 26 = .ok (.ireturn, 1) := by decide +kernel
theorem d_X_joy_27 : decode b_X_joy 27 = .ok (.aload_n 0, 1) := by decide +kernel
theorem d_X_joy_28 : decode b_X_joy 28 = .ok (.aload_n 0, 1) := by decide +kernel
theorem d_X_joy_29 : decode b_X_joy 29 = .ok (.getfield 10, 3) := by decide +kernel
theorem d_X_joy_32 : decode b_X_joy 32 = .ok (.getfield 119, 3) := by decide +kernel
theorem d_X_joy_35 : decode b_X_joy 35 = .ok (.iload_n 1, 1) := by decide +kernel
theorem d_X_joy_36 : decode b_X_joy 36 = .ok (.aaload, 1) := by decide +kernel
theorem d_X_joy_37 : decode b_X_joy 37 = .ok (.iload_n 2, 1) := by decide +kernel
theorem d_X_joy_38 : decode b_X_joy 38 = .ok (.iload_n 3, 1) := by decide +kernel
theorem d_X_joy_39 : decode b_X_joy 39 = .ok (.invokevirtual 99, 3) := by decide +kernel
theorem d_X_joy_42 : decode b_X_joy 42 = .ok (.ireturn, 1) := by decide +kernel
noncomputable def X_joy (S : St) (x1 : Int32) (x2 : Int32) (x3 : Int32) : Option (Int32 × St) :=
  if (X_isBidder x1) = 0 then
      some ((-2), S)
    else
      if (X_isProgramme x2) = 0 then
        some ((-2), S)
      else
        if (X_within x3 0 9) = 0 then
          some ((-2), S)
        else
          chk (inb x1 5) <|
          bnd (X_replace S (11 + (ix x1)) 5 x2 x3) fun z1 =>
          some (z1.1, z1.2)
set_option maxHeartbeats 4000000 in
set_option maxRecDepth 100000 in
theorem c_X_joy (l : Launch) (w : gw) (S : St) (x1 : Int32) (x2 : Int32) (x3 : Int32)  {z : Int32 × St} (h : (X_joy S x1 x2 x3) = some z) : gMi l w y_X_joy b_X_joy 4 (some .int) (rmm 2 42) [.ref (gad w 0), .int x1, .int x2, .int x3] S z.1 z.2 := by
  unfold X_joy at h
  refine g_met (Qc := gQi w z.1 z.2) (by decide +kernel) (Nat.le_of_ble_eq_true rfl) ?_
  intro p e s m args below meth c A Q ls hQ C hG hl
  have hx := C.1
  have hb := C.2.1
  have hl : lv_has ls 4 [(0, .ref (gad w 0)), (1, .int x1), (2, .int x2), (3, .int x3)] := hl
  refine lv_iload_n hx hb d_X_joy_0 rfl (lv_at hl 1 rfl) ?_
  refine g_goi hG (g_runS (As := [.int x1]) (rest := []) C hG (c_X_isBidder l w S x1 _) sw_X_91 rfl rfl ⟨by decide, by decide⟩ rfl hl.1 rfl (Nat.le_of_ble_eq_true rfl) d_X_joy_1 ⟨Nat.zero_le _, Nat.zero_le _⟩) (fun H locs hG => ?_)
  refine lv_if_eq (tgt := 24) hx hb d_X_joy_4 (by decide) (fun hc => ?_) (fun hc => ?_)
  · replace h := it_t h hc
    refine lv_bipush (v := (-2)) hx hb d_X_joy_24 (by decide) ?_
    exact g_iret C hG (sm_fst h) (sm_snd h) hQ d_X_joy_26
  · replace h := it_f h hc
    refine lv_iload_n hx hb d_X_joy_7 rfl (lv_at hl 2 rfl) ?_
    refine g_goi hG (g_runS (As := [.int x2]) (rest := []) C hG (c_X_isProgramme l w S x2 _) sw_X_103 rfl rfl ⟨by decide, by decide⟩ rfl hl.1 rfl (Nat.le_of_ble_eq_true rfl) d_X_joy_8 ⟨Nat.zero_le _, Nat.zero_le _⟩) (fun H locs hG => ?_)
    refine lv_if_eq (tgt := 24) hx hb d_X_joy_11 (by decide) (fun hc => ?_) (fun hc => ?_)
    · replace h := it_t h hc
      refine lv_bipush (v := (-2)) hx hb d_X_joy_24 (by decide) ?_
      exact g_iret C hG (sm_fst h) (sm_snd h) hQ d_X_joy_26
    · replace h := it_f h hc
      refine lv_iload_n hx hb d_X_joy_14 rfl (lv_at hl 3 rfl) ?_
      refine lv_iconst (v := 0) hx hb d_X_joy_15 (by decide) ?_
      refine lv_bipush (v := 9) hx hb d_X_joy_16 (by decide) ?_
      refine g_goi hG (g_runS (As := [.int x3, .int 0, .int 9]) (rest := []) C hG (c_X_within l w S x3 0 9 _) sw_X_67 rfl rfl ⟨by decide, by decide⟩ rfl hl.1 rfl (Nat.le_of_ble_eq_true rfl) d_X_joy_18 ⟨Nat.zero_le _, Nat.zero_le _⟩) (fun H locs hG => ?_)
      refine lv_if_ne (tgt := 27) hx hb d_X_joy_21 (by decide) (fun hc => ?_) (fun hc => ?_)
      · replace h := it_f h hc
        refine lv_aload_n hx hb d_X_joy_27 rfl (lv_at hl 0 rfl) ?_
        refine lv_aload_n hx hb d_X_joy_28 rfl (lv_at hl 0 rfl) ?_
        refine g_get C hG (hG.lt (Nat.le_of_ble_eq_true rfl)) (ce0 w _) rfl inC7 0 (Nat.le_of_ble_eq_true rfl) qw199 rfl d_X_joy_29 ?_
        refine g_get C hG (hG.lt (Nat.le_of_ble_eq_true rfl)) (ce1 w _) rfl inC6 3 (Nat.le_of_ble_eq_true rfl) qw39 rfl d_X_joy_32 ?_
        refine lv_iload_n hx hb d_X_joy_35 rfl (lv_at hl 1 rfl) ?_
        obtain ⟨hi1, h⟩ := chk_some h
        refine g_ald2 (j := ix x1) C hG (hG.lt (Nat.le_of_ble_eq_true rfl)) (ce10 w _) (inb_in hi1) rfl d_X_joy_36 ?_
        have hr2 : ix x1 < 5 := row_lt (inb_in hi1)
        refine lv_iload_n hx hb d_X_joy_37 rfl (lv_at hl 2 rfl) ?_
        refine lv_iload_n hx hb d_X_joy_38 rfl (lv_at hl 3 rfl) ?_
        obtain ⟨z1, hz1, h⟩ := bnd_some h
        refine g_goi hG (g_runV (As := [.ref (gad w (11 + (ix x1))), .int x2, .int x3]) (rest := []) C hG (c_X_replace l w S (11 + (ix x1)) 5 x2 x3 ⟨(hG.lt (by omega)), (fun r => cr10 w r hr2)⟩ hz1 _) (hG.lt (Nat.le_of_ble_eq_true rfl)) (ce0 w _) rfl vw_X_99 rfl rfl ⟨by decide, by decide⟩ rfl hl.1 rfl (Nat.le_of_ble_eq_true rfl) d_X_joy_39 ⟨Nat.zero_le _, Nat.zero_le _⟩) (fun H locs hG => ?_)
        exact g_iret C hG (sm_fst h) (sm_snd h) hQ d_X_joy_42
      · replace h := it_t h hc
        refine lv_bipush (v := (-2)) hx hb d_X_joy_24 (by decide) ?_
        exact g_iret C hG (sm_fst h) (sm_snd h) hQ d_X_joy_26
theorem d_X_evening_0 : decode b_X_evening 0 = .ok (.iload_n 1, 1) := by decide +kernel
theorem d_X_evening_1 : decode b_X_evening 1 = .ok (.invokestatic 109, 3) := by decide +kernel
theorem d_X_evening_4 : decode b_X_evening 4 = .ok (.ifCond .ne 6, 3) := by decide +kernel
theorem d_X_evening_7 : decode b_X_evening 7 = .ok (.bipush (-2), 2) := by decide +kernel
theorem d_X_evening_9 : decode b_X_evening 9 = .ok (.ireturn, 1) := by decide +kernel
theorem d_X_evening_10 : decode b_X_evening 10 = .ok (.iload_n 2, 1) := by decide +kernel
theorem d_X_evening_11 : decode b_X_evening 11 = .ok (.ifCond .ne 27, 3) := by decide +kernel
theorem d_X_evening_14 : decode b_X_evening 14 = .ok (.iload_n 3, 1) := by decide +kernel
theorem d_X_evening_15 : decode b_X_evening 15 = .ok (.iconst 0, 1) := by decide +kernel
theorem d_X_evening_16 : decode b_X_evening 16 = .ok (.bipush 99, 2) := by decide +kernel
theorem d_X_evening_18 : decode b_X_evening 18 = .ok (.invokestatic 67, 3) := by decide +kernel
theorem d_X_evening_21 : decode b_X_evening 21 = .ok (.ifCond .eq 17, 3) := by decide +kernel
theorem d_X_evening_24 : decode b_X_evening 24 = .ok (.aload_n 0, 1) := by decide +kernel
theorem d_X_evening_25 : decode b_X_evening 25 = .ok (.aload_n 0, 1) := by decide +kernel
theorem d_X_evening_26 : decode b_X_evening 26 = .ok (.getfield 10, 3) := by decide +kernel
theorem d_X_evening_29 : decode b_X_evening 29 = .ok (.getfield 122, 3) := by decide +kernel
theorem d_X_evening_32 : decode b_X_evening 32 = .ok (.iload_n 1, 1) := by decide +kernel
theorem d_X_evening_33 : decode b_X_evening 33 = .ok (.iload_n 3, 1) := by decide +kernel
theorem d_X_evening_34 : decode b_X_evening 34 = .ok (.invokevirtual 99, 3) := by decide +kernel
theorem d_X_evening_37 : decode b_X_evening 37 = .ok (.ireturn, 1) := by decide +kernel
theorem d_X_evening_38 : decode b_X_evening 38 = .ok (.iload_n 2, 1) := by decide +kernel
theorem d_X_evening_39 : decode b_X_evening 39 = .ok (.iconst 1, 1) := by decide +kernel
theorem d_X_evening_40 : decode b_X_evening 40 = .ok (.if_icmp .ne 27, 3) := by decide +kernel
theorem d_X_evening_43 : decode b_X_evening 43 = .ok (.iload_n 3, 1) := by decide +kernel
theorem d_X_evening_44 : decode b_X_evening 44 = .ok (.iconst 0, 1) := by decide +kernel
theorem d_X_evening_45 : decode b_X_evening 45 = .ok (.bipush 16, 2) := by decide +kernel
theorem d_X_evening_47 : decode b_X_evening 47 = .ok (.invokestatic 67, 3) := by decide +kernel
theorem d_X_evening_50 : decode b_X_evening 50 = .ok (.ifCond .eq 17, 3) := by decide +kernel
theorem d_X_evening_53 : decode b_X_evening 53 = .ok (.aload_n 0, 1) := by decide +kernel
theorem d_X_evening_54 : decode b_X_evening 54 = .ok (.aload_n 0, 1) := by decide +kernel
theorem d_X_evening_55 : decode b_X_evening 55 = .ok (.getfield 10, 3) := by decide +kernel
theorem d_X_evening_58 : decode b_X_evening 58 = .ok (.getfield 125, 3) := by decide +kernel
theorem d_X_evening_61 : decode b_X_evening 61 = .ok (.iload_n 1, 1) := by decide +kernel
theorem d_X_evening_62 : decode b_X_evening 62 = .ok (.iload_n 3, 1) := by decide +kernel
theorem d_X_evening_63 : decode b_X_evening 63 = .ok (.invokevirtual 99, 3) := by decide +kernel
theorem d_X_evening_66 : decode b_X_evening 66 = .ok (.ireturn, 1) := by decide +kernel
theorem d_X_evening_67 : decode b_X_evening 67 = .ok (.bipush (-2), 2) := by decide +kernel
theorem d_X_evening_69 : decode b_X_evening 69 = .ok (.ireturn, 1) := by decide +kernel
noncomputable def X_evening_J38 (S : St) (x1 : Int32) (x2 : Int32) (x3 : Int32) : Option (Int32 × St) :=
  if x2 = 1 then
      if (X_within x3 0 16) = 0 then
        some ((-2), S)
      else
        bnd (X_replace S 23 10 x1 x3) fun z1 =>
        some (z1.1, z1.2)
    else
      some ((-2), S)
noncomputable def X_evening (S : St) (x1 : Int32) (x2 : Int32) (x3 : Int32) : Option (Int32 × St) :=
  if (X_isEvening x1) = 0 then
      some ((-2), S)
    else
      if x2 = 0 then
        if (X_within x3 0 99) = 0 then
          X_evening_J38 S x1 x2 x3
        else
          bnd (X_replace S 22 10 x1 x3) fun z2 =>
          some (z2.1, z2.2)
      else
        X_evening_J38 S x1 x2 x3
set_option maxHeartbeats 4000000 in
set_option maxRecDepth 100000 in
theorem c_X_evening (l : Launch) (w : gw) (S : St) (x1 : Int32) (x2 : Int32) (x3 : Int32)  {z : Int32 × St} (h : (X_evening S x1 x2 x3) = some z) : gMi l w y_X_evening b_X_evening 4 (some .int) (rmm 2 42) [.ref (gad w 0), .int x1, .int x2, .int x3] S z.1 z.2 := by
  unfold X_evening at h
  refine g_met (Qc := gQi w z.1 z.2) (by decide +kernel) (Nat.le_of_ble_eq_true rfl) ?_
  intro p e s m args below meth c A Q ls hQ C hG hl
  have hx := C.1
  have hb := C.2.1
  have hl : lv_has ls 4 [(0, .ref (gad w 0)), (1, .int x1), (2, .int x2), (3, .int x3)] := hl
  have J38 : ∀ (S : St), X_evening_J38 S x1 x2 x3 = some z → ∀ (ls : Array Slot) (H : Heap) (locs : List Loc), GH w s A S H locs → lv_has ls 4 [(0, .ref (gad w 0)), (1, .int x1), (2, .int x2), (3, .int x3)] → W p l e (rmm 2 42) s m args below meth c H locs 0 0 Q (F0 m 38 ls []) := by
    intro S h ls H locs hG hl
    unfold X_evening_J38 at h
    refine lv_iload_n hx hb d_X_evening_38 rfl (lv_at hl 2 rfl) ?_
    refine lv_iconst (v := 1) hx hb d_X_evening_39 (by decide) ?_
    refine lv_icmp_ne (tgt := 67) hx hb d_X_evening_40 (by decide) (fun hc => ?_) (fun hc => ?_)
    · replace h := it_f h hc
      refine lv_bipush (v := (-2)) hx hb d_X_evening_67 (by decide) ?_
      exact g_iret C hG (sm_fst h) (sm_snd h) hQ d_X_evening_69
    · replace h := it_t h hc
      refine lv_iload_n hx hb d_X_evening_43 rfl (lv_at hl 3 rfl) ?_
      refine lv_iconst (v := 0) hx hb d_X_evening_44 (by decide) ?_
      refine lv_bipush (v := 16) hx hb d_X_evening_45 (by decide) ?_
      refine g_goi hG (g_runS (As := [.int x3, .int 0, .int 16]) (rest := []) C hG (c_X_within l w S x3 0 16 _) sw_X_67 rfl rfl ⟨by decide, by decide⟩ rfl hl.1 rfl (Nat.le_of_ble_eq_true rfl) d_X_evening_47 ⟨Nat.zero_le _, Nat.zero_le _⟩) (fun H locs hG => ?_)
      refine lv_if_eq (tgt := 67) hx hb d_X_evening_50 (by decide) (fun hc => ?_) (fun hc => ?_)
      · replace h := it_t h hc
        refine lv_bipush (v := (-2)) hx hb d_X_evening_67 (by decide) ?_
        exact g_iret C hG (sm_fst h) (sm_snd h) hQ d_X_evening_69
      · replace h := it_f h hc
        refine lv_aload_n hx hb d_X_evening_53 rfl (lv_at hl 0 rfl) ?_
        refine lv_aload_n hx hb d_X_evening_54 rfl (lv_at hl 0 rfl) ?_
        refine g_get C hG (hG.lt (Nat.le_of_ble_eq_true rfl)) (ce0 w _) rfl inC7 0 (Nat.le_of_ble_eq_true rfl) qw199 rfl d_X_evening_55 ?_
        refine g_get C hG (hG.lt (Nat.le_of_ble_eq_true rfl)) (ce1 w _) rfl inC6 6 (Nat.le_of_ble_eq_true rfl) qw47 rfl d_X_evening_58 ?_
        refine lv_iload_n hx hb d_X_evening_61 rfl (lv_at hl 1 rfl) ?_
        refine lv_iload_n hx hb d_X_evening_62 rfl (lv_at hl 3 rfl) ?_
        obtain ⟨z1, hz1, h⟩ := bnd_some h
        refine g_goi hG (g_runV (As := [.ref (gad w 23), .int x1, .int x3]) (rest := []) C hG (c_X_replace l w S 23 10 x1 x3 ⟨(hG.lt (Nat.le_of_ble_eq_true rfl)), (ce23 w)⟩ hz1 _) (hG.lt (Nat.le_of_ble_eq_true rfl)) (ce0 w _) rfl vw_X_99 rfl rfl ⟨by decide, by decide⟩ rfl hl.1 rfl (Nat.le_of_ble_eq_true rfl) d_X_evening_63 ⟨Nat.zero_le _, Nat.zero_le _⟩) (fun H locs hG => ?_)
        exact g_iret C hG (sm_fst h) (sm_snd h) hQ d_X_evening_66
  refine lv_iload_n hx hb d_X_evening_0 rfl (lv_at hl 1 rfl) ?_
  refine g_goi hG (g_runS (As := [.int x1]) (rest := []) C hG (c_X_isEvening l w S x1 _) sw_X_109 rfl rfl ⟨by decide, by decide⟩ rfl hl.1 rfl (Nat.le_of_ble_eq_true rfl) d_X_evening_1 ⟨Nat.zero_le _, Nat.zero_le _⟩) (fun H locs hG => ?_)
  refine lv_if_ne (tgt := 10) hx hb d_X_evening_4 (by decide) (fun hc => ?_) (fun hc => ?_)
  · replace h := it_f h hc
    refine lv_iload_n hx hb d_X_evening_10 rfl (lv_at hl 2 rfl) ?_
    refine lv_if_ne (tgt := 38) hx hb d_X_evening_11 (by decide) (fun hc => ?_) (fun hc => ?_)
    · replace h := it_f h hc
      exact J38 _ h ls _ _ hG (lv_sub hl [0, 1, 2, 3] rfl)
    · replace h := it_t h hc
      refine lv_iload_n hx hb d_X_evening_14 rfl (lv_at hl 3 rfl) ?_
      refine lv_iconst (v := 0) hx hb d_X_evening_15 (by decide) ?_
      refine lv_bipush (v := 99) hx hb d_X_evening_16 (by decide) ?_
      refine g_goi hG (g_runS (As := [.int x3, .int 0, .int 99]) (rest := []) C hG (c_X_within l w S x3 0 99 _) sw_X_67 rfl rfl ⟨by decide, by decide⟩ rfl hl.1 rfl (Nat.le_of_ble_eq_true rfl) d_X_evening_18 ⟨Nat.zero_le _, Nat.zero_le _⟩) (fun H locs hG => ?_)
      refine lv_if_eq (tgt := 38) hx hb d_X_evening_21 (by decide) (fun hc => ?_) (fun hc => ?_)
      · replace h := it_t h hc
        exact J38 _ h ls _ _ hG (lv_sub hl [0, 1, 2, 3] rfl)
      · replace h := it_f h hc
        refine lv_aload_n hx hb d_X_evening_24 rfl (lv_at hl 0 rfl) ?_
        refine lv_aload_n hx hb d_X_evening_25 rfl (lv_at hl 0 rfl) ?_
        refine g_get C hG (hG.lt (Nat.le_of_ble_eq_true rfl)) (ce0 w _) rfl inC7 0 (Nat.le_of_ble_eq_true rfl) qw199 rfl d_X_evening_26 ?_
        refine g_get C hG (hG.lt (Nat.le_of_ble_eq_true rfl)) (ce1 w _) rfl inC6 5 (Nat.le_of_ble_eq_true rfl) qw45 rfl d_X_evening_29 ?_
        refine lv_iload_n hx hb d_X_evening_32 rfl (lv_at hl 1 rfl) ?_
        refine lv_iload_n hx hb d_X_evening_33 rfl (lv_at hl 3 rfl) ?_
        obtain ⟨z2, hz2, h⟩ := bnd_some h
        refine g_goi hG (g_runV (As := [.ref (gad w 22), .int x1, .int x3]) (rest := []) C hG (c_X_replace l w S 22 10 x1 x3 ⟨(hG.lt (Nat.le_of_ble_eq_true rfl)), (ce22 w)⟩ hz2 _) (hG.lt (Nat.le_of_ble_eq_true rfl)) (ce0 w _) rfl vw_X_99 rfl rfl ⟨by decide, by decide⟩ rfl hl.1 rfl (Nat.le_of_ble_eq_true rfl) d_X_evening_34 ⟨Nat.zero_le _, Nat.zero_le _⟩) (fun H locs hG => ?_)
        exact g_iret C hG (sm_fst h) (sm_snd h) hQ d_X_evening_37
  · replace h := it_t h hc
    refine lv_bipush (v := (-2)) hx hb d_X_evening_7 (by decide) ?_
    exact g_iret C hG (sm_fst h) (sm_snd h) hQ d_X_evening_9
theorem d_X_set_0 : decode b_X_set 0 = .ok (.iload_n 1, 1) := by decide +kernel
theorem d_X_set_1 : decode b_X_set 1 = .ok (.iconst 0, 1) := by decide +kernel
theorem d_X_set_2 : decode b_X_set 2 = .ok (.iconst 2, 1) := by decide +kernel
theorem d_X_set_3 : decode b_X_set 3 = .ok (.invokestatic 67, 3) := by decide +kernel
theorem d_X_set_6 : decode b_X_set 6 = .ok (.ifCond .eq 20, 3) := by decide +kernel
theorem d_X_set_9 : decode b_X_set 9 = .ok (.iload_n 2, 1) := by decide +kernel
theorem d_X_set_10 : decode b_X_set 10 = .ok (.getstatic 128, 3) := by decide +kernel
theorem d_X_set_13 : decode b_X_set 13 = .ok (.iload_n 1, 1) := by decide +kernel
theorem d_X_set_14 : decode b_X_set 14 = .ok (.iaload, 1) := by decide +kernel
theorem d_X_set_15 : decode b_X_set 15 = .ok (.getstatic 131, 3) := by decide +kernel
theorem d_X_set_18 : decode b_X_set 18 = .ok (.iload_n 1, 1) := by decide +kernel
theorem d_X_set_19 : decode b_X_set 19 = .ok (.iaload, 1) := by decide +kernel
theorem d_X_set_20 : decode b_X_set 20 = .ok (.invokestatic 67, 3) := by decide +kernel
theorem d_X_set_23 : decode b_X_set 23 = .ok (.ifCond .ne 6, 3) := by decide +kernel
theorem d_X_set_26 : decode b_X_set 26 = .ok (.bipush (-2), 2) := by decide +kernel
theorem d_X_set_28 : decode b_X_set 28 = .ok (.ireturn, 1) := by decide +kernel
theorem d_X_set_29 : decode b_X_set 29 = .ok (.aload_n 0, 1) := by decide +kernel
theorem d_X_set_30 : decode b_X_set 30 = .ok (.aload_n 0, 1) := by decide +kernel
theorem d_X_set_31 : decode b_X_set 31 = .ok (.getfield 10, 3) := by decide +kernel
theorem d_X_set_34 : decode b_X_set 34 = .ok (.getfield 134, 3) := by decide +kernel
theorem d_X_set_37 : decode b_X_set 37 = .ok (.iload_n 1, 1) := by decide +kernel
theorem d_X_set_38 : decode b_X_set 38 = .ok (.iload_n 2, 1) := by decide +kernel
theorem d_X_set_39 : decode b_X_set 39 = .ok (.invokevirtual 99, 3) := by decide +kernel
theorem d_X_set_42 : decode b_X_set 42 = .ok (.ireturn, 1) := by decide +kernel
noncomputable def X_set (S : St) (x1 : Int32) (x2 : Int32) : Option (Int32 × St) :=
  if (X_within x1 0 2) = 0 then
      some ((-2), S)
    else
      chk (inb x1 3) <|
      chk (inb x1 3) <|
      if (X_within x2 (tb1 (ix x1)) (tb2 (ix x1))) = 0 then
        some ((-2), S)
      else
        bnd (X_replace S 24 3 x1 x2) fun z1 =>
        some (z1.1, z1.2)
set_option maxHeartbeats 4000000 in
set_option maxRecDepth 100000 in
theorem c_X_set (l : Launch) (w : gw) (S : St) (x1 : Int32) (x2 : Int32)  {z : Int32 × St} (h : (X_set S x1 x2) = some z) : gMi l w y_X_set b_X_set 3 (some .int) (rmm 1 24) [.ref (gad w 0), .int x1, .int x2] S z.1 z.2 := by
  unfold X_set at h
  refine g_met (Qc := gQi w z.1 z.2) (by decide +kernel) (Nat.le_of_ble_eq_true rfl) ?_
  intro p e s m args below meth c A Q ls hQ C hG hl
  have hx := C.1
  have hb := C.2.1
  have hl : lv_has ls 3 [(0, .ref (gad w 0)), (1, .int x1), (2, .int x2)] := hl
  refine lv_iload_n hx hb d_X_set_0 rfl (lv_at hl 1 rfl) ?_
  refine lv_iconst (v := 0) hx hb d_X_set_1 (by decide) ?_
  refine lv_iconst (v := 2) hx hb d_X_set_2 (by decide) ?_
  refine g_goi hG (g_runS (As := [.int x1, .int 0, .int 2]) (rest := []) C hG (c_X_within l w S x1 0 2 _) sw_X_67 rfl rfl ⟨by decide, by decide⟩ rfl hl.1 rfl (Nat.le_of_ble_eq_true rfl) d_X_set_3 ⟨Nat.zero_le _, Nat.zero_le _⟩) (fun H locs hG => ?_)
  refine lv_if_eq (tgt := 26) hx hb d_X_set_6 (by decide) (fun hc => ?_) (fun hc => ?_)
  · replace h := it_t h hc
    refine lv_bipush (v := (-2)) hx hb d_X_set_26 (by decide) ?_
    exact g_iret C hG (sm_fst h) (sm_snd h) hQ d_X_set_28
  · replace h := it_f h hc
    refine lv_iload_n hx hb d_X_set_9 rfl (lv_at hl 2 rfl) ?_
    refine va_gets hx hb (hG.2.2.2.2.2.1.1) hG.2.2.2.1 C.2.2.2.1 (C.2.2.2.2.1 _ qw334) (fun _ h9 => h9) d_X_set_10 ?_
    refine lv_iload_n hx hb d_X_set_13 rfl (lv_at hl 1 rfl) ?_
    obtain ⟨hi1, h⟩ := chk_some h
    refine va_ti (v := .int (tb1 (ix x1))) hx hb (hG.2.2.2.2.2.1.2.1) hG.2.2.2.1 (inb_in hi1) rfl d_X_set_14 ?_
    refine va_gets hx hb (hG.2.2.2.2.2.1.2.2.1) hG.2.2.2.1 C.2.2.2.1 (C.2.2.2.2.1 _ qw336) (fun _ h9 => h9) d_X_set_15 ?_
    refine lv_iload_n hx hb d_X_set_18 rfl (lv_at hl 1 rfl) ?_
    obtain ⟨hi2, h⟩ := chk_some h
    refine va_ti (v := .int (tb2 (ix x1))) hx hb (hG.2.2.2.2.2.1.2.2.2.1) hG.2.2.2.1 (inb_in hi2) rfl d_X_set_19 ?_
    refine g_goi hG (g_runS (As := [.int x2, .int (tb1 (ix x1)), .int (tb2 (ix x1))]) (rest := []) C hG (c_X_within l w S x2 (tb1 (ix x1)) (tb2 (ix x1)) _) sw_X_67 rfl rfl ⟨by decide, by decide⟩ rfl hl.1 rfl (Nat.le_of_ble_eq_true rfl) d_X_set_20 ⟨Nat.zero_le _, Nat.zero_le _⟩) (fun H locs hG => ?_)
    refine lv_if_ne (tgt := 29) hx hb d_X_set_23 (by decide) (fun hc => ?_) (fun hc => ?_)
    · replace h := it_f h hc
      refine lv_aload_n hx hb d_X_set_29 rfl (lv_at hl 0 rfl) ?_
      refine lv_aload_n hx hb d_X_set_30 rfl (lv_at hl 0 rfl) ?_
      refine g_get C hG (hG.lt (Nat.le_of_ble_eq_true rfl)) (ce0 w _) rfl inC7 0 (Nat.le_of_ble_eq_true rfl) qw199 rfl d_X_set_31 ?_
      refine g_get C hG (hG.lt (Nat.le_of_ble_eq_true rfl)) (ce1 w _) rfl inC6 7 (Nat.le_of_ble_eq_true rfl) qw51 rfl d_X_set_34 ?_
      refine lv_iload_n hx hb d_X_set_37 rfl (lv_at hl 1 rfl) ?_
      refine lv_iload_n hx hb d_X_set_38 rfl (lv_at hl 2 rfl) ?_
      obtain ⟨z1, hz1, h⟩ := bnd_some h
      refine g_goi hG (g_runV (As := [.ref (gad w 24), .int x1, .int x2]) (rest := []) C hG (c_X_replace l w S 24 3 x1 x2 ⟨(hG.lt (Nat.le_of_ble_eq_true rfl)), (ce24 w)⟩ hz1 _) (hG.lt (Nat.le_of_ble_eq_true rfl)) (ce0 w _) rfl vw_X_99 rfl rfl ⟨by decide, by decide⟩ rfl hl.1 rfl (Nat.le_of_ble_eq_true rfl) d_X_set_39 ⟨Nat.zero_le _, Nat.zero_le _⟩) (fun H locs hG => ?_)
      exact g_iret C hG (sm_fst h) (sm_snd h) hQ d_X_set_42
    · replace h := it_t h hc
      refine lv_bipush (v := (-2)) hx hb d_X_set_26 (by decide) ?_
      exact g_iret C hG (sm_fst h) (sm_snd h) hQ d_X_set_28
theorem d_X_busy_0 : decode b_X_busy 0 = .ok (.iload_n 1, 1) := by decide +kernel
theorem d_X_busy_1 : decode b_X_busy 1 = .ok (.invokestatic 91, 3) := by decide +kernel
theorem d_X_busy_4 : decode b_X_busy 4 = .ok (.ifCond .eq 19, 3) := by decide +kernel
theorem d_X_busy_7 : decode b_X_busy 7 = .ok (.iload_n 2, 1) := by decide +kernel
theorem d_X_busy_8 : decode b_X_busy 8 = .ok (.invokestatic 109, 3) := by decide +kernel
theorem d_X_busy_11 : decode b_X_busy 11 = .ok (.ifCond .eq 12, 3) := by decide +kernel
theorem d_X_busy_14 : decode b_X_busy 14 = .ok (.iload_n 3, 1) := by decide +kernel
theorem d_X_busy_15 : decode b_X_busy 15 = .ok (.iconst 0, 1) := by decide +kernel
theorem d_X_busy_16 : decode b_X_busy 16 = .ok (.iconst 1, 1) := by decide +kernel
theorem d_X_busy_17 : decode b_X_busy 17 = .ok (.invokestatic 67, 3) := by decide +kernel
theorem d_X_busy_20 : decode b_X_busy 20 = .ok (.ifCond .ne 6, 3) := by decide +kernel
theorem d_X_busy_23 : decode b_X_busy 23 = .ok (.bipush (-2), 2) := by decide +kernel
theorem d_X_busy_25 : decode b_X_busy 25 = .ok (.ireturn, 1) := by decide +kernel
theorem d_X_busy_26 : decode b_X_busy 26 = .ok (.aload_n 0, 1) := by decide +kernel
theorem d_X_busy_27 : decode b_X_busy 27 = .ok (.aload_n 0, 1) := by decide +kernel
theorem d_X_busy_28 : decode b_X_busy 28 = .ok (.getfield 10, 3) := by decide +kernel
theorem d_X_busy_31 : decode b_X_busy 31 = .ok (.getfield 137, 3) := by decide +kernel
theorem d_X_busy_34 : decode b_X_busy 34 = .ok (.iload_n 1, 1) := by decide +kernel
theorem d_X_busy_35 : decode b_X_busy 35 = .ok (.aaload, 1) := by decide +kernel
theorem d_X_busy_36 : decode b_X_busy 36 = .ok (.iload_n 2, 1) := by decide +kernel
theorem d_X_busy_37 : decode b_X_busy 37 = .ok (.iload_n 3, 1) := by decide +kernel
theorem d_X_busy_38 : decode b_X_busy 38 = .ok (.invokevirtual 99, 3) := by decide +kernel
theorem d_X_busy_41 : decode b_X_busy 41 = .ok (.ireturn, 1) := by decide +kernel
noncomputable def X_busy (S : St) (x1 : Int32) (x2 : Int32) (x3 : Int32) : Option (Int32 × St) :=
  if (X_isBidder x1) = 0 then
      some ((-2), S)
    else
      if (X_isEvening x2) = 0 then
        some ((-2), S)
      else
        if (X_within x3 0 1) = 0 then
          some ((-2), S)
        else
          chk (inb x1 5) <|
          bnd (X_replace S (17 + (ix x1)) 10 x2 x3) fun z1 =>
          some (z1.1, z1.2)
set_option maxHeartbeats 4000000 in
set_option maxRecDepth 100000 in
theorem c_X_busy (l : Launch) (w : gw) (S : St) (x1 : Int32) (x2 : Int32) (x3 : Int32)  {z : Int32 × St} (h : (X_busy S x1 x2 x3) = some z) : gMi l w y_X_busy b_X_busy 4 (some .int) (rmm 2 42) [.ref (gad w 0), .int x1, .int x2, .int x3] S z.1 z.2 := by
  unfold X_busy at h
  refine g_met (Qc := gQi w z.1 z.2) (by decide +kernel) (Nat.le_of_ble_eq_true rfl) ?_
  intro p e s m args below meth c A Q ls hQ C hG hl
  have hx := C.1
  have hb := C.2.1
  have hl : lv_has ls 4 [(0, .ref (gad w 0)), (1, .int x1), (2, .int x2), (3, .int x3)] := hl
  refine lv_iload_n hx hb d_X_busy_0 rfl (lv_at hl 1 rfl) ?_
  refine g_goi hG (g_runS (As := [.int x1]) (rest := []) C hG (c_X_isBidder l w S x1 _) sw_X_91 rfl rfl ⟨by decide, by decide⟩ rfl hl.1 rfl (Nat.le_of_ble_eq_true rfl) d_X_busy_1 ⟨Nat.zero_le _, Nat.zero_le _⟩) (fun H locs hG => ?_)
  refine lv_if_eq (tgt := 23) hx hb d_X_busy_4 (by decide) (fun hc => ?_) (fun hc => ?_)
  · replace h := it_t h hc
    refine lv_bipush (v := (-2)) hx hb d_X_busy_23 (by decide) ?_
    exact g_iret C hG (sm_fst h) (sm_snd h) hQ d_X_busy_25
  · replace h := it_f h hc
    refine lv_iload_n hx hb d_X_busy_7 rfl (lv_at hl 2 rfl) ?_
    refine g_goi hG (g_runS (As := [.int x2]) (rest := []) C hG (c_X_isEvening l w S x2 _) sw_X_109 rfl rfl ⟨by decide, by decide⟩ rfl hl.1 rfl (Nat.le_of_ble_eq_true rfl) d_X_busy_8 ⟨Nat.zero_le _, Nat.zero_le _⟩) (fun H locs hG => ?_)
    refine lv_if_eq (tgt := 23) hx hb d_X_busy_11 (by decide) (fun hc => ?_) (fun hc => ?_)
    · replace h := it_t h hc
      refine lv_bipush (v := (-2)) hx hb d_X_busy_23 (by decide) ?_
      exact g_iret C hG (sm_fst h) (sm_snd h) hQ d_X_busy_25
    · replace h := it_f h hc
      refine lv_iload_n hx hb d_X_busy_14 rfl (lv_at hl 3 rfl) ?_
      refine lv_iconst (v := 0) hx hb d_X_busy_15 (by decide) ?_
      refine lv_iconst (v := 1) hx hb d_X_busy_16 (by decide) ?_
      refine g_goi hG (g_runS (As := [.int x3, .int 0, .int 1]) (rest := []) C hG (c_X_within l w S x3 0 1 _) sw_X_67 rfl rfl ⟨by decide, by decide⟩ rfl hl.1 rfl (Nat.le_of_ble_eq_true rfl) d_X_busy_17 ⟨Nat.zero_le _, Nat.zero_le _⟩) (fun H locs hG => ?_)
      refine lv_if_ne (tgt := 26) hx hb d_X_busy_20 (by decide) (fun hc => ?_) (fun hc => ?_)
      · replace h := it_f h hc
        refine lv_aload_n hx hb d_X_busy_26 rfl (lv_at hl 0 rfl) ?_
        refine lv_aload_n hx hb d_X_busy_27 rfl (lv_at hl 0 rfl) ?_
        refine g_get C hG (hG.lt (Nat.le_of_ble_eq_true rfl)) (ce0 w _) rfl inC7 0 (Nat.le_of_ble_eq_true rfl) qw199 rfl d_X_busy_28 ?_
        refine g_get C hG (hG.lt (Nat.le_of_ble_eq_true rfl)) (ce1 w _) rfl inC6 4 (Nat.le_of_ble_eq_true rfl) qw41 rfl d_X_busy_31 ?_
        refine lv_iload_n hx hb d_X_busy_34 rfl (lv_at hl 1 rfl) ?_
        obtain ⟨hi1, h⟩ := chk_some h
        refine g_ald2 (j := ix x1) C hG (hG.lt (Nat.le_of_ble_eq_true rfl)) (ce16 w _) (inb_in hi1) rfl d_X_busy_35 ?_
        have hr2 : ix x1 < 5 := row_lt (inb_in hi1)
        refine lv_iload_n hx hb d_X_busy_36 rfl (lv_at hl 2 rfl) ?_
        refine lv_iload_n hx hb d_X_busy_37 rfl (lv_at hl 3 rfl) ?_
        obtain ⟨z1, hz1, h⟩ := bnd_some h
        refine g_goi hG (g_runV (As := [.ref (gad w (17 + (ix x1))), .int x2, .int x3]) (rest := []) C hG (c_X_replace l w S (17 + (ix x1)) 10 x2 x3 ⟨(hG.lt (by omega)), (fun r => cr16 w r hr2)⟩ hz1 _) (hG.lt (Nat.le_of_ble_eq_true rfl)) (ce0 w _) rfl vw_X_99 rfl rfl ⟨by decide, by decide⟩ rfl hl.1 rfl (Nat.le_of_ble_eq_true rfl) d_X_busy_38 ⟨Nat.zero_le _, Nat.zero_le _⟩) (fun H locs hG => ?_)
        exact g_iret C hG (sm_fst h) (sm_snd h) hQ d_X_busy_41
      · replace h := it_t h hc
        refine lv_bipush (v := (-2)) hx hb d_X_busy_23 (by decide) ?_
        exact g_iret C hG (sm_fst h) (sm_snd h) hQ d_X_busy_25
theorem d_X_seen_0 : decode b_X_seen 0 = .ok (.iload_n 1, 1) := by decide +kernel
theorem d_X_seen_1 : decode b_X_seen 1 = .ok (.invokestatic 109, 3) := by decide +kernel
theorem d_X_seen_4 : decode b_X_seen 4 = .ok (.ifCond .eq 10, 3) := by decide +kernel
theorem d_X_seen_7 : decode b_X_seen 7 = .ok (.iload_n 2, 1) := by decide +kernel
theorem d_X_seen_8 : decode b_X_seen 8 = .ok (.invokestatic 103, 3) := by decide +kernel
theorem d_X_seen_11 : decode b_X_seen 11 = .ok (.ifCond .ne 6, 3) := by decide +kernel
theorem d_X_seen_14 : decode b_X_seen 14 = .ok (.bipush (-2), 2) := by decide +kernel
theorem d_X_seen_16 : decode b_X_seen 16 = .ok (.ireturn, 1) := by decide +kernel
theorem d_X_seen_17 : decode b_X_seen 17 = .ok (.aload_n 0, 1) := by decide +kernel
theorem d_X_seen_18 : decode b_X_seen 18 = .ok (.getfield 50, 3) := by decide +kernel
theorem d_X_seen_21 : decode b_X_seen 21 = .ok (.getfield 237, 3) := by decide +kernel
theorem d_X_seen_24 : decode b_X_seen 24 = .ok (.bipush 8, 2) := by decide +kernel
theorem d_X_seen_26 : decode b_X_seen 26 = .ok (.if_icmp .lt 6, 3) := by decide +kernel
theorem d_X_seen_29 : decode b_X_seen 29 = .ok (.bipush (-4), 2) := by decide +kernel
theorem d_X_seen_31 : decode b_X_seen 31 = .ok (.ireturn, 1) := by decide +kernel
theorem d_X_seen_32 : decode b_X_seen 32 = .ok (.aload_n 0, 1) := by decide +kernel
theorem d_X_seen_33 : decode b_X_seen 33 = .ok (.getfield 50, 3) := by decide +kernel
theorem d_X_seen_36 : decode b_X_seen 36 = .ok (.iload_n 1, 1) := by decide +kernel
theorem d_X_seen_37 : decode b_X_seen 37 = .ok (.iload_n 2, 1) := by decide +kernel
theorem d_X_seen_38 : decode b_X_seen 38 = .ok (.invokevirtual 238, 3) := by decide +kernel
theorem d_X_seen_41 : decode b_X_seen 41 = .ok (.aload_n 0, 1) := by decide +kernel
theorem d_X_seen_42 : decode b_X_seen 42 = .ok (.getfield 50, 3) := by decide +kernel
theorem d_X_seen_45 : decode b_X_seen 45 = .ok (.getfield 237, 3) := by decide +kernel
theorem d_X_seen_48 : decode b_X_seen 48 = .ok (.ireturn, 1) := by decide +kernel
noncomputable def X_seen (S : St) (x1 : Int32) (x2 : Int32) : Option (Int32 × St) :=
  if (X_isEvening x1) = 0 then
      some ((-2), S)
    else
      if (X_isProgramme x2) = 0 then
        some ((-2), S)
      else
        if (S 45 3) < 8 then
          bnd (SI_note S x1 x2) fun z1 =>
          some (z1 45 3, z1)
        else
          some ((-4), S)
set_option maxHeartbeats 4000000 in
set_option maxRecDepth 100000 in
theorem c_X_seen (l : Launch) (w : gw) (S : St) (x1 : Int32) (x2 : Int32)  {z : Int32 × St} (h : (X_seen S x1 x2) = some z) : gMi l w y_X_seen b_X_seen 3 (some .int) (rmm 2 42) [.ref (gad w 0), .int x1, .int x2] S z.1 z.2 := by
  unfold X_seen at h
  refine g_met (Qc := gQi w z.1 z.2) (by decide +kernel) (Nat.le_of_ble_eq_true rfl) ?_
  intro p e s m args below meth c A Q ls hQ C hG hl
  have hx := C.1
  have hb := C.2.1
  have hl : lv_has ls 3 [(0, .ref (gad w 0)), (1, .int x1), (2, .int x2)] := hl
  refine lv_iload_n hx hb d_X_seen_0 rfl (lv_at hl 1 rfl) ?_
  refine g_goi hG (g_runS (As := [.int x1]) (rest := []) C hG (c_X_isEvening l w S x1 _) sw_X_109 rfl rfl ⟨by decide, by decide⟩ rfl hl.1 rfl (Nat.le_of_ble_eq_true rfl) d_X_seen_1 ⟨Nat.zero_le _, Nat.zero_le _⟩) (fun H locs hG => ?_)
  refine lv_if_eq (tgt := 14) hx hb d_X_seen_4 (by decide) (fun hc => ?_) (fun hc => ?_)
  · replace h := it_t h hc
    refine lv_bipush (v := (-2)) hx hb d_X_seen_14 (by decide) ?_
    exact g_iret C hG (sm_fst h) (sm_snd h) hQ d_X_seen_16
  · replace h := it_f h hc
    refine lv_iload_n hx hb d_X_seen_7 rfl (lv_at hl 2 rfl) ?_
    refine g_goi hG (g_runS (As := [.int x2]) (rest := []) C hG (c_X_isProgramme l w S x2 _) sw_X_103 rfl rfl ⟨by decide, by decide⟩ rfl hl.1 rfl (Nat.le_of_ble_eq_true rfl) d_X_seen_8 ⟨Nat.zero_le _, Nat.zero_le _⟩) (fun H locs hG => ?_)
    refine lv_if_ne (tgt := 17) hx hb d_X_seen_11 (by decide) (fun hc => ?_) (fun hc => ?_)
    · replace h := it_f h hc
      refine lv_aload_n hx hb d_X_seen_17 rfl (lv_at hl 0 rfl) ?_
      refine g_get C hG (hG.lt (Nat.le_of_ble_eq_true rfl)) (ce0 w _) rfl inC7 6 (Nat.le_of_ble_eq_true rfl) qw205 rfl d_X_seen_18 ?_
      refine g_get C hG (hG.lt (Nat.le_of_ble_eq_true rfl)) (ce45 w _) rfl inC5 3 (Nat.le_of_ble_eq_true rfl) qw187 rfl d_X_seen_21 ?_
      refine lv_bipush (v := 8) hx hb d_X_seen_24 (by decide) ?_
      refine lv_icmp_lt (tgt := 32) hx hb d_X_seen_26 (by decide) (fun hc => ?_) (fun hc => ?_)
      · replace h := it_t h hc
        refine lv_aload_n hx hb d_X_seen_32 rfl (lv_at hl 0 rfl) ?_
        refine g_get C hG (hG.lt (Nat.le_of_ble_eq_true rfl)) (ce0 w _) rfl inC7 6 (Nat.le_of_ble_eq_true rfl) qw205 rfl d_X_seen_33 ?_
        refine lv_iload_n hx hb d_X_seen_36 rfl (lv_at hl 1 rfl) ?_
        refine lv_iload_n hx hb d_X_seen_37 rfl (lv_at hl 2 rfl) ?_
        obtain ⟨z1, hz1, h⟩ := bnd_some h
        refine g_gov hG (g_runV (As := [.int x1, .int x2]) (rest := []) C hG (c_SI_note l w S x1 x2 hz1 _) (hG.lt (Nat.le_of_ble_eq_true rfl)) (ce45 w _) rfl vw_X_238 rfl rfl ⟨by decide, by decide⟩ rfl hl.1 rfl (Nat.le_of_ble_eq_true rfl) d_X_seen_38 ⟨Nat.zero_le _, Nat.zero_le _⟩) (fun H locs hG => ?_)
        refine lv_aload_n hx hb d_X_seen_41 rfl (lv_at hl 0 rfl) ?_
        refine g_get C hG (hG.lt (Nat.le_of_ble_eq_true rfl)) (ce0 w _) rfl inC7 6 (Nat.le_of_ble_eq_true rfl) qw205 rfl d_X_seen_42 ?_
        refine g_get C hG (hG.lt (Nat.le_of_ble_eq_true rfl)) (ce45 w _) rfl inC5 3 (Nat.le_of_ble_eq_true rfl) qw187 rfl d_X_seen_45 ?_
        exact g_iret C hG (sm_fst h) (sm_snd h) hQ d_X_seen_48
      · replace h := it_f h hc
        refine lv_bipush (v := (-4)) hx hb d_X_seen_29 (by decide) ?_
        exact g_iret C hG (sm_fst h) (sm_snd h) hQ d_X_seen_31
    · replace h := it_t h hc
      refine lv_bipush (v := (-2)) hx hb d_X_seen_14 (by decide) ?_
      exact g_iret C hG (sm_fst h) (sm_snd h) hQ d_X_seen_16
theorem d_X_forget_0 : decode b_X_forget 0 = .ok (.aload_n 0, 1) := by decide +kernel
theorem d_X_forget_1 : decode b_X_forget 1 = .ok (.getfield 50, 3) := by decide +kernel
theorem d_X_forget_4 : decode b_X_forget 4 = .ok (.getfield 237, 3) := by decide +kernel
theorem d_X_forget_7 : decode b_X_forget 7 = .ok (.istore_n 1, 1) := by decide +kernel
theorem d_X_forget_8 : decode b_X_forget 8 = .ok (.aload_n 0, 1) := by decide +kernel
theorem d_X_forget_9 : decode b_X_forget 9 = .ok (.getfield 50, 3) := by decide +kernel
theorem d_X_forget_12 : decode b_X_forget 12 = .ok (.invokevirtual 242, 3) := by decide +kernel
theorem d_X_forget_15 : decode b_X_forget 15 = .ok (.iload_n 1, 1) := by decide +kernel
theorem d_X_forget_16 : decode b_X_forget 16 = .ok (.ireturn, 1) := by decide +kernel
noncomputable def X_forget (S : St) : Option (Int32 × St) :=
  bnd (SI_clear S) fun z1 =>
    some (S 45 3, z1)
set_option maxHeartbeats 4000000 in
set_option maxRecDepth 100000 in
theorem c_X_forget (l : Launch) (w : gw) (S : St)   {z : Int32 × St} (h : (X_forget S) = some z) : gMi l w y_X_forget b_X_forget 2 (some .int) (rmm 1 21) [.ref (gad w 0)] S z.1 z.2 := by
  unfold X_forget at h
  refine g_met (Qc := gQi w z.1 z.2) (by decide +kernel) (Nat.le_of_ble_eq_true rfl) ?_
  intro p e s m args below meth c A Q ls hQ C hG hl
  have hx := C.1
  have hb := C.2.1
  have hl : lv_has ls 2 [(0, .ref (gad w 0))] := hl
  refine lv_aload_n hx hb d_X_forget_0 rfl (lv_at hl 0 rfl) ?_
  refine g_get C hG (hG.lt (Nat.le_of_ble_eq_true rfl)) (ce0 w _) rfl inC7 6 (Nat.le_of_ble_eq_true rfl) qw205 rfl d_X_forget_1 ?_
  refine g_get C hG (hG.lt (Nat.le_of_ble_eq_true rfl)) (ce45 w _) rfl inC5 3 (Nat.le_of_ble_eq_true rfl) qw187 rfl d_X_forget_4 ?_
  refine lv_istore_n (lv' := [(1, .int (S 45 3)), (0, .ref (gad w 0))]) hx hb d_X_forget_7 rfl hl (by decide) rfl (fun ls hl => ?_)
  refine lv_aload_n hx hb d_X_forget_8 rfl (lv_at hl 1 rfl) ?_
  refine g_get C hG (hG.lt (Nat.le_of_ble_eq_true rfl)) (ce0 w _) rfl inC7 6 (Nat.le_of_ble_eq_true rfl) qw205 rfl d_X_forget_9 ?_
  obtain ⟨z1, hz1, h⟩ := bnd_some h
  refine g_gov hG (g_runV (As := []) (rest := []) C hG (c_SI_clear l w S hz1 _) (hG.lt (Nat.le_of_ble_eq_true rfl)) (ce45 w _) rfl vw_X_242 rfl rfl ⟨by decide, by decide⟩ rfl hl.1 rfl (Nat.le_of_ble_eq_true rfl) d_X_forget_12 ⟨Nat.zero_le _, Nat.zero_le _⟩) (fun H locs hG => ?_)
  refine lv_iload_n hx hb d_X_forget_15 rfl (lv_at hl 0 rfl) ?_
  exact g_iret C hG (sm_fst h) (sm_snd h) hQ d_X_forget_16
theorem d_X_cheapestToMeet_0 : decode b_X_cheapestToMeet 0 = .ok (.iconst (-1), 1) := by decide +kernel
theorem d_X_cheapestToMeet_1 : decode b_X_cheapestToMeet 1 = .ok (.istore 4, 2) := by decide +kernel
theorem d_X_cheapestToMeet_3 : decode b_X_cheapestToMeet 3 = .ok (.iconst 0, 1) := by decide +kernel
theorem d_X_cheapestToMeet_4 : decode b_X_cheapestToMeet 4 = .ok (.istore 5, 2) := by decide +kernel
theorem d_X_cheapestToMeet_6 : decode b_X_cheapestToMeet 6 = .ok (.iconst 0, 1) := by decide +kernel
theorem d_X_cheapestToMeet_7 : decode b_X_cheapestToMeet 7 = .ok (.istore 6, 2) := by decide +kernel
theorem d_X_cheapestToMeet_9 : decode b_X_cheapestToMeet 9 = .ok (.iload 6, 2) := by decide +kernel
theorem d_X_cheapestToMeet_11 : decode b_X_cheapestToMeet 11 = .ok (.bipush 10, 2) := by decide +kernel
theorem d_X_cheapestToMeet_13 : decode b_X_cheapestToMeet 13 = .ok (.if_icmp .ge 77, 3) := by decide +kernel
theorem d_X_cheapestToMeet_16 : decode b_X_cheapestToMeet 16 = .ok (.iload_n 3, 1) := by decide +kernel
theorem d_X_cheapestToMeet_17 : decode b_X_cheapestToMeet 17 = .ok (.iload 6, 2) := by decide +kernel
theorem d_X_cheapestToMeet_19 : decode b_X_cheapestToMeet 19 = .ok (.ishr, 1) := by decide +kernel
theorem d_X_cheapestToMeet_20 : decode b_X_cheapestToMeet 20 = .ok (.iconst 1, 1) := by decide +kernel
theorem d_X_cheapestToMeet_21 : decode b_X_cheapestToMeet 21 = .ok (.iand, 1) := by decide +kernel
theorem d_X_cheapestToMeet_22 : decode b_X_cheapestToMeet 22 = .ok (.ifCond .ne 20, 3) := by decide +kernel
theorem d_X_cheapestToMeet_25 : decode b_X_cheapestToMeet 25 = .ok (.aload_n 0, 1) := by decide +kernel
theorem d_X_cheapestToMeet_26 : decode b_X_cheapestToMeet 26 = .ok (.getfield 10, 3) := by decide +kernel
theorem d_X_cheapestToMeet_29 : decode b_X_cheapestToMeet 29 = .ok (.iload_n 2, 1) := by decide +kernel
theorem d_X_cheapestToMeet_30 : decode b_X_cheapestToMeet 30 = .ok (.iload 6, 2) := by decide +kernel
theorem d_X_cheapestToMeet_32 : decode b_X_cheapestToMeet 32 = .ok (.invokevirtual 378, 3) := by decide +kernel
theorem d_X_cheapestToMeet_35 : decode b_X_cheapestToMeet 35 = .ok (.ifCond .ne 7, 3) := by decide +kernel
theorem d_X_cheapestToMeet_38 : decode b_X_cheapestToMeet 38 = .ok (.iconst 1, 1) := by decide +kernel
theorem d_X_cheapestToMeet_39 : decode b_X_cheapestToMeet 39 = .ok (.goto 4, 3) := by decide +kernel
theorem d_X_cheapestToMeet_42 : decode b_X_cheapestToMeet 42 = .ok (.iconst 0, 1) := by decide +kernel
theorem d_X_cheapestToMeet_43 : decode b_X_cheapestToMeet 43 = .ok (.istore 7, 2) := by decide +kernel
theorem d_X_cheapestToMeet_45 : decode b_X_cheapestToMeet 45 = .ok (.iload 7, 2) := by decide +kernel
theorem d_X_cheapestToMeet_47 : decode b_X_cheapestToMeet 47 = .ok (.ifCond .eq 37, 3) := by decide +kernel
theorem d_X_cheapestToMeet_50 : decode b_X_cheapestToMeet 50 = .ok (.aload_n 1, 1) := by decide +kernel
theorem d_X_cheapestToMeet_51 : decode b_X_cheapestToMeet 51 = .ok (.aload_n 0, 1) := by decide +kernel
theorem d_X_cheapestToMeet_52 : decode b_X_cheapestToMeet 52 = .ok (.getfield 10, 3) := by decide +kernel
theorem d_X_cheapestToMeet_55 : decode b_X_cheapestToMeet 55 = .ok (.iload_n 2, 1) := by decide +kernel
theorem d_X_cheapestToMeet_56 : decode b_X_cheapestToMeet 56 = .ok (.iload 6, 2) := by decide +kernel
theorem d_X_cheapestToMeet_58 : decode b_X_cheapestToMeet 58 = .ok (.invokevirtual 197, 3) := by decide +kernel
theorem d_X_cheapestToMeet_61 : decode b_X_cheapestToMeet 61 = .ok (.istore 8, 2) := by decide +kernel
theorem d_X_cheapestToMeet_63 : decode b_X_cheapestToMeet 63 = .ok (.iload 4, 2) := by decide +kernel
theorem d_X_cheapestToMeet_65 : decode b_X_cheapestToMeet 65 = .ok (.iconst (-1), 1) := by decide +kernel
theorem d_X_cheapestToMeet_66 : decode b_X_cheapestToMeet 66 = .ok (.if_icmp .eq 10, 3) := by decide +kernel
theorem d_X_cheapestToMeet_69 : decode b_X_cheapestToMeet 69 = .ok (.iload 8, 2) := by decide +kernel
theorem d_X_cheapestToMeet_71 : decode b_X_cheapestToMeet 71 = .ok (.iload 5, 2) := by decide +kernel
theorem d_X_cheapestToMeet_73 : decode b_X_cheapestToMeet 73 = .ok (.if_icmp .ge 11, 3) := by decide +kernel
theorem d_X_cheapestToMeet_76 : decode b_X_cheapestToMeet 76 = .ok (.iload 6, 2) := by decide +kernel
theorem d_X_cheapestToMeet_78 : decode b_X_cheapestToMeet 78 = .ok (.istore 4, 2) := by decide +kernel
theorem d_X_cheapestToMeet_80 : decode b_X_cheapestToMeet 80 = .ok (.iload 8, 2) := by decide +kernel
theorem d_X_cheapestToMeet_82 : decode b_X_cheapestToMeet 82 = .ok (.istore 5, 2) := by decide +kernel
theorem d_X_cheapestToMeet_84 : decode b_X_cheapestToMeet 84 = .ok (.iinc 6 1, 3) := by decide +kernel
theorem d_X_cheapestToMeet_87 : decode b_X_cheapestToMeet 87 = .ok (.goto (-78), 3) := by decide +kernel
theorem d_X_cheapestToMeet_90 : decode b_X_cheapestToMeet 90 = .ok (.iload 4, 2) := by decide +kernel
theorem d_X_cheapestToMeet_92 : decode b_X_cheapestToMeet 92 = .ok (.ireturn, 1) := by decide +kernel
noncomputable def X_cheapestToMeet_J43 (S : St) (x2 : Int32) (x3 : Int32) (x4 : Int32) (x5 : Int32) (x6 : Int32) (t0 : Int32) : Option ((Int32 × Int32 × Int32) × Nat) :=
  if t0 = 0 then
      some ((x4, x5, x6 + 1), 0)
    else
      bnd (OC_costToMeet S x2 x6) fun z1 =>
      if x4 = (-1) then
        some ((x6, z1, x6 + 1), 0)
      else
        if x5 ≤ z1 then
          some ((x4, x5, x6 + 1), 0)
        else
          some ((x6, z1, x6 + 1), 0)
noncomputable def X_cheapestToMeet_J42 (S : St) (x2 : Int32) (x3 : Int32) (x4 : Int32) (x5 : Int32) (x6 : Int32) : Option ((Int32 × Int32 × Int32) × Nat) :=
  X_cheapestToMeet_J43 S x2 x3 x4 x5 x6 0
noncomputable def X_cheapestToMeet_L9 (S : St) (x2 : Int32) (x3 : Int32) (x4 : Int32) (x5 : Int32) (x6 : Int32) : Option ((Int32 × Int32 × Int32) × Nat) :=
  if 10 ≤ x6 then
      some ((x4, x5, x6), 1)
    else
      if ((x3 >>> (x6 &&& 31)) &&& 1) = 0 then
        bnd (TW_isAnyBusy S x2 x6) fun z2 =>
        if z2 = 0 then
          X_cheapestToMeet_J43 S x2 x3 x4 x5 x6 1
        else
          X_cheapestToMeet_J42 S x2 x3 x4 x5 x6
      else
        X_cheapestToMeet_J42 S x2 x3 x4 x5 x6
noncomputable def X_cheapestToMeet_J90 (S : St) (x4 : Int32) : Option (Int32) :=
  some x4
noncomputable def X_cheapestToMeet (S : St) (x2 : Int32) (x3 : Int32) : Option (Int32) :=
  bnd (lp (σ := Int32 × Int32 × Int32) (fun q => X_cheapestToMeet_L9 S x2 x3 q.1 q.2.1 q.2.2) FZ ((-1), 0, 0)) fun z3 =>
    X_cheapestToMeet_J90 S z3.1.1
set_option maxHeartbeats 4000000 in
set_option maxRecDepth 100000 in
theorem L_X_cheapestToMeet_9 (C : gCx p s m args meth c y_X_cheapestToMeet.cls b_X_cheapestToMeet 9 (some .int)) : ∀ (S : St) (x2 : Int32) (x3 : Int32) (n : Nat) (x4 : Int32) (x5 : Int32) (x6 : Int32) (r : (Int32 × Int32 × Int32) × Nat), lp (σ := Int32 × Int32 × Int32) (fun q => X_cheapestToMeet_L9 S x2 x3 q.1 q.2.1 q.2.2) n (x4, x5, x6) = some r → (∀ (y4 : Int32) (y5 : Int32) (y6 : Int32), r = ((y4, y5, y6), 1) → ∀ (ls : Array Slot) (H : Heap) (locs : List Loc), GH w s A S H locs → lv_has ls 9 [(4, .int y4)] → W p l e (rmm 2 46) s m args below meth c H locs 0 0 Q (F0 m 90 ls [])) → ∀ (ls : Array Slot) (H : Heap) (locs : List Loc), GH w s A S H locs → lv_has ls 9 [(0, .ref (gad w 0)), (1, .ref (gad w 27)), (2, .int x2), (3, .int x3), (4, .int x4), (5, .int x5), (6, .int x6)] → W p l e (rmm 2 46) s m args below meth c H locs 0 0 Q (F0 m 9 ls []) := by
  have hx := C.1
  have hb := C.2.1
  intro S x2 x3 n
  induction n with
  | zero => intro x4 x5 x6 r h; cases h
  | succ n ih =>
    intro x4 x5 x6 r h k1 ls H locs hG hl
    obtain ⟨z, h, hr⟩ := lp_succ h
    have h : X_cheapestToMeet_L9 S x2 x3 x4 x5 x6 = some z := h
    have J43 : ∀ (x4 : Int32) (x5 : Int32) (x6 : Int32) (t0 : Int32), X_cheapestToMeet_J43 S x2 x3 x4 x5 x6 t0 = some z → ∀ (ls : Array Slot) (H : Heap) (locs : List Loc), GH w s A S H locs → lv_has ls 9 [(0, .ref (gad w 0)), (1, .ref (gad w 27)), (2, .int x2), (3, .int x3), (4, .int x4), (5, .int x5), (6, .int x6)] → W p l e (rmm 2 46) s m args below meth c H locs 0 0 Q (F0 m 43 ls [.int t0]) := by
      intro x4 x5 x6 t0 h ls H locs hG hl
      unfold X_cheapestToMeet_J43 at h
      refine lv_istore (lv' := [(7, .int t0), (0, .ref (gad w 0)), (1, .ref (gad w 27)), (2, .int x2), (3, .int x3), (4, .int x4), (5, .int x5), (6, .int x6)]) hx hb d_X_cheapestToMeet_43 hl (by decide) rfl (fun ls hl => ?_)
      refine lv_iload hx hb d_X_cheapestToMeet_45 (lv_at hl 0 rfl) ?_
      refine lv_if_eq (tgt := 84) hx hb d_X_cheapestToMeet_47 (by decide) (fun hc => ?_) (fun hc => ?_)
      · replace h := it_t h hc
        refine lv_iinc (v := x6 + 1) (lv' := [(6, .int (x6 + 1)), (7, .int t0), (0, .ref (gad w 0)), (1, .ref (gad w 27)), (2, .int x2), (3, .int x3), (4, .int x4), (5, .int x5)]) hx hb d_X_cheapestToMeet_84 hl (k := 7) rfl (congrArg (HAdd.hAdd x6) (by decide : Int32.ofInt 1 = 1)) (by decide) rfl (fun ls hl => ?_)
        refine lv_goto (tgt := 9) hx hb d_X_cheapestToMeet_87 (by decide) ?_
        exact ih _ _ _ _ (lp_back h hr) k1 ls _ _ hG (lv_sub hl [2, 3, 4, 5, 6, 7, 0] rfl)
      · replace h := it_f h hc
        refine lv_aload_n hx hb d_X_cheapestToMeet_50 rfl (lv_at hl 2 rfl) ?_
        refine lv_aload_n hx hb d_X_cheapestToMeet_51 rfl (lv_at hl 1 rfl) ?_
        refine g_get C hG (hG.lt (Nat.le_of_ble_eq_true rfl)) (ce0 w _) rfl inC7 0 (Nat.le_of_ble_eq_true rfl) qw199 rfl d_X_cheapestToMeet_52 ?_
        refine lv_iload_n hx hb d_X_cheapestToMeet_55 rfl (lv_at hl 3 rfl) ?_
        refine lv_iload hx hb d_X_cheapestToMeet_56 (lv_at hl 7 rfl) ?_
        obtain ⟨z1, hz1, h⟩ := bnd_some h
        refine g_goi hG (g_runV (As := [.ref (gad w 1), .int x2, .int x6]) (rest := []) C hG (c_OC_costToMeet l w S x2 x6 hz1 _) (hG.lt (Nat.le_of_ble_eq_true rfl)) (ce27 w _) rfl vw_X_197 rfl rfl ⟨by decide, by decide⟩ rfl hl.1 rfl (Nat.le_of_ble_eq_true rfl) d_X_cheapestToMeet_58 ⟨Nat.zero_le _, Nat.zero_le _⟩) (fun H locs hG => ?_)
        refine lv_istore (lv' := [(8, .int z1), (7, .int t0), (0, .ref (gad w 0)), (1, .ref (gad w 27)), (2, .int x2), (3, .int x3), (4, .int x4), (5, .int x5), (6, .int x6)]) hx hb d_X_cheapestToMeet_61 hl (by decide) rfl (fun ls hl => ?_)
        refine lv_iload hx hb d_X_cheapestToMeet_63 (lv_at hl 6 rfl) ?_
        refine lv_iconst (v := (-1)) hx hb d_X_cheapestToMeet_65 (by decide) ?_
        refine lv_icmp_eq (tgt := 76) hx hb d_X_cheapestToMeet_66 (by decide) (fun hc => ?_) (fun hc => ?_)
        · replace h := it_t h hc
          refine lv_iload hx hb d_X_cheapestToMeet_76 (lv_at hl 8 rfl) ?_
          refine lv_istore (lv' := [(4, .int x6), (8, .int z1), (7, .int t0), (0, .ref (gad w 0)), (1, .ref (gad w 27)), (2, .int x2), (3, .int x3), (5, .int x5), (6, .int x6)]) hx hb d_X_cheapestToMeet_78 hl (by decide) rfl (fun ls hl => ?_)
          refine lv_iload hx hb d_X_cheapestToMeet_80 (lv_at hl 1 rfl) ?_
          refine lv_istore (lv' := [(5, .int z1), (4, .int x6), (8, .int z1), (7, .int t0), (0, .ref (gad w 0)), (1, .ref (gad w 27)), (2, .int x2), (3, .int x3), (6, .int x6)]) hx hb d_X_cheapestToMeet_82 hl (by decide) rfl (fun ls hl => ?_)
          refine lv_iinc (v := x6 + 1) (lv' := [(6, .int (x6 + 1)), (5, .int z1), (4, .int x6), (8, .int z1), (7, .int t0), (0, .ref (gad w 0)), (1, .ref (gad w 27)), (2, .int x2), (3, .int x3)]) hx hb d_X_cheapestToMeet_84 hl (k := 8) rfl (congrArg (HAdd.hAdd x6) (by decide : Int32.ofInt 1 = 1)) (by decide) rfl (fun ls hl => ?_)
          refine lv_goto (tgt := 9) hx hb d_X_cheapestToMeet_87 (by decide) ?_
          exact ih _ _ _ _ (lp_back h hr) k1 ls _ _ hG (lv_sub hl [5, 6, 7, 8, 2, 1, 0] rfl)
        · replace h := it_f h hc
          refine lv_iload hx hb d_X_cheapestToMeet_69 (lv_at hl 0 rfl) ?_
          refine lv_iload hx hb d_X_cheapestToMeet_71 (lv_at hl 7 rfl) ?_
          refine lv_icmp_ge (tgt := 84) hx hb d_X_cheapestToMeet_73 (by decide) (fun hc => ?_) (fun hc => ?_)
          · replace h := it_t h hc
            refine lv_iinc (v := x6 + 1) (lv' := [(6, .int (x6 + 1)), (8, .int z1), (7, .int t0), (0, .ref (gad w 0)), (1, .ref (gad w 27)), (2, .int x2), (3, .int x3), (4, .int x4), (5, .int x5)]) hx hb d_X_cheapestToMeet_84 hl (k := 8) rfl (congrArg (HAdd.hAdd x6) (by decide : Int32.ofInt 1 = 1)) (by decide) rfl (fun ls hl => ?_)
            refine lv_goto (tgt := 9) hx hb d_X_cheapestToMeet_87 (by decide) ?_
            exact ih _ _ _ _ (lp_back h hr) k1 ls _ _ hG (lv_sub hl [3, 4, 5, 6, 7, 8, 0] rfl)
          · replace h := it_f h hc
            refine lv_iload hx hb d_X_cheapestToMeet_76 (lv_at hl 8 rfl) ?_
            refine lv_istore (lv' := [(4, .int x6), (8, .int z1), (7, .int t0), (0, .ref (gad w 0)), (1, .ref (gad w 27)), (2, .int x2), (3, .int x3), (5, .int x5), (6, .int x6)]) hx hb d_X_cheapestToMeet_78 hl (by decide) rfl (fun ls hl => ?_)
            refine lv_iload hx hb d_X_cheapestToMeet_80 (lv_at hl 1 rfl) ?_
            refine lv_istore (lv' := [(5, .int z1), (4, .int x6), (8, .int z1), (7, .int t0), (0, .ref (gad w 0)), (1, .ref (gad w 27)), (2, .int x2), (3, .int x3), (6, .int x6)]) hx hb d_X_cheapestToMeet_82 hl (by decide) rfl (fun ls hl => ?_)
            refine lv_iinc (v := x6 + 1) (lv' := [(6, .int (x6 + 1)), (5, .int z1), (4, .int x6), (8, .int z1), (7, .int t0), (0, .ref (gad w 0)), (1, .ref (gad w 27)), (2, .int x2), (3, .int x3)]) hx hb d_X_cheapestToMeet_84 hl (k := 8) rfl (congrArg (HAdd.hAdd x6) (by decide : Int32.ofInt 1 = 1)) (by decide) rfl (fun ls hl => ?_)
            refine lv_goto (tgt := 9) hx hb d_X_cheapestToMeet_87 (by decide) ?_
            exact ih _ _ _ _ (lp_back h hr) k1 ls _ _ hG (lv_sub hl [5, 6, 7, 8, 2, 1, 0] rfl)
    have J42 : ∀ (x4 : Int32) (x5 : Int32) (x6 : Int32), X_cheapestToMeet_J42 S x2 x3 x4 x5 x6 = some z → ∀ (ls : Array Slot) (H : Heap) (locs : List Loc), GH w s A S H locs → lv_has ls 9 [(0, .ref (gad w 0)), (1, .ref (gad w 27)), (2, .int x2), (3, .int x3), (4, .int x4), (5, .int x5), (6, .int x6)] → W p l e (rmm 2 46) s m args below meth c H locs 0 0 Q (F0 m 42 ls []) := by
      intro x4 x5 x6 h ls H locs hG hl
      unfold X_cheapestToMeet_J42 at h
      refine lv_iconst (v := 0) hx hb d_X_cheapestToMeet_42 (by decide) ?_
      exact J43 _ _ _ _ h ls _ _ hG (lv_sub hl [0, 1, 2, 3, 4, 5, 6] rfl)
    unfold X_cheapestToMeet_L9 at h
    refine lv_iload hx hb d_X_cheapestToMeet_9 (lv_at hl 6 rfl) ?_
    refine lv_bipush (v := 10) hx hb d_X_cheapestToMeet_11 (by decide) ?_
    refine lv_icmp_ge (tgt := 90) hx hb d_X_cheapestToMeet_13 (by decide) (fun hc => ?_) (fun hc => ?_)
    · replace h := it_t h hc
      exact k1 _ _ _ (lp_exit h hr) ls _ _ hG (lv_sub hl [4] rfl)
    · replace h := it_f h hc
      refine lv_iload_n hx hb d_X_cheapestToMeet_16 rfl (lv_at hl 3 rfl) ?_
      refine lv_iload hx hb d_X_cheapestToMeet_17 (lv_at hl 6 rfl) ?_
      refine lv_ishr hx hb d_X_cheapestToMeet_19 ?_
      refine lv_iconst (v := 1) hx hb d_X_cheapestToMeet_20 (by decide) ?_
      refine lv_iand hx hb d_X_cheapestToMeet_21 ?_
      refine lv_if_ne (tgt := 42) hx hb d_X_cheapestToMeet_22 (by decide) (fun hc => ?_) (fun hc => ?_)
      · replace h := it_f h hc
        exact J42 _ _ _ h ls _ _ hG (lv_sub hl [0, 1, 2, 3, 4, 5, 6] rfl)
      · replace h := it_t h hc
        refine lv_aload_n hx hb d_X_cheapestToMeet_25 rfl (lv_at hl 0 rfl) ?_
        refine g_get C hG (hG.lt (Nat.le_of_ble_eq_true rfl)) (ce0 w _) rfl inC7 0 (Nat.le_of_ble_eq_true rfl) qw199 rfl d_X_cheapestToMeet_26 ?_
        refine lv_iload_n hx hb d_X_cheapestToMeet_29 rfl (lv_at hl 2 rfl) ?_
        refine lv_iload hx hb d_X_cheapestToMeet_30 (lv_at hl 6 rfl) ?_
        obtain ⟨z2, hz2, h⟩ := bnd_some h
        refine g_goi hG (g_runV (As := [.int x2, .int x6]) (rest := []) C hG (c_TW_isAnyBusy l w S x2 x6 hz2 _) (hG.lt (Nat.le_of_ble_eq_true rfl)) (ce1 w _) rfl vw_X_378 rfl rfl ⟨by decide, by decide⟩ rfl hl.1 rfl (Nat.le_of_ble_eq_true rfl) d_X_cheapestToMeet_32 ⟨Nat.zero_le _, Nat.zero_le _⟩) (fun H locs hG => ?_)
        refine lv_if_ne (tgt := 42) hx hb d_X_cheapestToMeet_35 (by decide) (fun hc => ?_) (fun hc => ?_)
        · replace h := it_f h hc
          exact J42 _ _ _ h ls _ _ hG (lv_sub hl [0, 1, 2, 3, 4, 5, 6] rfl)
        · replace h := it_t h hc
          refine lv_iconst (v := 1) hx hb d_X_cheapestToMeet_38 (by decide) ?_
          refine lv_goto (tgt := 43) hx hb d_X_cheapestToMeet_39 (by decide) ?_
          exact J43 _ _ _ _ h ls _ _ hG (lv_sub hl [0, 1, 2, 3, 4, 5, 6] rfl)
set_option maxHeartbeats 4000000 in
set_option maxRecDepth 100000 in
theorem c_X_cheapestToMeet (l : Launch) (w : gw) (S : St) (x2 : Int32) (x3 : Int32)  {z : Int32} (h : (X_cheapestToMeet S x2 x3) = some z) : gMi l w y_X_cheapestToMeet b_X_cheapestToMeet 9 (some .int) (rmm 2 46) [.ref (gad w 0), .ref (gad w 27), .int x2, .int x3] S z S := by
  unfold X_cheapestToMeet at h
  refine g_met (Qc := gQi w z S) (by decide +kernel) (Nat.le_of_ble_eq_true rfl) ?_
  intro p e s m args below meth c A Q ls hQ C hG hl
  have hx := C.1
  have hb := C.2.1
  have hl : lv_has ls 9 [(0, .ref (gad w 0)), (1, .ref (gad w 27)), (2, .int x2), (3, .int x3)] := hl
  have J90 : ∀ (x4 : Int32), X_cheapestToMeet_J90 S x4 = some z → ∀ (ls : Array Slot) (H : Heap) (locs : List Loc), GH w s A S H locs → lv_has ls 9 [(4, .int x4)] → W p l e (rmm 2 46) s m args below meth c H locs 0 0 Q (F0 m 90 ls []) := by
    intro x4 h ls H locs hG hl
    unfold X_cheapestToMeet_J90 at h
    refine lv_iload hx hb d_X_cheapestToMeet_90 (lv_at hl 0 rfl) ?_
    exact g_iret C hG (Option.some.inj h) rfl hQ d_X_cheapestToMeet_92
  refine lv_iconst (v := (-1)) hx hb d_X_cheapestToMeet_0 (by decide) ?_
  refine lv_istore (lv' := [(4, .int (-1)), (0, .ref (gad w 0)), (1, .ref (gad w 27)), (2, .int x2), (3, .int x3)]) hx hb d_X_cheapestToMeet_1 hl (by decide) rfl (fun ls hl => ?_)
  refine lv_iconst (v := 0) hx hb d_X_cheapestToMeet_3 (by decide) ?_
  refine lv_istore (lv' := [(5, .int 0), (4, .int (-1)), (0, .ref (gad w 0)), (1, .ref (gad w 27)), (2, .int x2), (3, .int x3)]) hx hb d_X_cheapestToMeet_4 hl (by decide) rfl (fun ls hl => ?_)
  refine lv_iconst (v := 0) hx hb d_X_cheapestToMeet_6 (by decide) ?_
  refine lv_istore (lv' := [(6, .int 0), (5, .int 0), (4, .int (-1)), (0, .ref (gad w 0)), (1, .ref (gad w 27)), (2, .int x2), (3, .int x3)]) hx hb d_X_cheapestToMeet_7 hl (by decide) rfl (fun ls hl => ?_)
  obtain ⟨z3, hz3, h⟩ := bnd_some h
  refine L_X_cheapestToMeet_9 C _ _ _ FZ _ _ _ _ hz3 ?_ ls _ _ hG (lv_sub hl [3, 4, 5, 6, 2, 1, 0] rfl)
  intro y4 y5 y6 e9 ls H locs hG hl
  subst e9
  exact J90 _ h ls _ _ hG (lv_sub hl [0] rfl)
theorem d_X_fraction_0 : decode b_X_fraction 0 = .ok (.iload_n 0, 1) := by decide +kernel
theorem d_X_fraction_1 : decode b_X_fraction 1 = .ok (.iload_n 1, 1) := by decide +kernel
theorem d_X_fraction_2 : decode b_X_fraction 2 = .ok (.invokestatic 381, 3) := by decide +kernel
theorem d_X_fraction_5 : decode b_X_fraction 5 = .ok (.istore_n 3, 1) := by decide +kernel
theorem d_X_fraction_6 : decode b_X_fraction 6 = .ok (.iload_n 2, 1) := by decide +kernel
theorem d_X_fraction_7 : decode b_X_fraction 7 = .ok (.ifCond .ne 10, 3) := by decide +kernel
theorem d_X_fraction_10 : decode b_X_fraction 10 = .ok (.iload_n 0, 1) := by decide +kernel
theorem d_X_fraction_11 : decode b_X_fraction 11 = .ok (.iload_n 3, 1) := by decide +kernel
theorem d_X_fraction_12 : decode b_X_fraction 12 = .ok (.idiv, 1) := by decide +kernel
theorem d_X_fraction_13 : decode b_X_fraction 13 = .ok (.i2l, 1) := by decide +kernel
theorem d_X_fraction_14 : decode b_X_fraction 14 = .ok (.goto 7, 3) := by decide +kernel
theorem d_X_fraction_17 : decode b_X_fraction 17 = .ok (.iload_n 1, 1) := by decide +kernel
theorem d_X_fraction_18 : decode b_X_fraction 18 = .ok (.iload_n 3, 1) := by decide +kernel
theorem d_X_fraction_19 : decode b_X_fraction 19 = .ok (.idiv, 1) := by decide +kernel
theorem d_X_fraction_20 : decode b_X_fraction 20 = .ok (.i2l, 1) := by decide +kernel
theorem d_X_fraction_21 : decode b_X_fraction 21 = .ok (.lreturn, 1) := by decide +kernel
noncomputable def X_fraction (x0 : Int32) (x1 : Int32) (x2 : Int32) : Option (Int64) :=
  bnd (X_greatestDivisor x0 x1) fun z1 =>
    if x2 = 0 then
      chk (nz32 z1) <|
      some ((x0 / z1).toInt64)
    else
      chk (nz32 z1) <|
      some ((x1 / z1).toInt64)
set_option maxHeartbeats 4000000 in
set_option maxRecDepth 100000 in
theorem c_X_fraction (l : Launch) (w : gw) (S : St) (x0 : Int32) (x1 : Int32) (x2 : Int32)  {z : Int64} (h : (X_fraction x0 x1 x2) = some z) : gMl l w y_X_fraction b_X_fraction 4 (some .long) (rmm 2 46) [.int x0, .int x1, .int x2] S z S := by
  unfold X_fraction at h
  refine g_met (Qc := gQl w z S) (by decide +kernel) (Nat.le_of_ble_eq_true rfl) ?_
  intro p e s m args below meth c A Q ls hQ C hG hl
  have hx := C.1
  have hb := C.2.1
  have hl : lv_has ls 4 [(0, .int x0), (1, .int x1), (2, .int x2)] := hl
  refine lv_iload_n hx hb d_X_fraction_0 rfl (lv_at hl 0 rfl) ?_
  refine lv_iload_n hx hb d_X_fraction_1 rfl (lv_at hl 1 rfl) ?_
  obtain ⟨z1, hz1, h⟩ := bnd_some h
  refine g_goi hG (g_runS (As := [.int x0, .int x1]) (rest := []) C hG (c_X_greatestDivisor l w S x0 x1 hz1 _) sw_X_381 rfl rfl ⟨by decide, by decide⟩ rfl hl.1 rfl (Nat.le_of_ble_eq_true rfl) d_X_fraction_2 ⟨Nat.zero_le _, Nat.zero_le _⟩) (fun H locs hG => ?_)
  refine lv_istore_n (lv' := [(3, .int z1), (0, .int x0), (1, .int x1), (2, .int x2)]) hx hb d_X_fraction_5 rfl hl (by decide) rfl (fun ls hl => ?_)
  refine lv_iload_n hx hb d_X_fraction_6 rfl (lv_at hl 3 rfl) ?_
  refine lv_if_ne (tgt := 17) hx hb d_X_fraction_7 (by decide) (fun hc => ?_) (fun hc => ?_)
  · replace h := it_f h hc
    refine lv_iload_n hx hb d_X_fraction_17 rfl (lv_at hl 2 rfl) ?_
    refine lv_iload_n hx hb d_X_fraction_18 rfl (lv_at hl 0 rfl) ?_
    obtain ⟨hi1, h⟩ := chk_some h
    refine lv_idiv hx hb d_X_fraction_19 (nz32_in hi1) ?_
    refine lv_i2l (v := (x1 / z1).toInt64) hx hb d_X_fraction_20 rfl ?_
    exact g_lret C hG (Option.some.inj h) rfl hQ d_X_fraction_21
  · replace h := it_t h hc
    refine lv_iload_n hx hb d_X_fraction_10 rfl (lv_at hl 1 rfl) ?_
    refine lv_iload_n hx hb d_X_fraction_11 rfl (lv_at hl 0 rfl) ?_
    obtain ⟨hi2, h⟩ := chk_some h
    refine lv_idiv hx hb d_X_fraction_12 (nz32_in hi2) ?_
    refine lv_i2l (v := (x0 / z1).toInt64) hx hb d_X_fraction_13 rfl ?_
    refine lv_goto (tgt := 21) hx hb d_X_fraction_14 (by decide) ?_
    exact g_lret C hG (Option.some.inj h) rfl hQ d_X_fraction_21
theorem d_BT_parse_0 : decode b_BT_parse 0 = .ok (.aload_n 0, 1) := by decide +kernel
theorem d_BT_parse_1 : decode b_BT_parse 1 = .ok (.iconst (-1), 1) := by decide +kernel
theorem d_BT_parse_2 : decode b_BT_parse 2 = .ok (.putfield 19, 3) := by decide +kernel
theorem d_BT_parse_5 : decode b_BT_parse 5 = .ok (.iconst 0, 1) := by decide +kernel
theorem d_BT_parse_6 : decode b_BT_parse 6 = .ok (.istore_n 1, 1) := by decide +kernel
theorem d_BT_parse_7 : decode b_BT_parse 7 = .ok (.iload_n 1, 1) := by decide +kernel
theorem d_BT_parse_8 : decode b_BT_parse 8 = .ok (.aload_n 0, 1) := by decide +kernel
theorem d_BT_parse_9 : decode b_BT_parse 9 = .ok (.getfield 15, 3) := by decide +kernel
theorem d_BT_parse_12 : decode b_BT_parse 12 = .ok (.if_icmp .ge 30, 3) := by decide +kernel
theorem d_BT_parse_15 : decode b_BT_parse 15 = .ok (.aload_n 0, 1) := by decide +kernel
theorem d_BT_parse_16 : decode b_BT_parse 16 = .ok (.getfield 19, 3) := by decide +kernel
theorem d_BT_parse_19 : decode b_BT_parse 19 = .ok (.iconst (-1), 1) := by decide +kernel
theorem d_BT_parse_20 : decode b_BT_parse 20 = .ok (.if_icmp .ne 22, 3) := by decide +kernel
theorem d_BT_parse_23 : decode b_BT_parse 23 = .ok (.aload_n 0, 1) := by decide +kernel
theorem d_BT_parse_24 : decode b_BT_parse 24 = .ok (.iload_n 1, 1) := by decide +kernel
theorem d_BT_parse_25 : decode b_BT_parse 25 = .ok (.invokevirtual 25, 3) := by decide +kernel
theorem d_BT_parse_28 : decode b_BT_parse 28 = .ok (.ifCond .ne 8, 3) := by decide +kernel
theorem d_BT_parse_31 : decode b_BT_parse 31 = .ok (.aload_n 0, 1) := by decide +kernel
theorem d_BT_parse_32 : decode b_BT_parse 32 = .ok (.iload_n 1, 1) := by decide +kernel
theorem d_BT_parse_33 : decode b_BT_parse 33 = .ok (.putfield 19, 3) := by decide +kernel
theorem d_BT_parse_36 : decode b_BT_parse 36 = .ok (.iinc 1 1, 3) := by decide +kernel
theorem d_BT_parse_39 : decode b_BT_parse 39 = .ok (.goto (-32), 3) := by decide +kernel
theorem d_BT_parse_42 : decode b_BT_parse 42 = .ok (.aload_n 0, 1) := by decide +kernel
theorem d_BT_parse_43 : decode b_BT_parse 43 = .ok (.getfield 15, 3) := by decide +kernel
theorem d_BT_parse_46 : decode b_BT_parse 46 = .ok (.ifCond .eq 13, 3) := by decide +kernel
theorem d_BT_parse_49 : decode b_BT_parse 49 = .ok (.aload_n 0, 1) := by decide +kernel
theorem d_BT_parse_50 : decode b_BT_parse 50 = .ok (.getfield 15, 3) := by decide +kernel
theorem d_BT_parse_53 : decode b_BT_parse 53 = .ok (.iconst 5, 1) := by decide +kernel
theorem d_BT_parse_54 : decode b_BT_parse 54 = .ok (.irem, 1) := by decide +kernel
theorem d_BT_parse_55 : decode b_BT_parse 55 = .ok (.iconst 4, 1) := by decide +kernel
theorem d_BT_parse_56 : decode b_BT_parse 56 = .ok (.if_icmp .ne 7, 3) := by decide +kernel
theorem d_BT_parse_59 : decode b_BT_parse 59 = .ok (.iconst 1, 1) := by decide +kernel
theorem d_BT_parse_60 : decode b_BT_parse 60 = .ok (.goto 4, 3) := by decide +kernel
theorem d_BT_parse_63 : decode b_BT_parse 63 = .ok (.iconst 0, 1) := by decide +kernel
theorem d_BT_parse_64 : decode b_BT_parse 64 = .ok (.istore_n 1, 1) := by decide +kernel
theorem d_BT_parse_65 : decode b_BT_parse 65 = .ok (.aload_n 0, 1) := by decide +kernel
theorem d_BT_parse_66 : decode b_BT_parse 66 = .ok (.getfield 19, 3) := by decide +kernel
theorem d_BT_parse_69 : decode b_BT_parse 69 = .ok (.iconst (-1), 1) := by decide +kernel
theorem d_BT_parse_70 : decode b_BT_parse 70 = .ok (.if_icmp .ne 15, 3) := by decide +kernel
theorem d_BT_parse_73 : decode b_BT_parse 73 = .ok (.iload_n 1, 1) := by decide +kernel
theorem d_BT_parse_74 : decode b_BT_parse 74 = .ok (.ifCond .ne 11, 3) := by decide +kernel
theorem d_BT_parse_77 : decode b_BT_parse 77 = .ok (.aload_n 0, 1) := by decide +kernel
theorem d_BT_parse_78 : decode b_BT_parse 78 = .ok (.aload_n 0, 1) := by decide +kernel
theorem d_BT_parse_79 : decode b_BT_parse 79 = .ok (.getfield 15, 3) := by decide +kernel
theorem d_BT_parse_82 : decode b_BT_parse 82 = .ok (.putfield 19, 3) := by decide +kernel
theorem d_BT_parse_85 : decode b_BT_parse 85 = .ok (.aload_n 0, 1) := by decide +kernel
theorem d_BT_parse_86 : decode b_BT_parse 86 = .ok (.aload_n 0, 1) := by decide +kernel
theorem d_BT_parse_87 : decode b_BT_parse 87 = .ok (.getfield 19, 3) := by decide +kernel
theorem d_BT_parse_90 : decode b_BT_parse 90 = .ok (.iconst (-1), 1) := by decide +kernel
theorem d_BT_parse_91 : decode b_BT_parse 91 = .ok (.if_icmp .ne 14, 3) := by decide +kernel
theorem d_BT_parse_94 : decode b_BT_parse 94 = .ok (.aload_n 0, 1) := by decide +kernel
theorem d_BT_parse_95 : decode b_BT_parse 95 = .ok (.getfield 15, 3) := by decide +kernel
theorem d_BT_parse_98 : decode b_BT_parse 98 = .ok (.iconst 1, 1) := by decide +kernel
theorem d_BT_parse_99 : decode b_BT_parse 99 = .ok (.iadd, 1) := by decide +kernel
theorem d_BT_parse_100 : decode b_BT_parse 100 = .ok (.iconst 5, 1) := by decide +kernel
theorem d_BT_parse_101 : decode b_BT_parse 101 = .ok (.idiv, 1) := by decide +kernel
theorem d_BT_parse_102 : decode b_BT_parse 102 = .ok (.goto 4, 3) := by decide +kernel
theorem d_BT_parse_105 : decode b_BT_parse 105 = .ok (.iconst 0, 1) := by decide +kernel
theorem d_BT_parse_106 : decode b_BT_parse 106 = .ok (.putfield 22, 3) := by decide +kernel
theorem d_BT_parse_109 : decode b_BT_parse 109 = .ok (.return_, 1) := by decide +kernel
noncomputable def BT_parse_L7 (S : St) (x1 : Int32) : Option ((Int32 × St) × Nat) :=
  if (S 25 1) ≤ x1 then
      some ((x1, S), 1)
    else
      if (S 25 2) = (-1) then
        bnd (BT_fits S x1) fun z1 =>
        if z1 = 0 then
          some ((x1 + 1, up S 25 2 x1), 0)
        else
          some ((x1 + 1, S), 0)
      else
        some ((x1, S), 1)
noncomputable def BT_parse_J85 (S : St) : Option (St) :=
  if (S 25 2) = (-1) then
      some (up S 25 3 (((S 25 1) + 1) / 5))
    else
      some (up S 25 3 0)
noncomputable def BT_parse_J64 (S : St) (t0 : Int32) : Option (St) :=
  if (S 25 2) = (-1) then
      if t0 = 0 then
        BT_parse_J85 (up S 25 2 (S 25 1))
      else
        BT_parse_J85 S
    else
      BT_parse_J85 S
noncomputable def BT_parse_J59 (S : St) : Option (St) :=
  BT_parse_J64 S 1
noncomputable def BT_parse_J42 (S : St) : Option (St) :=
  if (S 25 1) = 0 then
      BT_parse_J59 S
    else
      if ((S 25 1) - (S 25 1) / 5 * 5) = 4 then
        BT_parse_J59 S
      else
        BT_parse_J64 S 0
noncomputable def BT_parse (S : St) : Option (St) :=
  bnd (lp (σ := Int32 × St) (fun q => BT_parse_L7 q.2 q.1) FZ (0, up S 25 2 (-1))) fun z2 =>
    BT_parse_J42 z2.1.2
set_option maxHeartbeats 4000000 in
set_option maxRecDepth 100000 in
theorem L_BT_parse_7 (C : gCx p s m args meth c y_BT_parse.cls b_BT_parse 2 none) : ∀ (n : Nat) (x1 : Int32) (S : St) (r : (Int32 × St) × Nat), lp (σ := Int32 × St) (fun q => BT_parse_L7 q.2 q.1) n (x1, S) = some r → (∀ (y1 : Int32) (Sy : St), r = ((y1, Sy), 1) → ∀ (ls : Array Slot) (H : Heap) (locs : List Loc), GH w s A Sy H locs → lv_has ls 2 [(0, .ref (gad w 25))] → W p l e (rmm 2 45) s m args below meth c H locs 0 0 Q (F0 m 42 ls [])) → ∀ (ls : Array Slot) (H : Heap) (locs : List Loc), GH w s A S H locs → lv_has ls 2 [(0, .ref (gad w 25)), (1, .int x1)] → W p l e (rmm 2 45) s m args below meth c H locs 0 0 Q (F0 m 7 ls []) := by
  have hx := C.1
  have hb := C.2.1
  intro n
  induction n with
  | zero => intro x1 S r h; cases h
  | succ n ih =>
    intro x1 S r h k1 ls H locs hG hl
    obtain ⟨z, h, hr⟩ := lp_succ h
    have h : BT_parse_L7 S x1 = some z := h
    unfold BT_parse_L7 at h
    refine lv_iload_n hx hb d_BT_parse_7 rfl (lv_at hl 1 rfl) ?_
    refine lv_aload_n hx hb d_BT_parse_8 rfl (lv_at hl 0 rfl) ?_
    refine g_get C hG (hG.lt (Nat.le_of_ble_eq_true rfl)) (ce25 w _) rfl inC0 1 (Nat.le_of_ble_eq_true rfl) qw77 rfl d_BT_parse_9 ?_
    refine lv_icmp_ge (tgt := 42) hx hb d_BT_parse_12 (by decide) (fun hc => ?_) (fun hc => ?_)
    · replace h := it_t h hc
      exact k1 _ _ (lp_exit h hr) ls _ _ hG (lv_sub hl [0] rfl)
    · replace h := it_f h hc
      refine lv_aload_n hx hb d_BT_parse_15 rfl (lv_at hl 0 rfl) ?_
      refine g_get C hG (hG.lt (Nat.le_of_ble_eq_true rfl)) (ce25 w _) rfl inC0 2 (Nat.le_of_ble_eq_true rfl) qw79 rfl d_BT_parse_16 ?_
      refine lv_iconst (v := (-1)) hx hb d_BT_parse_19 (by decide) ?_
      refine lv_icmp_ne (tgt := 42) hx hb d_BT_parse_20 (by decide) (fun hc => ?_) (fun hc => ?_)
      · replace h := it_f h hc
        exact k1 _ _ (lp_exit h hr) ls _ _ hG (lv_sub hl [0] rfl)
      · replace h := it_t h hc
        refine lv_aload_n hx hb d_BT_parse_23 rfl (lv_at hl 0 rfl) ?_
        refine lv_iload_n hx hb d_BT_parse_24 rfl (lv_at hl 1 rfl) ?_
        obtain ⟨z1, hz1, h⟩ := bnd_some h
        refine g_goi hG (g_runV (As := [.int x1]) (rest := []) C hG (c_BT_fits l w S x1 hz1 _) (hG.lt (Nat.le_of_ble_eq_true rfl)) (ce25 w _) rfl vw_BT_25 rfl rfl ⟨by decide, by decide⟩ rfl hl.1 rfl (Nat.le_of_ble_eq_true rfl) d_BT_parse_25 ⟨Nat.zero_le _, Nat.zero_le _⟩) (fun H locs hG => ?_)
        refine lv_if_ne (tgt := 36) hx hb d_BT_parse_28 (by decide) (fun hc => ?_) (fun hc => ?_)
        · replace h := it_f h hc
          refine lv_iinc (v := x1 + 1) (lv' := [(1, .int (x1 + 1)), (0, .ref (gad w 25))]) hx hb d_BT_parse_36 hl (k := 1) rfl (congrArg (HAdd.hAdd x1) (by decide : Int32.ofInt 1 = 1)) (by decide) rfl (fun ls hl => ?_)
          refine lv_goto (tgt := 7) hx hb d_BT_parse_39 (by decide) ?_
          exact ih _ _ _ (lp_back h hr) k1 ls _ _ hG (lv_sub hl [1, 0] rfl)
        · replace h := it_t h hc
          refine lv_aload_n hx hb d_BT_parse_31 rfl (lv_at hl 0 rfl) ?_
          refine lv_iload_n hx hb d_BT_parse_32 rfl (lv_at hl 1 rfl) ?_
          refine g_put (x := x1) C hG (hG.lt (Nat.le_of_ble_eq_true rfl)) (ce25 w _) rfl inC0 okC0 nmC0 2 (Nat.le_of_ble_eq_true rfl) qw79 rfl rfl rfl (Nat.le_of_ble_eq_true rfl) rfl d_BT_parse_33 (fun H locs hG => ?_)
          refine lv_iinc (v := x1 + 1) (lv' := [(1, .int (x1 + 1)), (0, .ref (gad w 25))]) hx hb d_BT_parse_36 hl (k := 1) rfl (congrArg (HAdd.hAdd x1) (by decide : Int32.ofInt 1 = 1)) (by decide) rfl (fun ls hl => ?_)
          refine lv_goto (tgt := 7) hx hb d_BT_parse_39 (by decide) ?_
          exact ih _ _ _ (lp_back h hr) k1 ls _ _ hG (lv_sub hl [1, 0] rfl)
set_option maxHeartbeats 4000000 in
set_option maxRecDepth 100000 in
theorem c_BT_parse (l : Launch) (w : gw) (S : St)   {z : St} (h : (BT_parse S) = some z) : gMv l w y_BT_parse b_BT_parse 2 none (rmm 2 45) [.ref (gad w 25)] S z := by
  unfold BT_parse at h
  refine g_met (Qc := gQv w z) (by decide +kernel) (Nat.le_of_ble_eq_true rfl) ?_
  intro p e s m args below meth c A Q ls hQ C hG hl
  have hx := C.1
  have hb := C.2.1
  have hl : lv_has ls 2 [(0, .ref (gad w 25))] := hl
  have J85 : ∀ (S : St), BT_parse_J85 S = some z → ∀ (ls : Array Slot) (H : Heap) (locs : List Loc), GH w s A S H locs → lv_has ls 2 [(0, .ref (gad w 25))] → W p l e (rmm 2 45) s m args below meth c H locs 0 0 Q (F0 m 85 ls []) := by
    intro S h ls H locs hG hl
    unfold BT_parse_J85 at h
    refine lv_aload_n hx hb d_BT_parse_85 rfl (lv_at hl 0 rfl) ?_
    refine lv_aload_n hx hb d_BT_parse_86 rfl (lv_at hl 0 rfl) ?_
    refine g_get C hG (hG.lt (Nat.le_of_ble_eq_true rfl)) (ce25 w _) rfl inC0 2 (Nat.le_of_ble_eq_true rfl) qw79 rfl d_BT_parse_87 ?_
    refine lv_iconst (v := (-1)) hx hb d_BT_parse_90 (by decide) ?_
    refine lv_icmp_ne (tgt := 105) hx hb d_BT_parse_91 (by decide) (fun hc => ?_) (fun hc => ?_)
    · replace h := it_f h hc
      refine lv_iconst (v := 0) hx hb d_BT_parse_105 (by decide) ?_
      refine g_put (x := 0) C hG (hG.lt (Nat.le_of_ble_eq_true rfl)) (ce25 w _) rfl inC0 okC0 nmC0 3 (Nat.le_of_ble_eq_true rfl) qw81 rfl rfl rfl (Nat.le_of_ble_eq_true rfl) rfl d_BT_parse_106 (fun H locs hG => ?_)
      exact g_vret C hG (Option.some.inj h) hQ d_BT_parse_109
    · replace h := it_t h hc
      refine lv_aload_n hx hb d_BT_parse_94 rfl (lv_at hl 0 rfl) ?_
      refine g_get C hG (hG.lt (Nat.le_of_ble_eq_true rfl)) (ce25 w _) rfl inC0 1 (Nat.le_of_ble_eq_true rfl) qw77 rfl d_BT_parse_95 ?_
      refine lv_iconst (v := 1) hx hb d_BT_parse_98 (by decide) ?_
      refine lv_iadd hx hb d_BT_parse_99 ?_
      refine lv_iconst (v := 5) hx hb d_BT_parse_100 (by decide) ?_
      refine lv_idiv hx hb d_BT_parse_101 (by decide) ?_
      refine lv_goto (tgt := 106) hx hb d_BT_parse_102 (by decide) ?_
      refine g_put (x := ((S 25 1) + 1) / 5) C hG (hG.lt (Nat.le_of_ble_eq_true rfl)) (ce25 w _) rfl inC0 okC0 nmC0 3 (Nat.le_of_ble_eq_true rfl) qw81 rfl rfl rfl (Nat.le_of_ble_eq_true rfl) rfl d_BT_parse_106 (fun H locs hG => ?_)
      exact g_vret C hG (Option.some.inj h) hQ d_BT_parse_109
  have J64 : ∀ (S : St) (t0 : Int32), BT_parse_J64 S t0 = some z → ∀ (ls : Array Slot) (H : Heap) (locs : List Loc), GH w s A S H locs → lv_has ls 2 [(0, .ref (gad w 25))] → W p l e (rmm 2 45) s m args below meth c H locs 0 0 Q (F0 m 64 ls [.int t0]) := by
    intro S t0 h ls H locs hG hl
    unfold BT_parse_J64 at h
    refine lv_istore_n (lv' := [(1, .int t0), (0, .ref (gad w 25))]) hx hb d_BT_parse_64 rfl hl (by decide) rfl (fun ls hl => ?_)
    refine lv_aload_n hx hb d_BT_parse_65 rfl (lv_at hl 1 rfl) ?_
    refine g_get C hG (hG.lt (Nat.le_of_ble_eq_true rfl)) (ce25 w _) rfl inC0 2 (Nat.le_of_ble_eq_true rfl) qw79 rfl d_BT_parse_66 ?_
    refine lv_iconst (v := (-1)) hx hb d_BT_parse_69 (by decide) ?_
    refine lv_icmp_ne (tgt := 85) hx hb d_BT_parse_70 (by decide) (fun hc => ?_) (fun hc => ?_)
    · replace h := it_f h hc
      exact J85 _ h ls _ _ hG (lv_sub hl [1] rfl)
    · replace h := it_t h hc
      refine lv_iload_n hx hb d_BT_parse_73 rfl (lv_at hl 0 rfl) ?_
      refine lv_if_ne (tgt := 85) hx hb d_BT_parse_74 (by decide) (fun hc => ?_) (fun hc => ?_)
      · replace h := it_f h hc
        exact J85 _ h ls _ _ hG (lv_sub hl [1] rfl)
      · replace h := it_t h hc
        refine lv_aload_n hx hb d_BT_parse_77 rfl (lv_at hl 1 rfl) ?_
        refine lv_aload_n hx hb d_BT_parse_78 rfl (lv_at hl 1 rfl) ?_
        refine g_get C hG (hG.lt (Nat.le_of_ble_eq_true rfl)) (ce25 w _) rfl inC0 1 (Nat.le_of_ble_eq_true rfl) qw77 rfl d_BT_parse_79 ?_
        refine g_put (x := S 25 1) C hG (hG.lt (Nat.le_of_ble_eq_true rfl)) (ce25 w _) rfl inC0 okC0 nmC0 2 (Nat.le_of_ble_eq_true rfl) qw79 rfl rfl rfl (Nat.le_of_ble_eq_true rfl) rfl d_BT_parse_82 (fun H locs hG => ?_)
        exact J85 _ h ls _ _ hG (lv_sub hl [1] rfl)
  have J59 : ∀ (S : St), BT_parse_J59 S = some z → ∀ (ls : Array Slot) (H : Heap) (locs : List Loc), GH w s A S H locs → lv_has ls 2 [(0, .ref (gad w 25))] → W p l e (rmm 2 45) s m args below meth c H locs 0 0 Q (F0 m 59 ls []) := by
    intro S h ls H locs hG hl
    unfold BT_parse_J59 at h
    refine lv_iconst (v := 1) hx hb d_BT_parse_59 (by decide) ?_
    refine lv_goto (tgt := 64) hx hb d_BT_parse_60 (by decide) ?_
    exact J64 _ _ h ls _ _ hG (lv_sub hl [0] rfl)
  have J42 : ∀ (S : St), BT_parse_J42 S = some z → ∀ (ls : Array Slot) (H : Heap) (locs : List Loc), GH w s A S H locs → lv_has ls 2 [(0, .ref (gad w 25))] → W p l e (rmm 2 45) s m args below meth c H locs 0 0 Q (F0 m 42 ls []) := by
    intro S h ls H locs hG hl
    unfold BT_parse_J42 at h
    refine lv_aload_n hx hb d_BT_parse_42 rfl (lv_at hl 0 rfl) ?_
    refine g_get C hG (hG.lt (Nat.le_of_ble_eq_true rfl)) (ce25 w _) rfl inC0 1 (Nat.le_of_ble_eq_true rfl) qw77 rfl d_BT_parse_43 ?_
    refine lv_if_eq (tgt := 59) hx hb d_BT_parse_46 (by decide) (fun hc => ?_) (fun hc => ?_)
    · replace h := it_t h hc
      exact J59 _ h ls _ _ hG (lv_sub hl [0] rfl)
    · replace h := it_f h hc
      refine lv_aload_n hx hb d_BT_parse_49 rfl (lv_at hl 0 rfl) ?_
      refine g_get C hG (hG.lt (Nat.le_of_ble_eq_true rfl)) (ce25 w _) rfl inC0 1 (Nat.le_of_ble_eq_true rfl) qw77 rfl d_BT_parse_50 ?_
      refine lv_iconst (v := 5) hx hb d_BT_parse_53 (by decide) ?_
      refine lv_irem hx hb d_BT_parse_54 (by decide) ?_
      refine lv_iconst (v := 4) hx hb d_BT_parse_55 (by decide) ?_
      refine lv_icmp_ne (tgt := 63) hx hb d_BT_parse_56 (by decide) (fun hc => ?_) (fun hc => ?_)
      · replace h := it_f h hc
        refine lv_iconst (v := 0) hx hb d_BT_parse_63 (by decide) ?_
        exact J64 _ _ h ls _ _ hG (lv_sub hl [0] rfl)
      · replace h := it_t h hc
        exact J59 _ h ls _ _ hG (lv_sub hl [0] rfl)
  refine lv_aload_n hx hb d_BT_parse_0 rfl (lv_at hl 0 rfl) ?_
  refine lv_iconst (v := (-1)) hx hb d_BT_parse_1 (by decide) ?_
  refine g_put (x := (-1)) C hG (hG.lt (Nat.le_of_ble_eq_true rfl)) (ce25 w _) rfl inC0 okC0 nmC0 2 (Nat.le_of_ble_eq_true rfl) qw79 rfl rfl rfl (Nat.le_of_ble_eq_true rfl) rfl d_BT_parse_2 (fun H locs hG => ?_)
  refine lv_iconst (v := 0) hx hb d_BT_parse_5 (by decide) ?_
  refine lv_istore_n (lv' := [(1, .int 0), (0, .ref (gad w 25))]) hx hb d_BT_parse_6 rfl hl (by decide) rfl (fun ls hl => ?_)
  obtain ⟨z2, hz2, h⟩ := bnd_some h
  refine L_BT_parse_7 C FZ _ _ _ hz2 ?_ ls _ _ hG (lv_sub hl [1, 0] rfl)
  intro y1 Sy e9 ls H locs hG hl
  subst e9
  exact J42 _ h ls _ _ hG (lv_sub hl [0] rfl)
theorem d_CL_valueAll_0 : decode b_CL_valueAll 0 = .ok (.iconst 0, 1) := by decide +kernel
theorem d_CL_valueAll_1 : decode b_CL_valueAll 1 = .ok (.istore_n 2, 1) := by decide +kernel
theorem d_CL_valueAll_2 : decode b_CL_valueAll 2 = .ok (.iload_n 2, 1) := by decide +kernel
theorem d_CL_valueAll_3 : decode b_CL_valueAll 3 = .ok (.bipush 31, 2) := by decide +kernel
theorem d_CL_valueAll_5 : decode b_CL_valueAll 5 = .ok (.if_icmp .gt 56, 3) := by decide +kernel
theorem d_CL_valueAll_8 : decode b_CL_valueAll 8 = .ok (.iconst 0, 1) := by decide +kernel
theorem d_CL_valueAll_9 : decode b_CL_valueAll 9 = .ok (.istore_n 3, 1) := by decide +kernel
theorem d_CL_valueAll_10 : decode b_CL_valueAll 10 = .ok (.iconst 0, 1) := by decide +kernel
theorem d_CL_valueAll_11 : decode b_CL_valueAll 11 = .ok (.istore 4, 2) := by decide +kernel
theorem d_CL_valueAll_13 : decode b_CL_valueAll 13 = .ok (.iload 4, 2) := by decide +kernel
theorem d_CL_valueAll_15 : decode b_CL_valueAll 15 = .ok (.bipush 10, 2) := by decide +kernel
theorem d_CL_valueAll_17 : decode b_CL_valueAll 17 = .ok (.if_icmp .ge 31, 3) := by decide +kernel
theorem d_CL_valueAll_20 : decode b_CL_valueAll 20 = .ok (.iload_n 3, 1) := by decide +kernel
theorem d_CL_valueAll_21 : decode b_CL_valueAll 21 = .ok (.iconst 0, 1) := by decide +kernel
theorem d_CL_valueAll_22 : decode b_CL_valueAll 22 = .ok (.aload_n 1, 1) := by decide +kernel
theorem d_CL_valueAll_23 : decode b_CL_valueAll 23 = .ok (.iload_n 2, 1) := by decide +kernel
theorem d_CL_valueAll_24 : decode b_CL_valueAll 24 = .ok (.iload 4, 2) := by decide +kernel
theorem d_CL_valueAll_26 : decode b_CL_valueAll 26 = .ok (.invokestatic 19, 3) := by decide +kernel
theorem d_CL_valueAll_29 : decode b_CL_valueAll 29 = .ok (.aload_n 1, 1) := by decide +kernel
theorem d_CL_valueAll_30 : decode b_CL_valueAll 30 = .ok (.getfield 23, 3) := by decide +kernel
theorem d_CL_valueAll_33 : decode b_CL_valueAll 33 = .ok (.iload 4, 2) := by decide +kernel
theorem d_CL_valueAll_35 : decode b_CL_valueAll 35 = .ok (.iaload, 1) := by decide +kernel
theorem d_CL_valueAll_36 : decode b_CL_valueAll 36 = .ok (.isub, 1) := by decide +kernel
theorem d_CL_valueAll_37 : decode b_CL_valueAll 37 = .ok (.invokestatic 28, 3) := by decide +kernel
theorem d_CL_valueAll_40 : decode b_CL_valueAll 40 = .ok (.iadd, 1) := by decide +kernel
theorem d_CL_valueAll_41 : decode b_CL_valueAll 41 = .ok (.istore_n 3, 1) := by decide +kernel
theorem d_CL_valueAll_42 : decode b_CL_valueAll 42 = .ok (.iinc 4 1, 3) := by decide +kernel
theorem d_CL_valueAll_45 : decode b_CL_valueAll 45 = .ok (.goto (-32), 3) := by decide +kernel
theorem d_CL_valueAll_48 : decode b_CL_valueAll 48 = .ok (.aload_n 0, 1) := by decide +kernel
theorem d_CL_valueAll_49 : decode b_CL_valueAll 49 = .ok (.getfield 9, 3) := by decide +kernel
theorem d_CL_valueAll_52 : decode b_CL_valueAll 52 = .ok (.iload_n 2, 1) := by decide +kernel
theorem d_CL_valueAll_53 : decode b_CL_valueAll 53 = .ok (.iload_n 3, 1) := by decide +kernel
theorem d_CL_valueAll_54 : decode b_CL_valueAll 54 = .ok (.iastore, 1) := by decide +kernel
theorem d_CL_valueAll_55 : decode b_CL_valueAll 55 = .ok (.iinc 2 1, 3) := by decide +kernel
theorem d_CL_valueAll_58 : decode b_CL_valueAll 58 = .ok (.goto (-56), 3) := by decide +kernel
theorem d_CL_valueAll_61 : decode b_CL_valueAll 61 = .ok (.return_, 1) := by decide +kernel
noncomputable def CL_valueAll_L13 (S : St) (x2 : Int32) (x3 : Int32) (x4 : Int32) : Option ((Int32 × Int32) × Nat) :=
  if 10 ≤ x4 then
      some ((x3, x4), 1)
    else
      bnd (CL_greatestValue S x2 x4) fun z1 =>
      chk (inb x4 10) <|
      some ((x3 + (mx 0 (z1 - (S 22 (ix x4)))), x4 + 1), 0)
noncomputable def CL_valueAll_J48 (S : St) (x2 : Int32) (x3 : Int32) : Option ((Int32 × St) × Nat) :=
  chk (inb x2 32) <|
    some ((x2 + 1, up S 44 (ix x2) x3), 0)
noncomputable def CL_valueAll_L2 (S : St) (x2 : Int32) : Option ((Int32 × St) × Nat) :=
  if 31 < x2 then
      some ((x2, S), 1)
    else
      bnd (lp (σ := Int32 × Int32) (fun q => CL_valueAll_L13 S x2 q.1 q.2) FZ (0, 0)) fun z2 =>
      CL_valueAll_J48 S x2 z2.1.1
noncomputable def CL_valueAll_J61 (S : St) : Option (St) :=
  some S
noncomputable def CL_valueAll (S : St) : Option (St) :=
  bnd (lp (σ := Int32 × St) (fun q => CL_valueAll_L2 q.2 q.1) FZ (0, S)) fun z3 =>
    CL_valueAll_J61 z3.1.2
set_option maxHeartbeats 4000000 in
set_option maxRecDepth 100000 in
theorem L_CL_valueAll_13 (C : gCx p s m args meth c y_CL_valueAll.cls b_CL_valueAll 5 none) : ∀ (S : St) (x2 : Int32) (n : Nat) (x3 : Int32) (x4 : Int32) (r : (Int32 × Int32) × Nat), lp (σ := Int32 × Int32) (fun q => CL_valueAll_L13 S x2 q.1 q.2) n (x3, x4) = some r → (∀ (y3 : Int32) (y4 : Int32), r = ((y3, y4), 1) → ∀ (ls : Array Slot) (H : Heap) (locs : List Loc), GH w s A S H locs → lv_has ls 5 [(0, .ref (gad w 43)), (1, .ref (gad w 1)), (2, .int x2), (3, .int y3)] → W p l e (rmm 2 45) s m args below meth c H locs 0 0 Q (F0 m 48 ls [])) → ∀ (ls : Array Slot) (H : Heap) (locs : List Loc), GH w s A S H locs → lv_has ls 5 [(0, .ref (gad w 43)), (1, .ref (gad w 1)), (2, .int x2), (3, .int x3), (4, .int x4)] → W p l e (rmm 2 45) s m args below meth c H locs 0 0 Q (F0 m 13 ls []) := by
  have hx := C.1
  have hb := C.2.1
  intro S x2 n
  induction n with
  | zero => intro x3 x4 r h; cases h
  | succ n ih =>
    intro x3 x4 r h k1 ls H locs hG hl
    obtain ⟨z, h, hr⟩ := lp_succ h
    have h : CL_valueAll_L13 S x2 x3 x4 = some z := h
    unfold CL_valueAll_L13 at h
    refine lv_iload hx hb d_CL_valueAll_13 (lv_at hl 4 rfl) ?_
    refine lv_bipush (v := 10) hx hb d_CL_valueAll_15 (by decide) ?_
    refine lv_icmp_ge (tgt := 48) hx hb d_CL_valueAll_17 (by decide) (fun hc => ?_) (fun hc => ?_)
    · replace h := it_t h hc
      exact k1 _ _ (lp_exit h hr) ls _ _ hG (lv_sub hl [0, 1, 2, 3] rfl)
    · replace h := it_f h hc
      refine lv_iload_n hx hb d_CL_valueAll_20 rfl (lv_at hl 3 rfl) ?_
      refine lv_iconst (v := 0) hx hb d_CL_valueAll_21 (by decide) ?_
      refine lv_aload_n hx hb d_CL_valueAll_22 rfl (lv_at hl 1 rfl) ?_
      refine lv_iload_n hx hb d_CL_valueAll_23 rfl (lv_at hl 2 rfl) ?_
      refine lv_iload hx hb d_CL_valueAll_24 (lv_at hl 4 rfl) ?_
      obtain ⟨z1, hz1, h⟩ := bnd_some h
      refine g_goi hG (g_runS (As := [.ref (gad w 1), .int x2, .int x4]) (rest := [.int 0, .int x3]) C hG (c_CL_greatestValue l w S x2 x4 hz1 _) sw_CL_19 rfl rfl ⟨by decide, by decide⟩ rfl hl.1 rfl (Nat.le_of_ble_eq_true rfl) d_CL_valueAll_26 ⟨Nat.zero_le _, Nat.zero_le _⟩) (fun H locs hG => ?_)
      refine lv_aload_n hx hb d_CL_valueAll_29 rfl (lv_at hl 1 rfl) ?_
      refine g_get C hG (hG.lt (Nat.le_of_ble_eq_true rfl)) (ce1 w _) rfl inC6 5 (Nat.le_of_ble_eq_true rfl) qw43 rfl d_CL_valueAll_30 ?_
      refine lv_iload hx hb d_CL_valueAll_33 (lv_at hl 4 rfl) ?_
      obtain ⟨hi1, h⟩ := chk_some h
      refine g_iald (j := ix x4) C hG (hG.lt (Nat.le_of_ble_eq_true rfl)) (ce22 w _) (inb_in hi1) rfl d_CL_valueAll_35 ?_
      refine lv_isub hx hb d_CL_valueAll_36 ?_
      refine g_max C hl.1 qw483 ⟨by decide, by decide⟩ (Nat.le_of_ble_eq_true rfl) ⟨Nat.zero_le _, Nat.zero_le _⟩ d_CL_valueAll_37 ?_
      refine lv_iadd hx hb d_CL_valueAll_40 ?_
      refine lv_istore_n (lv' := [(3, .int (x3 + (mx 0 (z1 - (S 22 (ix x4)))))), (0, .ref (gad w 43)), (1, .ref (gad w 1)), (2, .int x2), (4, .int x4)]) hx hb d_CL_valueAll_41 rfl hl (by decide) rfl (fun ls hl => ?_)
      refine lv_iinc (v := x4 + 1) (lv' := [(4, .int (x4 + 1)), (3, .int (x3 + (mx 0 (z1 - (S 22 (ix x4)))))), (0, .ref (gad w 43)), (1, .ref (gad w 1)), (2, .int x2)]) hx hb d_CL_valueAll_42 hl (k := 4) rfl (congrArg (HAdd.hAdd x4) (by decide : Int32.ofInt 1 = 1)) (by decide) rfl (fun ls hl => ?_)
      refine lv_goto (tgt := 13) hx hb d_CL_valueAll_45 (by decide) ?_
      exact ih _ _ _ (lp_back h hr) k1 ls _ _ hG (lv_sub hl [2, 3, 4, 1, 0] rfl)
set_option maxHeartbeats 4000000 in
set_option maxRecDepth 100000 in
theorem L_CL_valueAll_2 (C : gCx p s m args meth c y_CL_valueAll.cls b_CL_valueAll 5 none) : ∀ (n : Nat) (x2 : Int32) (S : St) (r : (Int32 × St) × Nat), lp (σ := Int32 × St) (fun q => CL_valueAll_L2 q.2 q.1) n (x2, S) = some r → (∀ (y2 : Int32) (Sy : St), r = ((y2, Sy), 1) → ∀ (ls : Array Slot) (H : Heap) (locs : List Loc), GH w s A Sy H locs → lv_has ls 5 [] → W p l e (rmm 2 45) s m args below meth c H locs 0 0 Q (F0 m 61 ls [])) → ∀ (ls : Array Slot) (H : Heap) (locs : List Loc), GH w s A S H locs → lv_has ls 5 [(0, .ref (gad w 43)), (1, .ref (gad w 1)), (2, .int x2)] → W p l e (rmm 2 45) s m args below meth c H locs 0 0 Q (F0 m 2 ls []) := by
  have hx := C.1
  have hb := C.2.1
  intro n
  induction n with
  | zero => intro x2 S r h; cases h
  | succ n ih =>
    intro x2 S r h k1 ls H locs hG hl
    obtain ⟨z, h, hr⟩ := lp_succ h
    have h : CL_valueAll_L2 S x2 = some z := h
    have J48 : ∀ (S : St) (x2 : Int32) (x3 : Int32), CL_valueAll_J48 S x2 x3 = some z → ∀ (ls : Array Slot) (H : Heap) (locs : List Loc), GH w s A S H locs → lv_has ls 5 [(0, .ref (gad w 43)), (1, .ref (gad w 1)), (2, .int x2), (3, .int x3)] → W p l e (rmm 2 45) s m args below meth c H locs 0 0 Q (F0 m 48 ls []) := by
      intro S x2 x3 h ls H locs hG hl
      unfold CL_valueAll_J48 at h
      refine lv_aload_n hx hb d_CL_valueAll_48 rfl (lv_at hl 0 rfl) ?_
      refine g_get C hG (hG.lt (Nat.le_of_ble_eq_true rfl)) (ce43 w _) rfl inC1 0 (Nat.le_of_ble_eq_true rfl) qw163 rfl d_CL_valueAll_49 ?_
      refine lv_iload_n hx hb d_CL_valueAll_52 rfl (lv_at hl 2 rfl) ?_
      refine lv_iload_n hx hb d_CL_valueAll_53 rfl (lv_at hl 3 rfl) ?_
      obtain ⟨hi2, h⟩ := chk_some h
      refine g_iast (j := ix x2) (x := x3) C hG (hG.lt (Nat.le_of_ble_eq_true rfl)) (ce44 w) (inb_in hi2) rfl d_CL_valueAll_54 (fun H locs hG => ?_)
      refine lv_iinc (v := x2 + 1) (lv' := [(2, .int (x2 + 1)), (0, .ref (gad w 43)), (1, .ref (gad w 1)), (3, .int x3)]) hx hb d_CL_valueAll_55 hl (k := 2) rfl (congrArg (HAdd.hAdd x2) (by decide : Int32.ofInt 1 = 1)) (by decide) rfl (fun ls hl => ?_)
      refine lv_goto (tgt := 2) hx hb d_CL_valueAll_58 (by decide) ?_
      exact ih _ _ _ (lp_back h hr) k1 ls _ _ hG (lv_sub hl [1, 2, 0] rfl)
    unfold CL_valueAll_L2 at h
    refine lv_iload_n hx hb d_CL_valueAll_2 rfl (lv_at hl 2 rfl) ?_
    refine lv_bipush (v := 31) hx hb d_CL_valueAll_3 (by decide) ?_
    refine lv_icmp_gt (tgt := 61) hx hb d_CL_valueAll_5 (by decide) (fun hc => ?_) (fun hc => ?_)
    · replace h := it_t h hc
      exact k1 _ _ (lp_exit h hr) ls _ _ hG (lv_sub hl [] rfl)
    · replace h := it_f h hc
      refine lv_iconst (v := 0) hx hb d_CL_valueAll_8 (by decide) ?_
      refine lv_istore_n (lv' := [(3, .int 0), (0, .ref (gad w 43)), (1, .ref (gad w 1)), (2, .int x2)]) hx hb d_CL_valueAll_9 rfl hl (by decide) rfl (fun ls hl => ?_)
      refine lv_iconst (v := 0) hx hb d_CL_valueAll_10 (by decide) ?_
      refine lv_istore (lv' := [(4, .int 0), (3, .int 0), (0, .ref (gad w 43)), (1, .ref (gad w 1)), (2, .int x2)]) hx hb d_CL_valueAll_11 hl (by decide) rfl (fun ls hl => ?_)
      obtain ⟨z2, hz2, h⟩ := bnd_some h
      refine L_CL_valueAll_13 C _ _ FZ _ _ _ hz2 ?_ ls _ _ hG (lv_sub hl [2, 3, 4, 1, 0] rfl)
      intro y3 y4 e9 ls H locs hG hl
      subst e9
      exact J48 _ _ _ h ls _ _ hG (lv_sub hl [0, 1, 2, 3] rfl)
set_option maxHeartbeats 4000000 in
set_option maxRecDepth 100000 in
theorem c_CL_valueAll (l : Launch) (w : gw) (S : St)   {z : St} (h : (CL_valueAll S) = some z) : gMv l w y_CL_valueAll b_CL_valueAll 5 none (rmm 2 45) [.ref (gad w 43), .ref (gad w 1)] S z := by
  unfold CL_valueAll at h
  refine g_met (Qc := gQv w z) (by decide +kernel) (Nat.le_of_ble_eq_true rfl) ?_
  intro p e s m args below meth c A Q ls hQ C hG hl
  have hx := C.1
  have hb := C.2.1
  have hl : lv_has ls 5 [(0, .ref (gad w 43)), (1, .ref (gad w 1))] := hl
  have J61 : ∀ (S : St), CL_valueAll_J61 S = some z → ∀ (ls : Array Slot) (H : Heap) (locs : List Loc), GH w s A S H locs → lv_has ls 5 [] → W p l e (rmm 2 45) s m args below meth c H locs 0 0 Q (F0 m 61 ls []) := by
    intro S h ls H locs hG hl
    unfold CL_valueAll_J61 at h
    exact g_vret C hG (Option.some.inj h) hQ d_CL_valueAll_61
  refine lv_iconst (v := 0) hx hb d_CL_valueAll_0 (by decide) ?_
  refine lv_istore_n (lv' := [(2, .int 0), (0, .ref (gad w 43)), (1, .ref (gad w 1))]) hx hb d_CL_valueAll_1 rfl hl (by decide) rfl (fun ls hl => ?_)
  obtain ⟨z3, hz3, h⟩ := bnd_some h
  refine L_CL_valueAll_2 C FZ _ _ _ hz3 ?_ ls _ _ hG (lv_sub hl [1, 2, 0] rfl)
  intro y2 Sy e9 ls H locs hG hl
  subst e9
  exact J61 _ h ls _ _ hG (lv_sub hl [] rfl)
theorem d_CL_broughtInAllOrders_0 : decode b_CL_broughtInAllOrders 0 = .ok (.iconst 1, 1) := by decide +kernel
theorem d_CL_broughtInAllOrders_1 : decode b_CL_broughtInAllOrders 1 = .ok (.iload_n 1, 1) := by decide +kernel
theorem d_CL_broughtInAllOrders_2 : decode b_CL_broughtInAllOrders 2 = .ok (.ishl, 1) := by decide +kernel
theorem d_CL_broughtInAllOrders_3 : decode b_CL_broughtInAllOrders 3 = .ok (.istore_n 2, 1) := by decide +kernel
theorem d_CL_broughtInAllOrders_4 : decode b_CL_broughtInAllOrders 4 = .ok (.iconst 0, 1) := by decide +kernel
theorem d_CL_broughtInAllOrders_5 : decode b_CL_broughtInAllOrders 5 = .ok (.istore_n 3, 1) := by decide +kernel
theorem d_CL_broughtInAllOrders_6 : decode b_CL_broughtInAllOrders 6 = .ok (.iconst 0, 1) := by decide +kernel
theorem d_CL_broughtInAllOrders_7 : decode b_CL_broughtInAllOrders 7 = .ok (.istore 4, 2) := by decide +kernel
theorem d_CL_broughtInAllOrders_9 : decode b_CL_broughtInAllOrders 9 = .ok (.iload 4, 2) := by decide +kernel
theorem d_CL_broughtInAllOrders_11 : decode b_CL_broughtInAllOrders 11 = .ok (.bipush 31, 2) := by decide +kernel
theorem d_CL_broughtInAllOrders_13 : decode b_CL_broughtInAllOrders 13 = .ok (.if_icmp .gt 46, 3) := by decide +kernel
theorem d_CL_broughtInAllOrders_16 : decode b_CL_broughtInAllOrders 16 = .ok (.iload 4, 2) := by decide +kernel
theorem d_CL_broughtInAllOrders_18 : decode b_CL_broughtInAllOrders 18 = .ok (.iload_n 2, 1) := by decide +kernel
theorem d_CL_broughtInAllOrders_19 : decode b_CL_broughtInAllOrders 19 = .ok (.iand, 1) := by decide +kernel
theorem d_CL_broughtInAllOrders_20 : decode b_CL_broughtInAllOrders 20 = .ok (.ifCond .ne 33, 3) := by decide +kernel
theorem d_CL_broughtInAllOrders_23 : decode b_CL_broughtInAllOrders 23 = .ok (.iload_n 3, 1) := by decide +kernel
theorem d_CL_broughtInAllOrders_24 : decode b_CL_broughtInAllOrders 24 = .ok (.getstatic 38, 3) := by decide +kernel
theorem d_CL_broughtInAllOrders_27 : decode b_CL_broughtInAllOrders 27 = .ok (.iload 4, 2) := by decide +kernel
theorem d_CL_broughtInAllOrders_29 : decode b_CL_broughtInAllOrders 29 = .ok (.invokestatic 41, 3) := by decide +kernel
theorem d_CL_broughtInAllOrders_32 : decode b_CL_broughtInAllOrders 32 = .ok (.iaload, 1) := by decide +kernel
theorem d_CL_broughtInAllOrders_33 : decode b_CL_broughtInAllOrders 33 = .ok (.aload_n 0, 1) := by decide +kernel
theorem d_CL_broughtInAllOrders_34 : decode b_CL_broughtInAllOrders 34 = .ok (.getfield 9, 3) := by decide +kernel
theorem d_CL_broughtInAllOrders_37 : decode b_CL_broughtInAllOrders 37 = .ok (.iload 4, 2) := by decide +kernel
theorem d_CL_broughtInAllOrders_39 : decode b_CL_broughtInAllOrders 39 = .ok (.iload_n 2, 1) := by decide +kernel
theorem d_CL_broughtInAllOrders_40 : decode b_CL_broughtInAllOrders 40 = .ok (.ior, 1) := by decide +kernel
theorem d_CL_broughtInAllOrders_41 : decode b_CL_broughtInAllOrders 41 = .ok (.iaload, 1) := by decide +kernel
theorem d_CL_broughtInAllOrders_42 : decode b_CL_broughtInAllOrders 42 = .ok (.aload_n 0, 1) := by decide +kernel
theorem d_CL_broughtInAllOrders_43 : decode b_CL_broughtInAllOrders 43 = .ok (.getfield 9, 3) := by decide +kernel
theorem d_CL_broughtInAllOrders_46 : decode b_CL_broughtInAllOrders 46 = .ok (.iload 4, 2) := by decide +kernel
theorem d_CL_broughtInAllOrders_48 : decode b_CL_broughtInAllOrders 48 = .ok (.iaload, 1) := by decide +kernel
theorem d_CL_broughtInAllOrders_49 : decode b_CL_broughtInAllOrders 49 = .ok (.isub, 1) := by decide +kernel
theorem d_CL_broughtInAllOrders_50 : decode b_CL_broughtInAllOrders 50 = .ok (.imul, 1) := by decide +kernel
theorem d_CL_broughtInAllOrders_51 : decode b_CL_broughtInAllOrders 51 = .ok (.iadd, 1) := by decide +kernel
theorem d_CL_broughtInAllOrders_52 : decode b_CL_broughtInAllOrders 52 = .ok (.istore_n 3, 1) := by decide +kernel
theorem d_CL_broughtInAllOrders_53 : decode b_CL_broughtInAllOrders 53 = .ok (.iinc 4 1, 3) := by decide +kernel
theorem d_CL_broughtInAllOrders_56 : decode b_CL_broughtInAllOrders 56 = .ok (.goto (-47), 3) := by decide +kernel
theorem d_CL_broughtInAllOrders_59 : decode b_CL_broughtInAllOrders 59 = .ok (.iload_n 3, 1) := by decide +kernel
theorem d_CL_broughtInAllOrders_60 : decode b_CL_broughtInAllOrders 60 = .ok (.ireturn, 1) := by decide +kernel
noncomputable def CL_broughtInAllOrders_L9 (S : St) (x2 : Int32) (x3 : Int32) (x4 : Int32) : Option ((Int32 × Int32) × Nat) :=
  if 31 < x4 then
      some ((x3, x4), 1)
    else
      if (x4 &&& x2) = 0 then
        chk (inb (JI_bitCount x4) 5) <|
        chk (inb (x4 ||| x2) 32) <|
        chk (inb x4 32) <|
        some ((x3 + ((tb3 (ix (JI_bitCount x4))) * ((S 44 (ix (x4 ||| x2))) - (S 44 (ix x4)))), x4 + 1), 0)
      else
        some ((x3, x4 + 1), 0)
noncomputable def CL_broughtInAllOrders_J59 (S : St) (x3 : Int32) : Option (Int32) :=
  some x3
noncomputable def CL_broughtInAllOrders (S : St) (x1 : Int32) : Option (Int32) :=
  bnd (lp (σ := Int32 × Int32) (fun q => CL_broughtInAllOrders_L9 S ((1 : Int32) <<< (x1 &&& 31)) q.1 q.2) FZ (0, 0)) fun z1 =>
    CL_broughtInAllOrders_J59 S z1.1.1
set_option maxHeartbeats 4000000 in
set_option maxRecDepth 100000 in
theorem L_CL_broughtInAllOrders_9 (C : gCx p s m args meth c y_CL_broughtInAllOrders.cls b_CL_broughtInAllOrders 5 (some .int)) : ∀ (S : St) (x2 : Int32) (n : Nat) (x3 : Int32) (x4 : Int32) (r : (Int32 × Int32) × Nat), lp (σ := Int32 × Int32) (fun q => CL_broughtInAllOrders_L9 S x2 q.1 q.2) n (x3, x4) = some r → (∀ (y3 : Int32) (y4 : Int32), r = ((y3, y4), 1) → ∀ (ls : Array Slot) (H : Heap) (locs : List Loc), GH w s A S H locs → lv_has ls 5 [(3, .int y3)] → W p l e (rmm 1 20) s m args below meth c H locs 0 0 Q (F0 m 59 ls [])) → ∀ (ls : Array Slot) (H : Heap) (locs : List Loc), GH w s A S H locs → lv_has ls 5 [(0, .ref (gad w 43)), (2, .int x2), (3, .int x3), (4, .int x4)] → W p l e (rmm 1 20) s m args below meth c H locs 0 0 Q (F0 m 9 ls []) := by
  have hx := C.1
  have hb := C.2.1
  intro S x2 n
  induction n with
  | zero => intro x3 x4 r h; cases h
  | succ n ih =>
    intro x3 x4 r h k1 ls H locs hG hl
    obtain ⟨z, h, hr⟩ := lp_succ h
    have h : CL_broughtInAllOrders_L9 S x2 x3 x4 = some z := h
    unfold CL_broughtInAllOrders_L9 at h
    refine lv_iload hx hb d_CL_broughtInAllOrders_9 (lv_at hl 3 rfl) ?_
    refine lv_bipush (v := 31) hx hb d_CL_broughtInAllOrders_11 (by decide) ?_
    refine lv_icmp_gt (tgt := 59) hx hb d_CL_broughtInAllOrders_13 (by decide) (fun hc => ?_) (fun hc => ?_)
    · replace h := it_t h hc
      exact k1 _ _ (lp_exit h hr) ls _ _ hG (lv_sub hl [2] rfl)
    · replace h := it_f h hc
      refine lv_iload hx hb d_CL_broughtInAllOrders_16 (lv_at hl 3 rfl) ?_
      refine lv_iload_n hx hb d_CL_broughtInAllOrders_18 rfl (lv_at hl 1 rfl) ?_
      refine lv_iand hx hb d_CL_broughtInAllOrders_19 ?_
      refine lv_if_ne (tgt := 53) hx hb d_CL_broughtInAllOrders_20 (by decide) (fun hc => ?_) (fun hc => ?_)
      · replace h := it_f h hc
        refine lv_iinc (v := x4 + 1) (lv' := [(4, .int (x4 + 1)), (0, .ref (gad w 43)), (2, .int x2), (3, .int x3)]) hx hb d_CL_broughtInAllOrders_53 hl (k := 3) rfl (congrArg (HAdd.hAdd x4) (by decide : Int32.ofInt 1 = 1)) (by decide) rfl (fun ls hl => ?_)
        refine lv_goto (tgt := 9) hx hb d_CL_broughtInAllOrders_56 (by decide) ?_
        exact ih _ _ _ (lp_back h hr) k1 ls _ _ hG (lv_sub hl [1, 2, 3, 0] rfl)
      · replace h := it_t h hc
        refine lv_iload_n hx hb d_CL_broughtInAllOrders_23 rfl (lv_at hl 2 rfl) ?_
        refine va_getsN hx hb (hG.2.2.2.2.2.1.2.2.2.2.1) hG.2.2.2.1 C.2.2.2.1 (va_Nw.use rfl hG.2.2.2.2.2.1.2.2.2.2.2.2.2.2) (fun _ h9 => h9) d_CL_broughtInAllOrders_24 ?_
        refine lv_iload hx hb d_CL_broughtInAllOrders_27 (lv_at hl 3 rfl) ?_
        refine g_goi hG (g_runS (As := [.int x4]) (rest := [.ref (gt3 w), .int x3]) C hG (c_JI_bitCount l w S x4 _) sw_CL_41 rfl rfl ⟨by decide, by decide⟩ rfl hl.1 rfl (Nat.le_of_ble_eq_true rfl) d_CL_broughtInAllOrders_29 ⟨Nat.zero_le _, Nat.zero_le _⟩) (fun H locs hG => ?_)
        obtain ⟨hi1, h⟩ := chk_some h
        refine va_ti (v := .int (tb3 (ix (JI_bitCount x4)))) hx hb (hG.2.2.2.2.2.1.2.2.2.2.2.1) hG.2.2.2.1 (inb_in hi1) rfl d_CL_broughtInAllOrders_32 ?_
        refine lv_aload_n hx hb d_CL_broughtInAllOrders_33 rfl (lv_at hl 0 rfl) ?_
        refine g_get C hG (hG.lt (Nat.le_of_ble_eq_true rfl)) (ce43 w _) rfl inC1 0 (Nat.le_of_ble_eq_true rfl) qw163 rfl d_CL_broughtInAllOrders_34 ?_
        refine lv_iload hx hb d_CL_broughtInAllOrders_37 (lv_at hl 3 rfl) ?_
        refine lv_iload_n hx hb d_CL_broughtInAllOrders_39 rfl (lv_at hl 1 rfl) ?_
        refine lv_ior hx hb d_CL_broughtInAllOrders_40 ?_
        obtain ⟨hi2, h⟩ := chk_some h
        refine g_iald (j := ix (x4 ||| x2)) C hG (hG.lt (Nat.le_of_ble_eq_true rfl)) (ce44 w _) (inb_in hi2) rfl d_CL_broughtInAllOrders_41 ?_
        refine lv_aload_n hx hb d_CL_broughtInAllOrders_42 rfl (lv_at hl 0 rfl) ?_
        refine g_get C hG (hG.lt (Nat.le_of_ble_eq_true rfl)) (ce43 w _) rfl inC1 0 (Nat.le_of_ble_eq_true rfl) qw163 rfl d_CL_broughtInAllOrders_43 ?_
        refine lv_iload hx hb d_CL_broughtInAllOrders_46 (lv_at hl 3 rfl) ?_
        obtain ⟨hi3, h⟩ := chk_some h
        refine g_iald (j := ix x4) C hG (hG.lt (Nat.le_of_ble_eq_true rfl)) (ce44 w _) (inb_in hi3) rfl d_CL_broughtInAllOrders_48 ?_
        refine lv_isub hx hb d_CL_broughtInAllOrders_49 ?_
        refine lv_imul hx hb d_CL_broughtInAllOrders_50 ?_
        refine lv_iadd hx hb d_CL_broughtInAllOrders_51 ?_
        refine lv_istore_n (lv' := [(3, .int (x3 + ((tb3 (ix (JI_bitCount x4))) * ((S 44 (ix (x4 ||| x2))) - (S 44 (ix x4)))))), (0, .ref (gad w 43)), (2, .int x2), (4, .int x4)]) hx hb d_CL_broughtInAllOrders_52 rfl hl (by decide) rfl (fun ls hl => ?_)
        refine lv_iinc (v := x4 + 1) (lv' := [(4, .int (x4 + 1)), (3, .int (x3 + ((tb3 (ix (JI_bitCount x4))) * ((S 44 (ix (x4 ||| x2))) - (S 44 (ix x4)))))), (0, .ref (gad w 43)), (2, .int x2)]) hx hb d_CL_broughtInAllOrders_53 hl (k := 3) rfl (congrArg (HAdd.hAdd x4) (by decide : Int32.ofInt 1 = 1)) (by decide) rfl (fun ls hl => ?_)
        refine lv_goto (tgt := 9) hx hb d_CL_broughtInAllOrders_56 (by decide) ?_
        exact ih _ _ _ (lp_back h hr) k1 ls _ _ hG (lv_sub hl [2, 3, 1, 0] rfl)
set_option maxHeartbeats 4000000 in
set_option maxRecDepth 100000 in
theorem c_CL_broughtInAllOrders (l : Launch) (w : gw) (S : St) (x1 : Int32)  {z : Int32} (h : (CL_broughtInAllOrders S x1) = some z) : gMi l w y_CL_broughtInAllOrders b_CL_broughtInAllOrders 5 (some .int) (rmm 1 20) [.ref (gad w 43), .int x1] S z S := by
  unfold CL_broughtInAllOrders at h
  refine g_met (Qc := gQi w z S) (by decide +kernel) (Nat.le_of_ble_eq_true rfl) ?_
  intro p e s m args below meth c A Q ls hQ C hG hl
  have hx := C.1
  have hb := C.2.1
  have hl : lv_has ls 5 [(0, .ref (gad w 43)), (1, .int x1)] := hl
  have J59 : ∀ (x3 : Int32), CL_broughtInAllOrders_J59 S x3 = some z → ∀ (ls : Array Slot) (H : Heap) (locs : List Loc), GH w s A S H locs → lv_has ls 5 [(3, .int x3)] → W p l e (rmm 1 20) s m args below meth c H locs 0 0 Q (F0 m 59 ls []) := by
    intro x3 h ls H locs hG hl
    unfold CL_broughtInAllOrders_J59 at h
    refine lv_iload_n hx hb d_CL_broughtInAllOrders_59 rfl (lv_at hl 0 rfl) ?_
    exact g_iret C hG (Option.some.inj h) rfl hQ d_CL_broughtInAllOrders_60
  refine lv_iconst (v := 1) hx hb d_CL_broughtInAllOrders_0 (by decide) ?_
  refine lv_iload_n hx hb d_CL_broughtInAllOrders_1 rfl (lv_at hl 1 rfl) ?_
  refine lv_ishl hx hb d_CL_broughtInAllOrders_2 ?_
  refine lv_istore_n (lv' := [(2, .int ((1 : Int32) <<< (x1 &&& 31))), (0, .ref (gad w 43)), (1, .int x1)]) hx hb d_CL_broughtInAllOrders_3 rfl hl (by decide) rfl (fun ls hl => ?_)
  refine lv_iconst (v := 0) hx hb d_CL_broughtInAllOrders_4 (by decide) ?_
  refine lv_istore_n (lv' := [(3, .int 0), (2, .int ((1 : Int32) <<< (x1 &&& 31))), (0, .ref (gad w 43)), (1, .int x1)]) hx hb d_CL_broughtInAllOrders_5 rfl hl (by decide) rfl (fun ls hl => ?_)
  refine lv_iconst (v := 0) hx hb d_CL_broughtInAllOrders_6 (by decide) ?_
  refine lv_istore (lv' := [(4, .int 0), (3, .int 0), (2, .int ((1 : Int32) <<< (x1 &&& 31))), (0, .ref (gad w 43)), (1, .int x1)]) hx hb d_CL_broughtInAllOrders_7 hl (by decide) rfl (fun ls hl => ?_)
  obtain ⟨z1, hz1, h⟩ := bnd_some h
  refine L_CL_broughtInAllOrders_9 C _ _ FZ _ _ _ hz1 ?_ ls _ _ hG (lv_sub hl [3, 2, 1, 0] rfl)
  intro y3 y4 e9 ls H locs hG hl
  subst e9
  exact J59 _ h ls _ _ hG (lv_sub hl [0] rfl)
theorem d_OE_leastChoice_0 : decode b_OE_leastChoice 0 = .ok (.aload_n 0, 1) := by decide +kernel
theorem d_OE_leastChoice_1 : decode b_OE_leastChoice 1 = .ok (.aload_n 1, 1) := by decide +kernel
theorem d_OE_leastChoice_2 : decode b_OE_leastChoice 2 = .ok (.iload_n 2, 1) := by decide +kernel
theorem d_OE_leastChoice_3 : decode b_OE_leastChoice 3 = .ok (.iconst 1, 1) := by decide +kernel
theorem d_OE_leastChoice_4 : decode b_OE_leastChoice 4 = .ok (.iadd, 1) := by decide +kernel
theorem d_OE_leastChoice_5 : decode b_OE_leastChoice 5 = .ok (.iload_n 3, 1) := by decide +kernel
theorem d_OE_leastChoice_6 : decode b_OE_leastChoice 6 = .ok (.invokevirtual 28, 3) := by decide +kernel
theorem d_OE_leastChoice_9 : decode b_OE_leastChoice 9 = .ok (.iload 4, 2) := by decide +kernel
theorem d_OE_leastChoice_11 : decode b_OE_leastChoice 11 = .ok (.if_icmp .ne 5, 3) := by decide +kernel
theorem d_OE_leastChoice_14 : decode b_OE_leastChoice 14 = .ok (.iconst (-1), 1) := by decide +kernel
theorem d_OE_leastChoice_15 : decode b_OE_leastChoice 15 = .ok (.ireturn, 1) := by decide +kernel
theorem d_OE_leastChoice_16 : decode b_OE_leastChoice 16 = .ok (.iconst 0, 1) := by decide +kernel
theorem d_OE_leastChoice_17 : decode b_OE_leastChoice 17 = .ok (.istore 5, 2) := by decide +kernel
theorem d_OE_leastChoice_19 : decode b_OE_leastChoice 19 = .ok (.iload 5, 2) := by decide +kernel
theorem d_OE_leastChoice_21 : decode b_OE_leastChoice 21 = .ok (.bipush 10, 2) := by decide +kernel
theorem d_OE_leastChoice_23 : decode b_OE_leastChoice 23 = .ok (.if_icmp .ge 54, 3) := by decide +kernel
theorem d_OE_leastChoice_26 : decode b_OE_leastChoice 26 = .ok (.iload_n 3, 1) := by decide +kernel
theorem d_OE_leastChoice_27 : decode b_OE_leastChoice 27 = .ok (.iload 5, 2) := by decide +kernel
theorem d_OE_leastChoice_29 : decode b_OE_leastChoice 29 = .ok (.ishr, 1) := by decide +kernel
theorem d_OE_leastChoice_30 : decode b_OE_leastChoice 30 = .ok (.iconst 1, 1) := by decide +kernel
theorem d_OE_leastChoice_31 : decode b_OE_leastChoice 31 = .ok (.iand, 1) := by decide +kernel
theorem d_OE_leastChoice_32 : decode b_OE_leastChoice 32 = .ok (.ifCond .ne 39, 3) := by decide +kernel
theorem d_OE_leastChoice_35 : decode b_OE_leastChoice 35 = .ok (.aload_n 0, 1) := by decide +kernel
theorem d_OE_leastChoice_36 : decode b_OE_leastChoice 36 = .ok (.aload_n 1, 1) := by decide +kernel
theorem d_OE_leastChoice_37 : decode b_OE_leastChoice 37 = .ok (.iload_n 2, 1) := by decide +kernel
theorem d_OE_leastChoice_38 : decode b_OE_leastChoice 38 = .ok (.iconst 1, 1) := by decide +kernel
theorem d_OE_leastChoice_39 : decode b_OE_leastChoice 39 = .ok (.iadd, 1) := by decide +kernel
theorem d_OE_leastChoice_40 : decode b_OE_leastChoice 40 = .ok (.iload_n 3, 1) := by decide +kernel
theorem d_OE_leastChoice_41 : decode b_OE_leastChoice 41 = .ok (.iconst 1, 1) := by decide +kernel
theorem d_OE_leastChoice_42 : decode b_OE_leastChoice 42 = .ok (.iload 5, 2) := by decide +kernel
theorem d_OE_leastChoice_44 : decode b_OE_leastChoice 44 = .ok (.ishl, 1) := by decide +kernel
theorem d_OE_leastChoice_45 : decode b_OE_leastChoice 45 = .ok (.ior, 1) := by decide +kernel
theorem d_OE_leastChoice_46 : decode b_OE_leastChoice 46 = .ok (.invokevirtual 28, 3) := by decide +kernel
theorem d_OE_leastChoice_49 : decode b_OE_leastChoice 49 = .ok (.istore 6, 2) := by decide +kernel
theorem d_OE_leastChoice_51 : decode b_OE_leastChoice 51 = .ok (.aload_n 1, 1) := by decide +kernel
theorem d_OE_leastChoice_52 : decode b_OE_leastChoice 52 = .ok (.getfield 42, 3) := by decide +kernel
theorem d_OE_leastChoice_55 : decode b_OE_leastChoice 55 = .ok (.iload_n 2, 1) := by decide +kernel
theorem d_OE_leastChoice_56 : decode b_OE_leastChoice 56 = .ok (.aaload, 1) := by decide +kernel
theorem d_OE_leastChoice_57 : decode b_OE_leastChoice 57 = .ok (.iload 5, 2) := by decide +kernel
theorem d_OE_leastChoice_59 : decode b_OE_leastChoice 59 = .ok (.iaload, 1) := by decide +kernel
theorem d_OE_leastChoice_60 : decode b_OE_leastChoice 60 = .ok (.iload 6, 2) := by decide +kernel
theorem d_OE_leastChoice_62 : decode b_OE_leastChoice 62 = .ok (.iadd, 1) := by decide +kernel
theorem d_OE_leastChoice_63 : decode b_OE_leastChoice 63 = .ok (.iload 4, 2) := by decide +kernel
theorem d_OE_leastChoice_65 : decode b_OE_leastChoice 65 = .ok (.if_icmp .ne 6, 3) := by decide +kernel
theorem d_OE_leastChoice_68 : decode b_OE_leastChoice 68 = .ok (.iload 5, 2) := by decide +kernel
theorem d_OE_leastChoice_70 : decode b_OE_leastChoice 70 = .ok (.ireturn, 1) := by decide +kernel
theorem d_OE_leastChoice_71 : decode b_OE_leastChoice 71 = .ok (.iinc 5 1, 3) := by decide +kernel
theorem d_OE_leastChoice_74 : decode b_OE_leastChoice 74 = .ok (.goto (-55), 3) := by decide +kernel
theorem d_OE_leastChoice_77 : decode b_OE_leastChoice 77 = .ok (.iconst (-1), 1) := by decide +kernel
theorem d_OE_leastChoice_78 : decode b_OE_leastChoice 78 = .ok (.ireturn, 1) := by decide +kernel
noncomputable def OE_leastChoice_L19 (S : St) (x2 : Int32) (x3 : Int32) (x4 : Int32) (x5 : Int32) : Option ((Int32 × St) × Nat) :=
  if 10 ≤ x5 then
      some ((x5, S), 2)
    else
      if ((x3 >>> (x5 &&& 31)) &&& 1) = 0 then
        bnd (OE_mostFrom S (x2 + 1) (x3 ||| ((1 : Int32) <<< (x5 &&& 31)))) fun z1 =>
        chk (inb x2 5) <|
        chk (inb x5 10) <|
        if ((z1.2 (5 + (ix x2)) (ix x5)) + z1.1) = x4 then
          some ((x5, z1.2), 1)
        else
          some ((x5 + 1, z1.2), 0)
      else
        some ((x5 + 1, S), 0)
noncomputable def OE_leastChoice_J77 (S : St) : Option (Int32 × St) :=
  some ((-1), S)
noncomputable def OE_leastChoice_J68 (S : St) (x5 : Int32) : Option (Int32 × St) :=
  some (x5, S)
noncomputable def OE_leastChoice (S : St) (x2 : Int32) (x3 : Int32) (x4 : Int32) : Option (Int32 × St) :=
  bnd (OE_mostFrom S (x2 + 1) x3) fun z2 =>
    if z2.1 = x4 then
      some ((-1), z2.2)
    else
      bnd (lp (σ := Int32 × St) (fun q => OE_leastChoice_L19 q.2 x2 x3 x4 q.1) FZ (0, z2.2)) fun z3 =>
      if z3.2 = 1 then
        OE_leastChoice_J68 z3.1.2 z3.1.1
      else OE_leastChoice_J77 z3.1.2
set_option maxHeartbeats 4000000 in
set_option maxRecDepth 100000 in
theorem L_OE_leastChoice_19 (C : gCx p s m args meth c y_OE_leastChoice.cls b_OE_leastChoice 7 (some .int)) : ∀ (x2 : Int32) (x3 : Int32) (x4 : Int32) (n : Nat) (x5 : Int32) (S : St) (r : (Int32 × St) × Nat), lp (σ := Int32 × St) (fun q => OE_leastChoice_L19 q.2 x2 x3 x4 q.1) n (x5, S) = some r → (∀ (y5 : Int32) (Sy : St), r = ((y5, Sy), 1) → ∀ (ls : Array Slot) (H : Heap) (locs : List Loc), GH w s A Sy H locs → lv_has ls 7 [(5, .int y5)] → W p l e (rmm 1 30) s m args below meth c H locs 0 0 Q (F0 m 68 ls [])) → (∀ (y5 : Int32) (Sy : St), r = ((y5, Sy), 2) → ∀ (ls : Array Slot) (H : Heap) (locs : List Loc), GH w s A Sy H locs → lv_has ls 7 [] → W p l e (rmm 1 30) s m args below meth c H locs 0 0 Q (F0 m 77 ls [])) → ∀ (ls : Array Slot) (H : Heap) (locs : List Loc), GH w s A S H locs → lv_has ls 7 [(0, .ref (gad w 39)), (1, .ref (gad w 1)), (2, .int x2), (3, .int x3), (4, .int x4), (5, .int x5)] → W p l e (rmm 1 30) s m args below meth c H locs 0 0 Q (F0 m 19 ls []) := by
  have hx := C.1
  have hb := C.2.1
  intro x2 x3 x4 n
  induction n with
  | zero => intro x5 S r h; cases h
  | succ n ih =>
    intro x5 S r h k1 k2 ls H locs hG hl
    obtain ⟨z, h, hr⟩ := lp_succ h
    have h : OE_leastChoice_L19 S x2 x3 x4 x5 = some z := h
    unfold OE_leastChoice_L19 at h
    refine lv_iload hx hb d_OE_leastChoice_19 (lv_at hl 5 rfl) ?_
    refine lv_bipush (v := 10) hx hb d_OE_leastChoice_21 (by decide) ?_
    refine lv_icmp_ge (tgt := 77) hx hb d_OE_leastChoice_23 (by decide) (fun hc => ?_) (fun hc => ?_)
    · replace h := it_t h hc
      exact k2 _ _ (lp_exit h hr) ls _ _ hG (lv_sub hl [] rfl)
    · replace h := it_f h hc
      refine lv_iload_n hx hb d_OE_leastChoice_26 rfl (lv_at hl 3 rfl) ?_
      refine lv_iload hx hb d_OE_leastChoice_27 (lv_at hl 5 rfl) ?_
      refine lv_ishr hx hb d_OE_leastChoice_29 ?_
      refine lv_iconst (v := 1) hx hb d_OE_leastChoice_30 (by decide) ?_
      refine lv_iand hx hb d_OE_leastChoice_31 ?_
      refine lv_if_ne (tgt := 71) hx hb d_OE_leastChoice_32 (by decide) (fun hc => ?_) (fun hc => ?_)
      · replace h := it_f h hc
        refine lv_iinc (v := x5 + 1) (lv' := [(5, .int (x5 + 1)), (0, .ref (gad w 39)), (1, .ref (gad w 1)), (2, .int x2), (3, .int x3), (4, .int x4)]) hx hb d_OE_leastChoice_71 hl (k := 5) rfl (congrArg (HAdd.hAdd x5) (by decide : Int32.ofInt 1 = 1)) (by decide) rfl (fun ls hl => ?_)
        refine lv_goto (tgt := 19) hx hb d_OE_leastChoice_74 (by decide) ?_
        exact ih _ _ _ (lp_back h hr) k1 k2 ls _ _ hG (lv_sub hl [1, 2, 3, 4, 5, 0] rfl)
      · replace h := it_t h hc
        refine lv_aload_n hx hb d_OE_leastChoice_35 rfl (lv_at hl 0 rfl) ?_
        refine lv_aload_n hx hb d_OE_leastChoice_36 rfl (lv_at hl 1 rfl) ?_
        refine lv_iload_n hx hb d_OE_leastChoice_37 rfl (lv_at hl 2 rfl) ?_
        refine lv_iconst (v := 1) hx hb d_OE_leastChoice_38 (by decide) ?_
        refine lv_iadd hx hb d_OE_leastChoice_39 ?_
        refine lv_iload_n hx hb d_OE_leastChoice_40 rfl (lv_at hl 3 rfl) ?_
        refine lv_iconst (v := 1) hx hb d_OE_leastChoice_41 (by decide) ?_
        refine lv_iload hx hb d_OE_leastChoice_42 (lv_at hl 5 rfl) ?_
        refine lv_ishl hx hb d_OE_leastChoice_44 ?_
        refine lv_ior hx hb d_OE_leastChoice_45 ?_
        obtain ⟨z1, hz1, h⟩ := bnd_some h
        refine g_goi hG (g_runV (As := [.ref (gad w 1), .int (x2 + 1), .int (x3 ||| ((1 : Int32) <<< (x5 &&& 31)))]) (rest := []) C hG (c_OE_mostFrom l w S (x2 + 1) (x3 ||| ((1 : Int32) <<< (x5 &&& 31))) hz1 _) (hG.lt (Nat.le_of_ble_eq_true rfl)) (ce39 w _) rfl vw_OE_28 rfl rfl ⟨by decide, by decide⟩ rfl hl.1 rfl (Nat.le_of_ble_eq_true rfl) d_OE_leastChoice_46 ⟨Nat.zero_le _, Nat.zero_le _⟩) (fun H locs hG => ?_)
        refine lv_istore (lv' := [(6, .int z1.1), (0, .ref (gad w 39)), (1, .ref (gad w 1)), (2, .int x2), (3, .int x3), (4, .int x4), (5, .int x5)]) hx hb d_OE_leastChoice_49 hl (by decide) rfl (fun ls hl => ?_)
        refine lv_aload_n hx hb d_OE_leastChoice_51 rfl (lv_at hl 2 rfl) ?_
        refine g_get C hG (hG.lt (Nat.le_of_ble_eq_true rfl)) (ce1 w _) rfl inC6 2 (Nat.le_of_ble_eq_true rfl) qw36 rfl d_OE_leastChoice_52 ?_
        refine lv_iload_n hx hb d_OE_leastChoice_55 rfl (lv_at hl 3 rfl) ?_
        obtain ⟨hi1, h⟩ := chk_some h
        refine g_ald2 (j := ix x2) C hG (hG.lt (Nat.le_of_ble_eq_true rfl)) (ce4 w _) (inb_in hi1) rfl d_OE_leastChoice_56 ?_
        have hr2 : ix x2 < 5 := row_lt (inb_in hi1)
        refine lv_iload hx hb d_OE_leastChoice_57 (lv_at hl 6 rfl) ?_
        obtain ⟨hi3, h⟩ := chk_some h
        refine g_iald (j := ix x5) C hG (hG.lt (by omega)) (cr4 w _ hr2) (inb_in hi3) rfl d_OE_leastChoice_59 ?_
        refine lv_iload hx hb d_OE_leastChoice_60 (lv_at hl 0 rfl) ?_
        refine lv_iadd hx hb d_OE_leastChoice_62 ?_
        refine lv_iload hx hb d_OE_leastChoice_63 (lv_at hl 5 rfl) ?_
        refine lv_icmp_ne (tgt := 71) hx hb d_OE_leastChoice_65 (by decide) (fun hc => ?_) (fun hc => ?_)
        · replace h := it_f h hc
          refine lv_iinc (v := x5 + 1) (lv' := [(5, .int (x5 + 1)), (6, .int z1.1), (0, .ref (gad w 39)), (1, .ref (gad w 1)), (2, .int x2), (3, .int x3), (4, .int x4)]) hx hb d_OE_leastChoice_71 hl (k := 6) rfl (congrArg (HAdd.hAdd x5) (by decide : Int32.ofInt 1 = 1)) (by decide) rfl (fun ls hl => ?_)
          refine lv_goto (tgt := 19) hx hb d_OE_leastChoice_74 (by decide) ?_
          exact ih _ _ _ (lp_back h hr) k1 k2 ls _ _ hG (lv_sub hl [2, 3, 4, 5, 6, 0] rfl)
        · replace h := it_t h hc
          exact k1 _ _ (lp_exit h hr) ls _ _ hG (lv_sub hl [6] rfl)
set_option maxHeartbeats 4000000 in
set_option maxRecDepth 100000 in
theorem c_OE_leastChoice (l : Launch) (w : gw) (S : St) (x2 : Int32) (x3 : Int32) (x4 : Int32)  {z : Int32 × St} (h : (OE_leastChoice S x2 x3 x4) = some z) : gMi l w y_OE_leastChoice b_OE_leastChoice 7 (some .int) (rmm 1 30) [.ref (gad w 39), .ref (gad w 1), .int x2, .int x3, .int x4] S z.1 z.2 := by
  unfold OE_leastChoice at h
  refine g_met (Qc := gQi w z.1 z.2) (by decide +kernel) (Nat.le_of_ble_eq_true rfl) ?_
  intro p e s m args below meth c A Q ls hQ C hG hl
  have hx := C.1
  have hb := C.2.1
  have hl : lv_has ls 7 [(0, .ref (gad w 39)), (1, .ref (gad w 1)), (2, .int x2), (3, .int x3), (4, .int x4)] := hl
  have J77 : ∀ (S : St), OE_leastChoice_J77 S = some z → ∀ (ls : Array Slot) (H : Heap) (locs : List Loc), GH w s A S H locs → lv_has ls 7 [] → W p l e (rmm 1 30) s m args below meth c H locs 0 0 Q (F0 m 77 ls []) := by
    intro S h ls H locs hG hl
    unfold OE_leastChoice_J77 at h
    refine lv_iconst (v := (-1)) hx hb d_OE_leastChoice_77 (by decide) ?_
    exact g_iret C hG (sm_fst h) (sm_snd h) hQ d_OE_leastChoice_78
  have J68 : ∀ (S : St) (x5 : Int32), OE_leastChoice_J68 S x5 = some z → ∀ (ls : Array Slot) (H : Heap) (locs : List Loc), GH w s A S H locs → lv_has ls 7 [(5, .int x5)] → W p l e (rmm 1 30) s m args below meth c H locs 0 0 Q (F0 m 68 ls []) := by
    intro S x5 h ls H locs hG hl
    unfold OE_leastChoice_J68 at h
    refine lv_iload hx hb d_OE_leastChoice_68 (lv_at hl 0 rfl) ?_
    exact g_iret C hG (sm_fst h) (sm_snd h) hQ d_OE_leastChoice_70
  refine lv_aload_n hx hb d_OE_leastChoice_0 rfl (lv_at hl 0 rfl) ?_
  refine lv_aload_n hx hb d_OE_leastChoice_1 rfl (lv_at hl 1 rfl) ?_
  refine lv_iload_n hx hb d_OE_leastChoice_2 rfl (lv_at hl 2 rfl) ?_
  refine lv_iconst (v := 1) hx hb d_OE_leastChoice_3 (by decide) ?_
  refine lv_iadd hx hb d_OE_leastChoice_4 ?_
  refine lv_iload_n hx hb d_OE_leastChoice_5 rfl (lv_at hl 3 rfl) ?_
  obtain ⟨z2, hz2, h⟩ := bnd_some h
  refine g_goi hG (g_runV (As := [.ref (gad w 1), .int (x2 + 1), .int x3]) (rest := []) C hG (c_OE_mostFrom l w S (x2 + 1) x3 hz2 _) (hG.lt (Nat.le_of_ble_eq_true rfl)) (ce39 w _) rfl vw_OE_28 rfl rfl ⟨by decide, by decide⟩ rfl hl.1 rfl (Nat.le_of_ble_eq_true rfl) d_OE_leastChoice_6 ⟨Nat.zero_le _, Nat.zero_le _⟩) (fun H locs hG => ?_)
  refine lv_iload hx hb d_OE_leastChoice_9 (lv_at hl 4 rfl) ?_
  refine lv_icmp_ne (tgt := 16) hx hb d_OE_leastChoice_11 (by decide) (fun hc => ?_) (fun hc => ?_)
  · replace h := it_f h hc
    refine lv_iconst (v := 0) hx hb d_OE_leastChoice_16 (by decide) ?_
    refine lv_istore (lv' := [(5, .int 0), (0, .ref (gad w 39)), (1, .ref (gad w 1)), (2, .int x2), (3, .int x3), (4, .int x4)]) hx hb d_OE_leastChoice_17 hl (by decide) rfl (fun ls hl => ?_)
    obtain ⟨z3, hz3, h⟩ := bnd_some h
    refine L_OE_leastChoice_19 C _ _ _ FZ _ _ _ hz3 ?_ ?_ ls _ _ hG (lv_sub hl [1, 2, 3, 4, 5, 0] rfl)
    · intro y5 Sy e9 ls H locs hG hl
      subst e9
      replace h := it_t h rfl
      exact J68 _ _ h ls _ _ hG (lv_sub hl [0] rfl)
    · intro y5 Sy e9 ls H locs hG hl
      subst e9
      replace h := it_f h (show ¬ (2 : Nat) = 1 by decide)
      exact J77 _ h ls _ _ hG (lv_sub hl [] rfl)
  · replace h := it_t h hc
    refine lv_iconst (v := (-1)) hx hb d_OE_leastChoice_14 (by decide) ?_
    exact g_iret C hG (sm_fst h) (sm_snd h) hQ d_OE_leastChoice_15
