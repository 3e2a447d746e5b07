variable {p : Program} {l : Launch} {e : Env} {s : State} {m : MethodId} {args : Array Value} {below : List Frame} {meth : Method} {c : Code} {A : Nat → Prop} {Q : State → Prop} {w : gw} {S : St}
theorem d_X_solvedOneEach_0 : decode b_X_solvedOneEach 0 = .ok (.aload_n 0, 1) := by decide +kernel
theorem d_X_solvedOneEach_1 : decode b_X_solvedOneEach 1 = .ok (.getfield 36, 3) := by decide +kernel
theorem d_X_solvedOneEach_4 : decode b_X_solvedOneEach 4 = .ok (.getfield 369, 3) := by decide +kernel
theorem d_X_solvedOneEach_7 : decode b_X_solvedOneEach 7 = .ok (.aload_n 0, 1) := by decide +kernel
theorem d_X_solvedOneEach_8 : decode b_X_solvedOneEach 8 = .ok (.getfield 64, 3) := by decide +kernel
theorem d_X_solvedOneEach_11 : decode b_X_solvedOneEach 11 = .ok (.if_icmp .eq 25, 3) := by decide +kernel
theorem d_X_solvedOneEach_14 : decode b_X_solvedOneEach 14 = .ok (.aload_n 0, 1) := by decide +kernel
theorem d_X_solvedOneEach_15 : decode b_X_solvedOneEach 15 = .ok (.getfield 36, 3) := by decide +kernel
theorem d_X_solvedOneEach_18 : decode b_X_solvedOneEach 18 = .ok (.aload_n 0, 1) := by decide +kernel
theorem d_X_solvedOneEach_19 : decode b_X_solvedOneEach 19 = .ok (.getfield 10, 3) := by decide +kernel
theorem d_X_solvedOneEach_22 : decode b_X_solvedOneEach 22 = .ok (.invokevirtual 370, 3) := by decide +kernel
theorem d_X_solvedOneEach_25 : decode b_X_solvedOneEach 25 = .ok (.aload_n 0, 1) := by decide +kernel
theorem d_X_solvedOneEach_26 : decode b_X_solvedOneEach 26 = .ok (.getfield 36, 3) := by decide +kernel
theorem d_X_solvedOneEach_29 : decode b_X_solvedOneEach 29 = .ok (.aload_n 0, 1) := by decide +kernel
theorem d_X_solvedOneEach_30 : decode b_X_solvedOneEach 30 = .ok (.getfield 64, 3) := by decide +kernel
theorem d_X_solvedOneEach_33 : decode b_X_solvedOneEach 33 = .ok (.putfield 369, 3) := by decide +kernel
theorem d_X_solvedOneEach_36 : decode b_X_solvedOneEach 36 = .ok (.aload_n 0, 1) := by decide +kernel
theorem d_X_solvedOneEach_37 : decode b_X_solvedOneEach 37 = .ok (.getfield 36, 3) := by decide +kernel
theorem d_X_solvedOneEach_40 : decode b_X_solvedOneEach 40 = .ok (.areturn, 1) := by decide +kernel
noncomputable def X_solvedOneEach (S : St) : Option (St) :=
  if (S 39 4) = (S 0 9) then
      some S
    else
      bnd (OE_solve S) fun z1 =>
      some (up z1 39 4 (z1 0 9))
set_option maxHeartbeats 4000000 in
set_option maxRecDepth 100000 in
theorem c_X_solvedOneEach (l : Launch) (w : gw) (S : St)   {z : St} (h : (X_solvedOneEach S) = some z) : gMr l w y_X_solvedOneEach b_X_solvedOneEach 1 (some (.object "EveningAuction$OneEach")) (rmm 3 81) [.ref (gad w 0)] S 39 z := by
  unfold X_solvedOneEach at h
  refine g_met (Qc := gQr w 39 z) (by decide +kernel) (Nat.le_of_ble_eq_true rfl) ?_
  intro p e s m args below meth c A Q ls hQ C hG hl
  have hx := C.1
  have hb := C.2.1
  have hl : lv_has ls 1 [(0, .ref (gad w 0))] := hl
  refine lv_aload_n hx hb d_X_solvedOneEach_0 rfl (lv_at hl 0 rfl) ?_
  refine g_get C hG (hG.lt (Nat.le_of_ble_eq_true rfl)) (ce0 w _) rfl inC7 4 (Nat.le_of_ble_eq_true rfl) qw203 rfl d_X_solvedOneEach_1 ?_
  refine g_get C hG (hG.lt (Nat.le_of_ble_eq_true rfl)) (ce39 w _) rfl inC2 4 (Nat.le_of_ble_eq_true rfl) qw145 rfl d_X_solvedOneEach_4 ?_
  refine lv_aload_n hx hb d_X_solvedOneEach_7 rfl (lv_at hl 0 rfl) ?_
  refine g_get C hG (hG.lt (Nat.le_of_ble_eq_true rfl)) (ce0 w _) rfl inC7 9 (Nat.le_of_ble_eq_true rfl) qw208 rfl d_X_solvedOneEach_8 ?_
  refine lv_icmp_eq (tgt := 36) hx hb d_X_solvedOneEach_11 (by decide) (fun hc => ?_) (fun hc => ?_)
  · replace h := it_t h hc
    refine lv_aload_n hx hb d_X_solvedOneEach_36 rfl (lv_at hl 0 rfl) ?_
    refine g_get C hG (hG.lt (Nat.le_of_ble_eq_true rfl)) (ce0 w _) rfl inC7 4 (Nat.le_of_ble_eq_true rfl) qw203 rfl d_X_solvedOneEach_37 ?_
    exact g_aret C hG (Option.some.inj h) hQ d_X_solvedOneEach_40
  · replace h := it_f h hc
    refine lv_aload_n hx hb d_X_solvedOneEach_14 rfl (lv_at hl 0 rfl) ?_
    refine g_get C hG (hG.lt (Nat.le_of_ble_eq_true rfl)) (ce0 w _) rfl inC7 4 (Nat.le_of_ble_eq_true rfl) qw203 rfl d_X_solvedOneEach_15 ?_
    refine lv_aload_n hx hb d_X_solvedOneEach_18 rfl (lv_at hl 0 rfl) ?_
    refine g_get C hG (hG.lt (Nat.le_of_ble_eq_true rfl)) (ce0 w _) rfl inC7 0 (Nat.le_of_ble_eq_true rfl) qw199 rfl d_X_solvedOneEach_19 ?_
    obtain ⟨z1, hz1, h⟩ := bnd_some h
    refine g_gov hG (g_runV (As := [.ref (gad w 1)]) (rest := []) C hG (c_OE_solve l w S hz1 _) (hG.lt (Nat.le_of_ble_eq_true rfl)) (ce39 w _) rfl vw_X_370 rfl rfl ⟨by decide, by decide⟩ rfl hl.1 rfl (Nat.le_of_ble_eq_true rfl) d_X_solvedOneEach_22 ⟨Nat.zero_le _, Nat.zero_le _⟩) (fun H locs hG => ?_)
    refine lv_aload_n hx hb d_X_solvedOneEach_25 rfl (lv_at hl 0 rfl) ?_
    refine g_get C hG (hG.lt (Nat.le_of_ble_eq_true rfl)) (ce0 w _) rfl inC7 4 (Nat.le_of_ble_eq_true rfl) qw203 rfl d_X_solvedOneEach_26 ?_
    refine lv_aload_n hx hb d_X_solvedOneEach_29 rfl (lv_at hl 0 rfl) ?_
    refine g_get C hG (hG.lt (Nat.le_of_ble_eq_true rfl)) (ce0 w _) rfl inC7 9 (Nat.le_of_ble_eq_true rfl) qw208 rfl d_X_solvedOneEach_30 ?_
    refine g_put (x := z1 0 9) C hG (hG.lt (Nat.le_of_ble_eq_true rfl)) (ce39 w _) rfl inC2 okC2 nmC2 4 (Nat.le_of_ble_eq_true rfl) qw145 rfl rfl rfl (Nat.le_of_ble_eq_true rfl) rfl d_X_solvedOneEach_33 (fun H locs hG => ?_)
    refine lv_aload_n hx hb d_X_solvedOneEach_36 rfl (lv_at hl 0 rfl) ?_
    refine g_get C hG (hG.lt (Nat.le_of_ble_eq_true rfl)) (ce0 w _) rfl inC7 4 (Nat.le_of_ble_eq_true rfl) qw203 rfl d_X_solvedOneEach_37 ?_
    exact g_aret C hG (Option.some.inj h) hQ d_X_solvedOneEach_40
theorem d_X_each_0 : decode b_X_each 0 = .ok (.iload_n 1, 1) := by decide +kernel
theorem d_X_each_1 : decode b_X_each 1 = .ok (.iconst (-1), 1) := by decide +kernel
theorem d_X_each_2 : decode b_X_each 2 = .ok (.if_icmp .ne 11, 3) := by decide +kernel
theorem d_X_each_5 : decode b_X_each 5 = .ok (.aload_n 0, 1) := by decide +kernel
theorem d_X_each_6 : decode b_X_each 6 = .ok (.invokevirtual 201, 3) := by decide +kernel
theorem d_X_each_9 : decode b_X_each 9 = .ok (.getfield 205, 3) := by decide +kernel
theorem d_X_each_12 : decode b_X_each 12 = .ok (.ireturn, 1) := by decide +kernel
theorem d_X_each_13 : decode b_X_each 13 = .ok (.iload_n 1, 1) := by decide +kernel
theorem d_X_each_14 : decode b_X_each 14 = .ok (.invokestatic 91, 3) := by decide +kernel
theorem d_X_each_17 : decode b_X_each 17 = .ok (.ifCond .ne 6, 3) := by decide +kernel
theorem d_X_each_20 : decode b_X_each 20 = .ok (.bipush (-2), 2) := by decide +kernel
theorem d_X_each_22 : decode b_X_each 22 = .ok (.ireturn, 1) := by decide +kernel
theorem d_X_each_23 : decode b_X_each 23 = .ok (.aload_n 0, 1) := by decide +kernel
theorem d_X_each_24 : decode b_X_each 24 = .ok (.invokevirtual 201, 3) := by decide +kernel
theorem d_X_each_27 : decode b_X_each 27 = .ok (.getfield 208, 3) := by decide +kernel
theorem d_X_each_30 : decode b_X_each 30 = .ok (.iload_n 1, 1) := by decide +kernel
theorem d_X_each_31 : decode b_X_each 31 = .ok (.iaload, 1) := by decide +kernel
theorem d_X_each_32 : decode b_X_each 32 = .ok (.ireturn, 1) := by decide +kernel
noncomputable def X_each (S : St) (x1 : Int32) : Option (Int32 × St) :=
  if x1 = (-1) then
      bnd (X_solvedOneEach S) fun z2 =>
      some (z2 39 3, z2)
    else
      if (X_isBidder x1) = 0 then
        some ((-2), S)
      else
        bnd (X_solvedOneEach S) fun z1 =>
        chk (inb x1 5) <|
        some (z1 41 (ix x1), z1)
set_option maxHeartbeats 4000000 in
set_option maxRecDepth 100000 in
theorem c_X_each (l : Launch) (w : gw) (S : St) (x1 : Int32)  {z : Int32 × St} (h : (X_each S x1) = some z) : gMi l w y_X_each b_X_each 2 (some .int) (rmm 4 101) [.ref (gad w 0), .int x1] S z.1 z.2 := by
  unfold X_each at h
  refine g_met (Qc := gQi w z.1 z.2) (by decide +kernel) (Nat.le_of_ble_eq_true rfl) ?_
  intro p e s m args below meth c A Q ls hQ C hG hl
  have hx := C.1
  have hb := C.2.1
  have hl : lv_has ls 2 [(0, .ref (gad w 0)), (1, .int x1)] := hl
  refine lv_iload_n hx hb d_X_each_0 rfl (lv_at hl 1 rfl) ?_
  refine lv_iconst (v := (-1)) hx hb d_X_each_1 (by decide) ?_
  refine lv_icmp_ne (tgt := 13) hx hb d_X_each_2 (by decide) (fun hc => ?_) (fun hc => ?_)
  · replace h := it_f h hc
    refine lv_iload_n hx hb d_X_each_13 rfl (lv_at hl 1 rfl) ?_
    refine g_goi hG (g_runS (As := [.int x1]) (rest := []) C hG (c_X_isBidder l w S x1 _) sw_X_91 rfl rfl ⟨by decide, by decide⟩ rfl hl.1 rfl (Nat.le_of_ble_eq_true rfl) d_X_each_14 ⟨Nat.zero_le _, Nat.zero_le _⟩) (fun H locs hG => ?_)
    refine lv_if_ne (tgt := 23) hx hb d_X_each_17 (by decide) (fun hc => ?_) (fun hc => ?_)
    · replace h := it_f h hc
      refine lv_aload_n hx hb d_X_each_23 rfl (lv_at hl 0 rfl) ?_
      obtain ⟨z1, hz1, h⟩ := bnd_some h
      refine g_gor hG (g_runV (As := []) (rest := []) C hG (c_X_solvedOneEach l w S hz1 _) (hG.lt (Nat.le_of_ble_eq_true rfl)) (ce0 w _) rfl vw_X_201 rfl rfl ⟨by decide, by decide⟩ rfl hl.1 rfl (Nat.le_of_ble_eq_true rfl) d_X_each_24 ⟨Nat.zero_le _, Nat.zero_le _⟩) (fun H locs hG => ?_)
      refine g_get C hG (hG.lt (Nat.le_of_ble_eq_true rfl)) (ce39 w _) rfl inC2 1 (Nat.le_of_ble_eq_true rfl) qw139 rfl d_X_each_27 ?_
      refine lv_iload_n hx hb d_X_each_30 rfl (lv_at hl 1 rfl) ?_
      obtain ⟨hi1, h⟩ := chk_some h
      refine g_iald (j := ix x1) C hG (hG.lt (Nat.le_of_ble_eq_true rfl)) (ce41 w _) (inb_in hi1) rfl d_X_each_31 ?_
      exact g_iret C hG (sm_fst h) (sm_snd h) hQ d_X_each_32
    · replace h := it_t h hc
      refine lv_bipush (v := (-2)) hx hb d_X_each_20 (by decide) ?_
      exact g_iret C hG (sm_fst h) (sm_snd h) hQ d_X_each_22
  · replace h := it_t h hc
    refine lv_aload_n hx hb d_X_each_5 rfl (lv_at hl 0 rfl) ?_
    obtain ⟨z2, hz2, h⟩ := bnd_some h
    refine g_gor hG (g_runV (As := []) (rest := []) C hG (c_X_solvedOneEach l w S hz2 _) (hG.lt (Nat.le_of_ble_eq_true rfl)) (ce0 w _) rfl vw_X_201 rfl rfl ⟨by decide, by decide⟩ rfl hl.1 rfl (Nat.le_of_ble_eq_true rfl) d_X_each_6 ⟨Nat.zero_le _, Nat.zero_le _⟩) (fun H locs hG => ?_)
    refine g_get C hG (hG.lt (Nat.le_of_ble_eq_true rfl)) (ce39 w _) rfl inC2 3 (Nat.le_of_ble_eq_true rfl) qw143 rfl d_X_each_9 ?_
    exact g_iret C hG (sm_fst h) (sm_snd h) hQ d_X_each_12
theorem d_X_pays_0 : decode b_X_pays 0 = .ok (.iload_n 1, 1) := by decide +kernel
theorem d_X_pays_1 : decode b_X_pays 1 = .ok (.invokestatic 91, 3) := by decide +kernel
theorem d_X_pays_4 : decode b_X_pays 4 = .ok (.ifCond .ne 6, 3) := by decide +kernel
theorem d_X_pays_7 : decode b_X_pays 7 = .ok (.bipush (-2), 2) := by decide +kernel
theorem d_X_pays_9 : decode b_X_pays 9 = .ok (.ireturn, 1) := by decide +kernel
theorem d_X_pays_10 : decode b_X_pays 10 = .ok (.aload_n 0, 1) := by decide +kernel
theorem d_X_pays_11 : decode b_X_pays 11 = .ok (.invokevirtual 201, 3) := by decide +kernel
theorem d_X_pays_14 : decode b_X_pays 14 = .ok (.astore_n 2, 1) := by decide +kernel
theorem d_X_pays_15 : decode b_X_pays 15 = .ok (.aload_n 2, 1) := by decide +kernel
theorem d_X_pays_16 : decode b_X_pays 16 = .ok (.getfield 205, 3) := by decide +kernel
theorem d_X_pays_19 : decode b_X_pays 19 = .ok (.aload_n 0, 1) := by decide +kernel
theorem d_X_pays_20 : decode b_X_pays 20 = .ok (.getfield 10, 3) := by decide +kernel
theorem d_X_pays_23 : decode b_X_pays 23 = .ok (.iload_n 1, 1) := by decide +kernel
theorem d_X_pays_24 : decode b_X_pays 24 = .ok (.aload_n 2, 1) := by decide +kernel
theorem d_X_pays_25 : decode b_X_pays 25 = .ok (.getfield 208, 3) := by decide +kernel
theorem d_X_pays_28 : decode b_X_pays 28 = .ok (.iload_n 1, 1) := by decide +kernel
theorem d_X_pays_29 : decode b_X_pays 29 = .ok (.iaload, 1) := by decide +kernel
theorem d_X_pays_30 : decode b_X_pays 30 = .ok (.invokevirtual 211, 3) := by decide +kernel
theorem d_X_pays_33 : decode b_X_pays 33 = .ok (.isub, 1) := by decide +kernel
theorem d_X_pays_34 : decode b_X_pays 34 = .ok (.istore_n 3, 1) := by decide +kernel
theorem d_X_pays_35 : decode b_X_pays 35 = .ok (.aload_n 2, 1) := by decide +kernel
theorem d_X_pays_36 : decode b_X_pays 36 = .ok (.getfield 214, 3) := by decide +kernel
theorem d_X_pays_39 : decode b_X_pays 39 = .ok (.iload_n 1, 1) := by decide +kernel
theorem d_X_pays_40 : decode b_X_pays 40 = .ok (.iaload, 1) := by decide +kernel
theorem d_X_pays_41 : decode b_X_pays 41 = .ok (.iload_n 3, 1) := by decide +kernel
theorem d_X_pays_42 : decode b_X_pays 42 = .ok (.isub, 1) := by decide +kernel
theorem d_X_pays_43 : decode b_X_pays 43 = .ok (.ireturn, 1) := by decide +kernel
noncomputable def X_pays (S : St) (x1 : Int32) : Option (Int32 × St) :=
  if (X_isBidder x1) = 0 then
      some ((-2), S)
    else
      bnd (X_solvedOneEach S) fun z1 =>
      chk (inb x1 5) <|
      bnd (TW_valueTo z1 x1 (z1 41 (ix x1))) fun z2 =>
      chk (inb x1 5) <|
      some ((z1 42 (ix x1)) - ((z1 39 3) - z2), z1)
set_option maxHeartbeats 4000000 in
set_option maxRecDepth 100000 in
theorem c_X_pays (l : Launch) (w : gw) (S : St) (x1 : Int32)  {z : Int32 × St} (h : (X_pays S x1) = some z) : gMi l w y_X_pays b_X_pays 4 (some .int) (rmm 4 101) [.ref (gad w 0), .int x1] S z.1 z.2 := by
  unfold X_pays at h
  refine g_met (Qc := gQi w z.1 z.2) (by decide +kernel) (Nat.le_of_ble_eq_true rfl) ?_
  intro p e s m args below meth c A Q ls hQ C hG hl
  have hx := C.1
  have hb := C.2.1
  have hl : lv_has ls 4 [(0, .ref (gad w 0)), (1, .int x1)] := hl
  refine lv_iload_n hx hb d_X_pays_0 rfl (lv_at hl 1 rfl) ?_
  refine g_goi hG (g_runS (As := [.int x1]) (rest := []) C hG (c_X_isBidder l w S x1 _) sw_X_91 rfl rfl ⟨by decide, by decide⟩ rfl hl.1 rfl (Nat.le_of_ble_eq_true rfl) d_X_pays_1 ⟨Nat.zero_le _, Nat.zero_le _⟩) (fun H locs hG => ?_)
  refine lv_if_ne (tgt := 10) hx hb d_X_pays_4 (by decide) (fun hc => ?_) (fun hc => ?_)
  · replace h := it_f h hc
    refine lv_aload_n hx hb d_X_pays_10 rfl (lv_at hl 0 rfl) ?_
    obtain ⟨z1, hz1, h⟩ := bnd_some h
    refine g_gor hG (g_runV (As := []) (rest := []) C hG (c_X_solvedOneEach l w S hz1 _) (hG.lt (Nat.le_of_ble_eq_true rfl)) (ce0 w _) rfl vw_X_201 rfl rfl ⟨by decide, by decide⟩ rfl hl.1 rfl (Nat.le_of_ble_eq_true rfl) d_X_pays_11 ⟨Nat.zero_le _, Nat.zero_le _⟩) (fun H locs hG => ?_)
    refine lv_astore_n (lv' := [(2, .ref (gad w 39)), (0, .ref (gad w 0)), (1, .int x1)]) hx hb d_X_pays_14 rfl hl (by decide) rfl (fun ls hl => ?_)
    refine lv_aload_n hx hb d_X_pays_15 rfl (lv_at hl 0 rfl) ?_
    refine g_get C hG (hG.lt (Nat.le_of_ble_eq_true rfl)) (ce39 w _) rfl inC2 3 (Nat.le_of_ble_eq_true rfl) qw143 rfl d_X_pays_16 ?_
    refine lv_aload_n hx hb d_X_pays_19 rfl (lv_at hl 1 rfl) ?_
    refine g_get C hG (hG.lt (Nat.le_of_ble_eq_true rfl)) (ce0 w _) rfl inC7 0 (Nat.le_of_ble_eq_true rfl) qw199 rfl d_X_pays_20 ?_
    refine lv_iload_n hx hb d_X_pays_23 rfl (lv_at hl 2 rfl) ?_
    refine lv_aload_n hx hb d_X_pays_24 rfl (lv_at hl 0 rfl) ?_
    refine g_get C hG (hG.lt (Nat.le_of_ble_eq_true rfl)) (ce39 w _) rfl inC2 1 (Nat.le_of_ble_eq_true rfl) qw139 rfl d_X_pays_25 ?_
    refine lv_iload_n hx hb d_X_pays_28 rfl (lv_at hl 2 rfl) ?_
    obtain ⟨hi1, h⟩ := chk_some h
    refine g_iald (j := ix x1) C hG (hG.lt (Nat.le_of_ble_eq_true rfl)) (ce41 w _) (inb_in hi1) rfl d_X_pays_29 ?_
    obtain ⟨z2, hz2, h⟩ := bnd_some h
    refine g_goi hG (g_runV (As := [.int x1, .int (z1 41 (ix x1))]) (rest := [.int (z1 39 3)]) C hG (c_TW_valueTo l w z1 x1 (z1 41 (ix x1)) hz2 _) (hG.lt (Nat.le_of_ble_eq_true rfl)) (ce1 w _) rfl vw_X_211 rfl rfl ⟨by decide, by decide⟩ rfl hl.1 rfl (Nat.le_of_ble_eq_true rfl) d_X_pays_30 ⟨Nat.zero_le _, Nat.zero_le _⟩) (fun H locs hG => ?_)
    refine lv_isub hx hb d_X_pays_33 ?_
    refine lv_istore_n (lv' := [(3, .int ((z1 39 3) - z2)), (2, .ref (gad w 39)), (0, .ref (gad w 0)), (1, .int x1)]) hx hb d_X_pays_34 rfl hl (by decide) rfl (fun ls hl => ?_)
    refine lv_aload_n hx hb d_X_pays_35 rfl (lv_at hl 1 rfl) ?_
    refine g_get C hG (hG.lt (Nat.le_of_ble_eq_true rfl)) (ce39 w _) rfl inC2 2 (Nat.le_of_ble_eq_true rfl) qw141 rfl d_X_pays_36 ?_
    refine lv_iload_n hx hb d_X_pays_39 rfl (lv_at hl 3 rfl) ?_
    obtain ⟨hi2, h⟩ := chk_some h
    refine g_iald (j := ix x1) C hG (hG.lt (Nat.le_of_ble_eq_true rfl)) (ce42 w _) (inb_in hi2) rfl d_X_pays_40 ?_
    refine lv_iload_n hx hb d_X_pays_41 rfl (lv_at hl 0 rfl) ?_
    refine lv_isub hx hb d_X_pays_42 ?_
    exact g_iret C hG (sm_fst h) (sm_snd h) hQ d_X_pays_43
  · replace h := it_t h hc
    refine lv_bipush (v := (-2)) hx hb d_X_pays_7 (by decide) ?_
    exact g_iret C hG (sm_fst h) (sm_snd h) hQ d_X_pays_9
theorem d_X_digestOfBidders_0 : decode b_X_digestOfBidders 0 = .ok (.lload_n 1, 1) := by decide +kernel
theorem d_X_digestOfBidders_1 : decode b_X_digestOfBidders 1 = .ok (.lstore_n 3, 1) := by decide +kernel
theorem d_X_digestOfBidders_2 : decode b_X_digestOfBidders 2 = .ok (.iconst 0, 1) := by decide +kernel
theorem d_X_digestOfBidders_3 : decode b_X_digestOfBidders 3 = .ok (.istore 5, 2) := by decide +kernel
theorem d_X_digestOfBidders_5 : decode b_X_digestOfBidders 5 = .ok (.iload 5, 2) := by decide +kernel
theorem d_X_digestOfBidders_7 : decode b_X_digestOfBidders 7 = .ok (.iconst 5, 1) := by decide +kernel
theorem d_X_digestOfBidders_8 : decode b_X_digestOfBidders 8 = .ok (.if_icmp .ge 140, 3) := by decide +kernel
theorem d_X_digestOfBidders_11 : decode b_X_digestOfBidders 11 = .ok (.iconst 0, 1) := by decide +kernel
theorem d_X_digestOfBidders_12 : decode b_X_digestOfBidders 12 = .ok (.istore 6, 2) := by decide +kernel
theorem d_X_digestOfBidders_14 : decode b_X_digestOfBidders 14 = .ok (.iload 6, 2) := by decide +kernel
theorem d_X_digestOfBidders_16 : decode b_X_digestOfBidders 16 = .ok (.iconst 2, 1) := by decide +kernel
theorem d_X_digestOfBidders_17 : decode b_X_digestOfBidders 17 = .ok (.if_icmp .gt 25, 3) := by decide +kernel
theorem d_X_digestOfBidders_20 : decode b_X_digestOfBidders 20 = .ok (.ldc2_w 291, 3) := by decide +kernel
theorem d_X_digestOfBidders_23 : decode b_X_digestOfBidders 23 = .ok (.lload_n 3, 1) := by decide +kernel
theorem d_X_digestOfBidders_24 : decode b_X_digestOfBidders 24 = .ok (.lmul, 1) := by decide +kernel
theorem d_X_digestOfBidders_25 : decode b_X_digestOfBidders 25 = .ok (.aload_n 0, 1) := by decide +kernel
theorem d_X_digestOfBidders_26 : decode b_X_digestOfBidders 26 = .ok (.iload 5, 2) := by decide +kernel
theorem d_X_digestOfBidders_28 : decode b_X_digestOfBidders 28 = .ok (.iload 6, 2) := by decide +kernel
theorem d_X_digestOfBidders_30 : decode b_X_digestOfBidders 30 = .ok (.invokevirtual 346, 3) := by decide +kernel
theorem d_X_digestOfBidders_33 : decode b_X_digestOfBidders 33 = .ok (.i2l, 1) := by decide +kernel
theorem d_X_digestOfBidders_34 : decode b_X_digestOfBidders 34 = .ok (.ladd, 1) := by decide +kernel
theorem d_X_digestOfBidders_35 : decode b_X_digestOfBidders 35 = .ok (.lstore_n 3, 1) := by decide +kernel
theorem d_X_digestOfBidders_36 : decode b_X_digestOfBidders 36 = .ok (.iinc 6 1, 3) := by decide +kernel
theorem d_X_digestOfBidders_39 : decode b_X_digestOfBidders 39 = .ok (.goto (-25), 3) := by decide +kernel
theorem d_X_digestOfBidders_42 : decode b_X_digestOfBidders 42 = .ok (.ldc2_w 291, 3) := by decide +kernel
theorem d_X_digestOfBidders_45 : decode b_X_digestOfBidders 45 = .ok (.lload_n 3, 1) := by decide +kernel
theorem d_X_digestOfBidders_46 : decode b_X_digestOfBidders 46 = .ok (.lmul, 1) := by decide +kernel
theorem d_X_digestOfBidders_47 : decode b_X_digestOfBidders 47 = .ok (.aload_n 0, 1) := by decide +kernel
theorem d_X_digestOfBidders_48 : decode b_X_digestOfBidders 48 = .ok (.iload 5, 2) := by decide +kernel
theorem d_X_digestOfBidders_50 : decode b_X_digestOfBidders 50 = .ok (.invokevirtual 349, 3) := by decide +kernel
theorem d_X_digestOfBidders_53 : decode b_X_digestOfBidders 53 = .ok (.i2l, 1) := by decide +kernel
theorem d_X_digestOfBidders_54 : decode b_X_digestOfBidders 54 = .ok (.ladd, 1) := by decide +kernel
theorem d_X_digestOfBidders_55 : decode b_X_digestOfBidders 55 = .ok (.lstore_n 3, 1) := by decide +kernel
theorem d_X_digestOfBidders_56 : decode b_X_digestOfBidders 56 = .ok (.ldc2_w 291, 3) := by decide +kernel
theorem d_X_digestOfBidders_59 : decode b_X_digestOfBidders 59 = .ok (.lload_n 3, 1) := by decide +kernel
theorem d_X_digestOfBidders_60 : decode b_X_digestOfBidders 60 = .ok (.lmul, 1) := by decide +kernel
theorem d_X_digestOfBidders_61 : decode b_X_digestOfBidders 61 = .ok (.aload_n 0, 1) := by decide +kernel
theorem d_X_digestOfBidders_62 : decode b_X_digestOfBidders 62 = .ok (.iload 5, 2) := by decide +kernel
theorem d_X_digestOfBidders_64 : decode b_X_digestOfBidders 64 = .ok (.bipush 7, 2) := by decide +kernel
theorem d_X_digestOfBidders_66 : decode b_X_digestOfBidders 66 = .ok (.invokevirtual 352, 3) := by decide +kernel
theorem d_X_digestOfBidders_69 : decode b_X_digestOfBidders 69 = .ok (.i2l, 1) := by decide +kernel
theorem d_X_digestOfBidders_70 : decode b_X_digestOfBidders 70 = .ok (.ladd, 1) := by decide +kernel
theorem d_X_digestOfBidders_71 : decode b_X_digestOfBidders 71 = .ok (.lstore_n 3, 1) := by decide +kernel
theorem d_X_digestOfBidders_72 : decode b_X_digestOfBidders 72 = .ok (.ldc2_w 291, 3) := by decide +kernel
theorem d_X_digestOfBidders_75 : decode b_X_digestOfBidders 75 = .ok (.lload_n 3, 1) := by decide +kernel
theorem d_X_digestOfBidders_76 : decode b_X_digestOfBidders 76 = .ok (.lmul, 1) := by decide +kernel
theorem d_X_digestOfBidders_77 : decode b_X_digestOfBidders 77 = .ok (.aload_n 0, 1) := by decide +kernel
theorem d_X_digestOfBidders_78 : decode b_X_digestOfBidders 78 = .ok (.iload 5, 2) := by decide +kernel
theorem d_X_digestOfBidders_80 : decode b_X_digestOfBidders 80 = .ok (.invokevirtual 355, 3) := by decide +kernel
theorem d_X_digestOfBidders_83 : decode b_X_digestOfBidders 83 = .ok (.i2l, 1) := by decide +kernel
theorem d_X_digestOfBidders_84 : decode b_X_digestOfBidders 84 = .ok (.ladd, 1) := by decide +kernel
theorem d_X_digestOfBidders_85 : decode b_X_digestOfBidders 85 = .ok (.lstore_n 3, 1) := by decide +kernel
theorem d_X_digestOfBidders_86 : decode b_X_digestOfBidders 86 = .ok (.ldc2_w 291, 3) := by decide +kernel
theorem d_X_digestOfBidders_89 : decode b_X_digestOfBidders 89 = .ok (.lload_n 3, 1) := by decide +kernel
theorem d_X_digestOfBidders_90 : decode b_X_digestOfBidders 90 = .ok (.lmul, 1) := by decide +kernel
theorem d_X_digestOfBidders_91 : decode b_X_digestOfBidders 91 = .ok (.aload_n 0, 1) := by decide +kernel
theorem d_X_digestOfBidders_92 : decode b_X_digestOfBidders 92 = .ok (.iload 5, 2) := by decide +kernel
theorem d_X_digestOfBidders_94 : decode b_X_digestOfBidders 94 = .ok (.invokevirtual 312, 3) := by decide +kernel
theorem d_X_digestOfBidders_97 : decode b_X_digestOfBidders 97 = .ok (.i2l, 1) := by decide +kernel
theorem d_X_digestOfBidders_98 : decode b_X_digestOfBidders 98 = .ok (.ladd, 1) := by decide +kernel
theorem d_X_digestOfBidders_99 : decode b_X_digestOfBidders 99 = .ok (.lstore_n 3, 1) := by decide +kernel
theorem d_X_digestOfBidders_100 : decode b_X_digestOfBidders 100 = .ok (.ldc2_w 291, 3) := by decide +kernel
theorem d_X_digestOfBidders_103 : decode b_X_digestOfBidders 103 = .ok (.lload_n 3, 1) := by decide +kernel
theorem d_X_digestOfBidders_104 : decode b_X_digestOfBidders 104 = .ok (.lmul, 1) := by decide +kernel
theorem d_X_digestOfBidders_105 : decode b_X_digestOfBidders 105 = .ok (.aload_n 0, 1) := by decide +kernel
theorem d_X_digestOfBidders_106 : decode b_X_digestOfBidders 106 = .ok (.iload 5, 2) := by decide +kernel
theorem d_X_digestOfBidders_108 : decode b_X_digestOfBidders 108 = .ok (.invokevirtual 358, 3) := by decide +kernel
theorem d_X_digestOfBidders_111 : decode b_X_digestOfBidders 111 = .ok (.i2l, 1) := by decide +kernel
theorem d_X_digestOfBidders_112 : decode b_X_digestOfBidders 112 = .ok (.ladd, 1) := by decide +kernel
theorem d_X_digestOfBidders_113 : decode b_X_digestOfBidders 113 = .ok (.lstore_n 3, 1) := by decide +kernel
theorem d_X_digestOfBidders_114 : decode b_X_digestOfBidders 114 = .ok (.ldc2_w 291, 3) := by decide +kernel
theorem d_X_digestOfBidders_117 : decode b_X_digestOfBidders 117 = .ok (.lload_n 3, 1) := by decide +kernel
theorem d_X_digestOfBidders_118 : decode b_X_digestOfBidders 118 = .ok (.lmul, 1) := by decide +kernel
theorem d_X_digestOfBidders_119 : decode b_X_digestOfBidders 119 = .ok (.aload_n 0, 1) := by decide +kernel
theorem d_X_digestOfBidders_120 : decode b_X_digestOfBidders 120 = .ok (.iload 5, 2) := by decide +kernel
theorem d_X_digestOfBidders_122 : decode b_X_digestOfBidders 122 = .ok (.iconst 0, 1) := by decide +kernel
theorem d_X_digestOfBidders_123 : decode b_X_digestOfBidders 123 = .ok (.invokevirtual 361, 3) := by decide +kernel
theorem d_X_digestOfBidders_126 : decode b_X_digestOfBidders 126 = .ok (.ladd, 1) := by decide +kernel
theorem d_X_digestOfBidders_127 : decode b_X_digestOfBidders 127 = .ok (.lstore_n 3, 1) := by decide +kernel
theorem d_X_digestOfBidders_128 : decode b_X_digestOfBidders 128 = .ok (.ldc2_w 291, 3) := by decide +kernel
theorem d_X_digestOfBidders_131 : decode b_X_digestOfBidders 131 = .ok (.lload_n 3, 1) := by decide +kernel
theorem d_X_digestOfBidders_132 : decode b_X_digestOfBidders 132 = .ok (.lmul, 1) := by decide +kernel
theorem d_X_digestOfBidders_133 : decode b_X_digestOfBidders 133 = .ok (.aload_n 0, 1) := by decide +kernel
theorem d_X_digestOfBidders_134 : decode b_X_digestOfBidders 134 = .ok (.iload 5, 2) := by decide +kernel
theorem d_X_digestOfBidders_136 : decode b_X_digestOfBidders 136 = .ok (.iconst 1, 1) := by decide +kernel
theorem d_X_digestOfBidders_137 : decode b_X_digestOfBidders 137 = .ok (.invokevirtual 361, 3) := by decide +kernel
theorem d_X_digestOfBidders_140 : decode b_X_digestOfBidders 140 = .ok (.ladd, 1) := by decide +kernel
theorem d_X_digestOfBidders_141 : decode b_X_digestOfBidders 141 = .ok (.lstore_n 3, 1) := by decide +kernel
theorem d_X_digestOfBidders_142 : decode b_X_digestOfBidders 142 = .ok (.iinc 5 1, 3) := by decide +kernel
theorem d_X_digestOfBidders_145 : decode b_X_digestOfBidders 145 = .ok (.goto (-140), 3) := by decide +kernel
theorem d_X_digestOfBidders_148 : decode b_X_digestOfBidders 148 = .ok (.lload_n 3, 1) := by decide +kernel
theorem d_X_digestOfBidders_149 : decode b_X_digestOfBidders 149 = .ok (.lreturn, 1) := by decide +kernel
noncomputable def X_digestOfBidders_L14 (S : St) (x3 : Int64) (x5 : Int32) (x6 : Int32) : Option ((Int64 × Int32 × St) × Nat) :=
  if 2 < x6 then
      some ((x3, x6, S), 1)
    else
      bnd (X_has S x5 x6) fun z1 =>
      some (((31 * x3) + z1.1.toInt64, x6 + 1, z1.2), 0)
noncomputable def X_digestOfBidders_J42 (S : St) (x3 : Int64) (x5 : Int32) : Option ((Int64 × Int32 × St) × Nat) :=
  bnd (X_happy S x5) fun z2 =>
    bnd (X_wet z2.2 x5 7) fun z3 =>
    bnd (X_gain z3.2 x5) fun z4 =>
    bnd (X_each z4.2 x5) fun z5 =>
    bnd (X_pays z5.2 x5) fun z6 =>
    bnd (X_share z6.2 x5 0) fun z7 =>
    bnd (X_share z7.2 x5 1) fun z8 =>
    some (((31 * ((31 * ((31 * ((31 * ((31 * ((31 * ((31 * x3) + z2.1.toInt64)) + z3.1.toInt64)) + z4.1.toInt64)) + z5.1.toInt64)) + z6.1.toInt64)) + z7.1)) + z8.1, x5 + 1, z8.2), 0)
noncomputable def X_digestOfBidders_L5 (S : St) (x3 : Int64) (x5 : Int32) : Option ((Int64 × Int32 × St) × Nat) :=
  if 5 ≤ x5 then
      some ((x3, x5, S), 1)
    else
      bnd (lp (σ := Int64 × Int32 × St) (fun q => X_digestOfBidders_L14 q.2.2 q.1 x5 q.2.1) FZ (x3, 0, S)) fun z9 =>
      X_digestOfBidders_J42 z9.1.2.2 z9.1.1 x5
noncomputable def X_digestOfBidders_J148 (S : St) (x3 : Int64) : Option (Int64 × St) :=
  some (x3, S)
noncomputable def X_digestOfBidders (S : St) (x1 : Int64) : Option (Int64 × St) :=
  bnd (lp (σ := Int64 × Int32 × St) (fun q => X_digestOfBidders_L5 q.2.2 q.1 q.2.1) FZ (x1, 0, S)) fun z10 =>
    X_digestOfBidders_J148 z10.1.2.2 z10.1.1
set_option maxHeartbeats 4000000 in
set_option maxRecDepth 100000 in
theorem L_X_digestOfBidders_14 (C : gCx p s m args meth c y_X_digestOfBidders.cls b_X_digestOfBidders 7 (some .long)) : ∀ (x5 : Int32) (n : Nat) (x3 : Int64) (x6 : Int32) (S : St) (r : (Int64 × Int32 × St) × Nat), lp (σ := Int64 × Int32 × St) (fun q => X_digestOfBidders_L14 q.2.2 q.1 x5 q.2.1) n (x3, x6, S) = some r → (∀ (y3 : Int64) (y6 : Int32) (Sy : St), r = ((y3, y6, Sy), 1) → ∀ (ls : Array Slot) (H : Heap) (locs : List Loc), GH w s A Sy H locs → lv_has ls 7 [(0, .ref (gad w 0)), (3, .long y3), (5, .int x5)] → W p l e (rmm 5 124) s m args below meth c H locs 0 0 Q (F0 m 42 ls [])) → ∀ (ls : Array Slot) (H : Heap) (locs : List Loc), GH w s A S H locs → lv_has ls 7 [(0, .ref (gad w 0)), (3, .long x3), (5, .int x5), (6, .int x6)] → W p l e (rmm 5 124) s m args below meth c H locs 0 0 Q (F0 m 14 ls []) := by
  have hx := C.1
  have hb := C.2.1
  intro x5 n
  induction n with
  | zero => intro x3 x6 S r h; cases h
  | succ n ih =>
    intro x3 x6 S r h k1 ls H locs hG hl
    obtain ⟨z, h, hr⟩ := lp_succ h
    have h : X_digestOfBidders_L14 S x3 x5 x6 = some z := h
    unfold X_digestOfBidders_L14 at h
    refine lv_iload hx hb d_X_digestOfBidders_14 (lv_at hl 3 rfl) ?_
    refine lv_iconst (v := 2) hx hb d_X_digestOfBidders_16 (by decide) ?_
    refine lv_icmp_gt (tgt := 42) hx hb d_X_digestOfBidders_17 (by decide) (fun hc => ?_) (fun hc => ?_)
    · replace h := it_t h hc
      exact k1 _ _ _ (lp_exit h hr) ls _ _ hG (lv_sub hl [0, 1, 2] rfl)
    · replace h := it_f h hc
      refine lv_ldc2 (v := 31) hx hb C.2.2.2.1 (C.2.2.2.2.1 _ qw637) d_X_digestOfBidders_20 ?_
      refine lv_lload_n hx hb d_X_digestOfBidders_23 rfl (lv_at hl 1 rfl) ?_
      refine lv_lmul hx hb d_X_digestOfBidders_24 ?_
      refine lv_aload_n hx hb d_X_digestOfBidders_25 rfl (lv_at hl 0 rfl) ?_
      refine lv_iload hx hb d_X_digestOfBidders_26 (lv_at hl 2 rfl) ?_
      refine lv_iload hx hb d_X_digestOfBidders_28 (lv_at hl 3 rfl) ?_
      obtain ⟨z1, hz1, h⟩ := bnd_some h
      refine g_goi hG (g_runV (As := [.int x5, .int x6]) (rest := [.long (31 * x3)]) C hG (c_X_has l w S x5 x6 hz1 _) (hG.lt (Nat.le_of_ble_eq_true rfl)) (ce0 w _) rfl vw_X_346 rfl rfl ⟨by decide, by decide⟩ rfl hl.1 rfl (Nat.le_of_ble_eq_true rfl) d_X_digestOfBidders_30 ⟨Nat.zero_le _, Nat.zero_le _⟩) (fun H locs hG => ?_)
      refine lv_i2l (v := z1.1.toInt64) hx hb d_X_digestOfBidders_33 rfl ?_
      refine lv_ladd hx hb d_X_digestOfBidders_34 ?_
      refine lv_lstore_n (lv' := [(3, .long ((31 * x3) + z1.1.toInt64)), (0, .ref (gad w 0)), (5, .int x5), (6, .int x6)]) hx hb d_X_digestOfBidders_35 rfl hl (by decide) rfl (fun ls hl => ?_)
      refine lv_iinc (v := x6 + 1) (lv' := [(6, .int (x6 + 1)), (3, .long ((31 * x3) + z1.1.toInt64)), (0, .ref (gad w 0)), (5, .int x5)]) hx hb d_X_digestOfBidders_36 hl (k := 3) rfl (congrArg (HAdd.hAdd x6) (by decide : Int32.ofInt 1 = 1)) (by decide) rfl (fun ls hl => ?_)
      refine lv_goto (tgt := 14) hx hb d_X_digestOfBidders_39 (by decide) ?_
      exact ih _ _ _ _ (lp_back h hr) k1 ls _ _ hG (lv_sub hl [2, 1, 3, 0] rfl)
set_option maxHeartbeats 4000000 in
set_option maxRecDepth 100000 in
theorem L_X_digestOfBidders_5 (C : gCx p s m args meth c y_X_digestOfBidders.cls b_X_digestOfBidders 7 (some .long)) : ∀ (n : Nat) (x3 : Int64) (x5 : Int32) (S : St) (r : (Int64 × Int32 × St) × Nat), lp (σ := Int64 × Int32 × St) (fun q => X_digestOfBidders_L5 q.2.2 q.1 q.2.1) n (x3, x5, S) = some r → (∀ (y3 : Int64) (y5 : Int32) (Sy : St), r = ((y3, y5, Sy), 1) → ∀ (ls : Array Slot) (H : Heap) (locs : List Loc), GH w s A Sy H locs → lv_has ls 7 [(3, .long y3)] → W p l e (rmm 5 124) s m args below meth c H locs 0 0 Q (F0 m 148 ls [])) → ∀ (ls : Array Slot) (H : Heap) (locs : List Loc), GH w s A S H locs → lv_has ls 7 [(0, .ref (gad w 0)), (3, .long x3), (5, .int x5)] → W p l e (rmm 5 124) s m args below meth c H locs 0 0 Q (F0 m 5 ls []) := by
  have hx := C.1
  have hb := C.2.1
  intro n
  induction n with
  | zero => intro x3 x5 S r h; cases h
  | succ n ih =>
    intro x3 x5 S r h k1 ls H locs hG hl
    obtain ⟨z, h, hr⟩ := lp_succ h
    have h : X_digestOfBidders_L5 S x3 x5 = some z := h
    have J42 : ∀ (S : St) (x3 : Int64) (x5 : Int32), X_digestOfBidders_J42 S x3 x5 = some z → ∀ (ls : Array Slot) (H : Heap) (locs : List Loc), GH w s A S H locs → lv_has ls 7 [(0, .ref (gad w 0)), (3, .long x3), (5, .int x5)] → W p l e (rmm 5 124) s m args below meth c H locs 0 0 Q (F0 m 42 ls []) := by
      intro S x3 x5 h ls H locs hG hl
      unfold X_digestOfBidders_J42 at h
      refine lv_ldc2 (v := 31) hx hb C.2.2.2.1 (C.2.2.2.2.1 _ qw637) d_X_digestOfBidders_42 ?_
      refine lv_lload_n hx hb d_X_digestOfBidders_45 rfl (lv_at hl 1 rfl) ?_
      refine lv_lmul hx hb d_X_digestOfBidders_46 ?_
      refine lv_aload_n hx hb d_X_digestOfBidders_47 rfl (lv_at hl 0 rfl) ?_
      refine lv_iload hx hb d_X_digestOfBidders_48 (lv_at hl 2 rfl) ?_
      obtain ⟨z2, hz2, h⟩ := bnd_some h
      refine g_goi hG (g_runV (As := [.int x5]) (rest := [.long (31 * x3)]) C hG (c_X_happy l w S x5 hz2 _) (hG.lt (Nat.le_of_ble_eq_true rfl)) (ce0 w _) rfl vw_X_349 rfl rfl ⟨by decide, by decide⟩ rfl hl.1 rfl (Nat.le_of_ble_eq_true rfl) d_X_digestOfBidders_50 ⟨Nat.zero_le _, Nat.zero_le _⟩) (fun H locs hG => ?_)
      refine lv_i2l (v := z2.1.toInt64) hx hb d_X_digestOfBidders_53 rfl ?_
      refine lv_ladd hx hb d_X_digestOfBidders_54 ?_
      refine lv_lstore_n (lv' := [(3, .long ((31 * x3) + z2.1.toInt64)), (0, .ref (gad w 0)), (5, .int x5)]) hx hb d_X_digestOfBidders_55 rfl hl (by decide) rfl (fun ls hl => ?_)
      refine lv_ldc2 (v := 31) hx hb C.2.2.2.1 (C.2.2.2.2.1 _ qw637) d_X_digestOfBidders_56 ?_
      refine lv_lload_n hx hb d_X_digestOfBidders_59 rfl (lv_at hl 0 rfl) ?_
      refine lv_lmul hx hb d_X_digestOfBidders_60 ?_
      refine lv_aload_n hx hb d_X_digestOfBidders_61 rfl (lv_at hl 1 rfl) ?_
      refine lv_iload hx hb d_X_digestOfBidders_62 (lv_at hl 2 rfl) ?_
      refine lv_bipush (v := 7) hx hb d_X_digestOfBidders_64 (by decide) ?_
      obtain ⟨z3, hz3, h⟩ := bnd_some h
      refine g_goi hG (g_runV (As := [.int x5, .int 7]) (rest := [.long (31 * ((31 * x3) + z2.1.toInt64))]) C hG (c_X_wet l w z2.2 x5 7 hz3 _) (hG.lt (Nat.le_of_ble_eq_true rfl)) (ce0 w _) rfl vw_X_352 rfl rfl ⟨by decide, by decide⟩ rfl hl.1 rfl (Nat.le_of_ble_eq_true rfl) d_X_digestOfBidders_66 ⟨Nat.zero_le _, Nat.zero_le _⟩) (fun H locs hG => ?_)
      refine lv_i2l (v := z3.1.toInt64) hx hb d_X_digestOfBidders_69 rfl ?_
      refine lv_ladd hx hb d_X_digestOfBidders_70 ?_
      refine lv_lstore_n (lv' := [(3, .long ((31 * ((31 * x3) + z2.1.toInt64)) + z3.1.toInt64)), (0, .ref (gad w 0)), (5, .int x5)]) hx hb d_X_digestOfBidders_71 rfl hl (by decide) rfl (fun ls hl => ?_)
      refine lv_ldc2 (v := 31) hx hb C.2.2.2.1 (C.2.2.2.2.1 _ qw637) d_X_digestOfBidders_72 ?_
      refine lv_lload_n hx hb d_X_digestOfBidders_75 rfl (lv_at hl 0 rfl) ?_
      refine lv_lmul hx hb d_X_digestOfBidders_76 ?_
      refine lv_aload_n hx hb d_X_digestOfBidders_77 rfl (lv_at hl 1 rfl) ?_
      refine lv_iload hx hb d_X_digestOfBidders_78 (lv_at hl 2 rfl) ?_
      obtain ⟨z4, hz4, h⟩ := bnd_some h
      refine g_goi hG (g_runV (As := [.int x5]) (rest := [.long (31 * ((31 * ((31 * x3) + z2.1.toInt64)) + z3.1.toInt64))]) C hG (c_X_gain l w z3.2 x5 hz4 _) (hG.lt (Nat.le_of_ble_eq_true rfl)) (ce0 w _) rfl vw_X_355 rfl rfl ⟨by decide, by decide⟩ rfl hl.1 rfl (Nat.le_of_ble_eq_true rfl) d_X_digestOfBidders_80 ⟨Nat.zero_le _, Nat.zero_le _⟩) (fun H locs hG => ?_)
      refine lv_i2l (v := z4.1.toInt64) hx hb d_X_digestOfBidders_83 rfl ?_
      refine lv_ladd hx hb d_X_digestOfBidders_84 ?_
      refine lv_lstore_n (lv' := [(3, .long ((31 * ((31 * ((31 * x3) + z2.1.toInt64)) + z3.1.toInt64)) + z4.1.toInt64)), (0, .ref (gad w 0)), (5, .int x5)]) hx hb d_X_digestOfBidders_85 rfl hl (by decide) rfl (fun ls hl => ?_)
      refine lv_ldc2 (v := 31) hx hb C.2.2.2.1 (C.2.2.2.2.1 _ qw637) d_X_digestOfBidders_86 ?_
      refine lv_lload_n hx hb d_X_digestOfBidders_89 rfl (lv_at hl 0 rfl) ?_
      refine lv_lmul hx hb d_X_digestOfBidders_90 ?_
      refine lv_aload_n hx hb d_X_digestOfBidders_91 rfl (lv_at hl 1 rfl) ?_
      refine lv_iload hx hb d_X_digestOfBidders_92 (lv_at hl 2 rfl) ?_
      obtain ⟨z5, hz5, h⟩ := bnd_some h
      refine g_goi hG (g_runV (As := [.int x5]) (rest := [.long (31 * ((31 * ((31 * ((31 * x3) + z2.1.toInt64)) + z3.1.toInt64)) + z4.1.toInt64))]) C hG (c_X_each l w z4.2 x5 hz5 _) (hG.lt (Nat.le_of_ble_eq_true rfl)) (ce0 w _) rfl vw_X_312 rfl rfl ⟨by decide, by decide⟩ rfl hl.1 rfl (Nat.le_of_ble_eq_true rfl) d_X_digestOfBidders_94 ⟨Nat.zero_le _, Nat.zero_le _⟩) (fun H locs hG => ?_)
      refine lv_i2l (v := z5.1.toInt64) hx hb d_X_digestOfBidders_97 rfl ?_
      refine lv_ladd hx hb d_X_digestOfBidders_98 ?_
      refine lv_lstore_n (lv' := [(3, .long ((31 * ((31 * ((31 * ((31 * x3) + z2.1.toInt64)) + z3.1.toInt64)) + z4.1.toInt64)) + z5.1.toInt64)), (0, .ref (gad w 0)), (5, .int x5)]) hx hb d_X_digestOfBidders_99 rfl hl (by decide) rfl (fun ls hl => ?_)
      refine lv_ldc2 (v := 31) hx hb C.2.2.2.1 (C.2.2.2.2.1 _ qw637) d_X_digestOfBidders_100 ?_
      refine lv_lload_n hx hb d_X_digestOfBidders_103 rfl (lv_at hl 0 rfl) ?_
      refine lv_lmul hx hb d_X_digestOfBidders_104 ?_
      refine lv_aload_n hx hb d_X_digestOfBidders_105 rfl (lv_at hl 1 rfl) ?_
      refine lv_iload hx hb d_X_digestOfBidders_106 (lv_at hl 2 rfl) ?_
      obtain ⟨z6, hz6, h⟩ := bnd_some h
      refine g_goi hG (g_runV (As := [.int x5]) (rest := [.long (31 * ((31 * ((31 * ((31 * ((31 * x3) + z2.1.toInt64)) + z3.1.toInt64)) + z4.1.toInt64)) + z5.1.toInt64))]) C hG (c_X_pays l w z5.2 x5 hz6 _) (hG.lt (Nat.le_of_ble_eq_true rfl)) (ce0 w _) rfl vw_X_358 rfl rfl ⟨by decide, by decide⟩ rfl hl.1 rfl (Nat.le_of_ble_eq_true rfl) d_X_digestOfBidders_108 ⟨Nat.zero_le _, Nat.zero_le _⟩) (fun H locs hG => ?_)
      refine lv_i2l (v := z6.1.toInt64) hx hb d_X_digestOfBidders_111 rfl ?_
      refine lv_ladd hx hb d_X_digestOfBidders_112 ?_
      refine lv_lstore_n (lv' := [(3, .long ((31 * ((31 * ((31 * ((31 * ((31 * x3) + z2.1.toInt64)) + z3.1.toInt64)) + z4.1.toInt64)) + z5.1.toInt64)) + z6.1.toInt64)), (0, .ref (gad w 0)), (5, .int x5)]) hx hb d_X_digestOfBidders_113 rfl hl (by decide) rfl (fun ls hl => ?_)
      refine lv_ldc2 (v := 31) hx hb C.2.2.2.1 (C.2.2.2.2.1 _ qw637) d_X_digestOfBidders_114 ?_
      refine lv_lload_n hx hb d_X_digestOfBidders_117 rfl (lv_at hl 0 rfl) ?_
      refine lv_lmul hx hb d_X_digestOfBidders_118 ?_
      refine lv_aload_n hx hb d_X_digestOfBidders_119 rfl (lv_at hl 1 rfl) ?_
      refine lv_iload hx hb d_X_digestOfBidders_120 (lv_at hl 2 rfl) ?_
      refine lv_iconst (v := 0) hx hb d_X_digestOfBidders_122 (by decide) ?_
      obtain ⟨z7, hz7, h⟩ := bnd_some h
      refine g_gol hG (g_runV (As := [.int x5, .int 0]) (rest := [.long (31 * ((31 * ((31 * ((31 * ((31 * ((31 * x3) + z2.1.toInt64)) + z3.1.toInt64)) + z4.1.toInt64)) + z5.1.toInt64)) + z6.1.toInt64))]) C hG (c_X_share l w z6.2 x5 0 hz7 _) (hG.lt (Nat.le_of_ble_eq_true rfl)) (ce0 w _) rfl vw_X_361 rfl rfl ⟨by decide, by decide⟩ rfl hl.1 rfl (Nat.le_of_ble_eq_true rfl) d_X_digestOfBidders_123 ⟨Nat.zero_le _, Nat.zero_le _⟩) (fun H locs hG => ?_)
      refine lv_ladd hx hb d_X_digestOfBidders_126 ?_
      refine lv_lstore_n (lv' := [(3, .long ((31 * ((31 * ((31 * ((31 * ((31 * ((31 * x3) + z2.1.toInt64)) + z3.1.toInt64)) + z4.1.toInt64)) + z5.1.toInt64)) + z6.1.toInt64)) + z7.1)), (0, .ref (gad w 0)), (5, .int x5)]) hx hb d_X_digestOfBidders_127 rfl hl (by decide) rfl (fun ls hl => ?_)
      refine lv_ldc2 (v := 31) hx hb C.2.2.2.1 (C.2.2.2.2.1 _ qw637) d_X_digestOfBidders_128 ?_
      refine lv_lload_n hx hb d_X_digestOfBidders_131 rfl (lv_at hl 0 rfl) ?_
      refine lv_lmul hx hb d_X_digestOfBidders_132 ?_
      refine lv_aload_n hx hb d_X_digestOfBidders_133 rfl (lv_at hl 1 rfl) ?_
      refine lv_iload hx hb d_X_digestOfBidders_134 (lv_at hl 2 rfl) ?_
      refine lv_iconst (v := 1) hx hb d_X_digestOfBidders_136 (by decide) ?_
      obtain ⟨z8, hz8, h⟩ := bnd_some h
      refine g_gol hG (g_runV (As := [.int x5, .int 1]) (rest := [.long (31 * ((31 * ((31 * ((31 * ((31 * ((31 * ((31 * x3) + z2.1.toInt64)) + z3.1.toInt64)) + z4.1.toInt64)) + z5.1.toInt64)) + z6.1.toInt64)) + z7.1))]) C hG (c_X_share l w z7.2 x5 1 hz8 _) (hG.lt (Nat.le_of_ble_eq_true rfl)) (ce0 w _) rfl vw_X_361 rfl rfl ⟨by decide, by decide⟩ rfl hl.1 rfl (Nat.le_of_ble_eq_true rfl) d_X_digestOfBidders_137 ⟨Nat.zero_le _, Nat.zero_le _⟩) (fun H locs hG => ?_)
      refine lv_ladd hx hb d_X_digestOfBidders_140 ?_
      refine lv_lstore_n (lv' := [(3, .long ((31 * ((31 * ((31 * ((31 * ((31 * ((31 * ((31 * x3) + z2.1.toInt64)) + z3.1.toInt64)) + z4.1.toInt64)) + z5.1.toInt64)) + z6.1.toInt64)) + z7.1)) + z8.1)), (0, .ref (gad w 0)), (5, .int x5)]) hx hb d_X_digestOfBidders_141 rfl hl (by decide) rfl (fun ls hl => ?_)
      refine lv_iinc (v := x5 + 1) (lv' := [(5, .int (x5 + 1)), (3, .long ((31 * ((31 * ((31 * ((31 * ((31 * ((31 * ((31 * x3) + z2.1.toInt64)) + z3.1.toInt64)) + z4.1.toInt64)) + z5.1.toInt64)) + z6.1.toInt64)) + z7.1)) + z8.1)), (0, .ref (gad w 0))]) hx hb d_X_digestOfBidders_142 hl (k := 2) rfl (congrArg (HAdd.hAdd x5) (by decide : Int32.ofInt 1 = 1)) (by decide) rfl (fun ls hl => ?_)
      refine lv_goto (tgt := 5) hx hb d_X_digestOfBidders_145 (by decide) ?_
      exact ih _ _ _ _ (lp_back h hr) k1 ls _ _ hG (lv_sub hl [2, 1, 0] rfl)
    unfold X_digestOfBidders_L5 at h
    refine lv_iload hx hb d_X_digestOfBidders_5 (lv_at hl 2 rfl) ?_
    refine lv_iconst (v := 5) hx hb d_X_digestOfBidders_7 (by decide) ?_
    refine lv_icmp_ge (tgt := 148) hx hb d_X_digestOfBidders_8 (by decide) (fun hc => ?_) (fun hc => ?_)
    · replace h := it_t h hc
      exact k1 _ _ _ (lp_exit h hr) ls _ _ hG (lv_sub hl [1] rfl)
    · replace h := it_f h hc
      refine lv_iconst (v := 0) hx hb d_X_digestOfBidders_11 (by decide) ?_
      refine lv_istore (lv' := [(6, .int 0), (0, .ref (gad w 0)), (3, .long x3), (5, .int x5)]) hx hb d_X_digestOfBidders_12 hl (by decide) rfl (fun ls hl => ?_)
      obtain ⟨z9, hz9, h⟩ := bnd_some h
      refine L_X_digestOfBidders_14 C _ FZ _ _ _ _ hz9 ?_ ls _ _ hG (lv_sub hl [1, 2, 3, 0] rfl)
      intro y3 y6 Sy e9 ls H locs hG hl
      subst e9
      exact J42 _ _ _ h ls _ _ hG (lv_sub hl [0, 1, 2] rfl)
set_option maxHeartbeats 4000000 in
set_option maxRecDepth 100000 in
theorem c_X_digestOfBidders (l : Launch) (w : gw) (S : St) (x1 : Int64)  {z : Int64 × St} (h : (X_digestOfBidders S x1) = some z) : gMl l w y_X_digestOfBidders b_X_digestOfBidders 7 (some .long) (rmm 5 124) [.ref (gad w 0), .long x1] S z.1 z.2 := by
  unfold X_digestOfBidders at h
  refine g_met (Qc := gQl w z.1 z.2) (by decide +kernel) (Nat.le_of_ble_eq_true rfl) ?_
  intro p e s m args below meth c A Q ls hQ C hG hl
  have hx := C.1
  have hb := C.2.1
  have hl : lv_has ls 7 [(0, .ref (gad w 0)), (1, .long x1)] := hl
  have J148 : ∀ (S : St) (x3 : Int64), X_digestOfBidders_J148 S x3 = some z → ∀ (ls : Array Slot) (H : Heap) (locs : List Loc), GH w s A S H locs → lv_has ls 7 [(3, .long x3)] → W p l e (rmm 5 124) s m args below meth c H locs 0 0 Q (F0 m 148 ls []) := by
    intro S x3 h ls H locs hG hl
    unfold X_digestOfBidders_J148 at h
    refine lv_lload_n hx hb d_X_digestOfBidders_148 rfl (lv_at hl 0 rfl) ?_
    exact g_lret C hG (sm_fst h) (sm_snd h) hQ d_X_digestOfBidders_149
  refine lv_lload_n hx hb d_X_digestOfBidders_0 rfl (lv_at hl 1 rfl) ?_
  refine lv_lstore_n (lv' := [(3, .long x1), (0, .ref (gad w 0)), (1, .long x1)]) hx hb d_X_digestOfBidders_1 rfl hl (by decide) rfl (fun ls hl => ?_)
  refine lv_iconst (v := 0) hx hb d_X_digestOfBidders_2 (by decide) ?_
  refine lv_istore (lv' := [(5, .int 0), (3, .long x1), (0, .ref (gad w 0)), (1, .long x1)]) hx hb d_X_digestOfBidders_3 hl (by decide) rfl (fun ls hl => ?_)
  obtain ⟨z10, hz10, h⟩ := bnd_some h
  refine L_X_digestOfBidders_5 C FZ _ _ _ _ hz10 ?_ ls _ _ hG (lv_sub hl [2, 1, 0] rfl)
  intro y3 y5 Sy e9 ls H locs hG hl
  subst e9
  exact J148 _ _ h ls _ _ hG (lv_sub hl [0] rfl)
theorem d_X_digest_0 : decode b_X_digest 0 = .ok (.ldc2_w 289, 3) := by decide +kernel
theorem d_X_digest_3 : decode b_X_digest 3 = .ok (.lstore_n 1, 1) := by decide +kernel
theorem d_X_digest_4 : decode b_X_digest 4 = .ok (.iconst 0, 1) := by decide +kernel
theorem d_X_digest_5 : decode b_X_digest 5 = .ok (.istore_n 3, 1) := by decide +kernel
theorem d_X_digest_6 : decode b_X_digest 6 = .ok (.iload_n 3, 1) := by decide +kernel
theorem d_X_digest_7 : decode b_X_digest 7 = .ok (.bipush 7, 2) := by decide +kernel
theorem d_X_digest_9 : decode b_X_digest 9 = .ok (.if_icmp .gt 22, 3) := by decide +kernel
theorem d_X_digest_12 : decode b_X_digest 12 = .ok (.ldc2_w 291, 3) := by decide +kernel
theorem d_X_digest_15 : decode b_X_digest 15 = .ok (.lload_n 1, 1) := by decide +kernel
theorem d_X_digest_16 : decode b_X_digest 16 = .ok (.lmul, 1) := by decide +kernel
theorem d_X_digest_17 : decode b_X_digest 17 = .ok (.aload_n 0, 1) := by decide +kernel
theorem d_X_digest_18 : decode b_X_digest 18 = .ok (.iload_n 3, 1) := by decide +kernel
theorem d_X_digest_19 : decode b_X_digest 19 = .ok (.invokevirtual 293, 3) := by decide +kernel
theorem d_X_digest_22 : decode b_X_digest 22 = .ok (.i2l, 1) := by decide +kernel
theorem d_X_digest_23 : decode b_X_digest 23 = .ok (.ladd, 1) := by decide +kernel
theorem d_X_digest_24 : decode b_X_digest 24 = .ok (.lstore_n 1, 1) := by decide +kernel
theorem d_X_digest_25 : decode b_X_digest 25 = .ok (.iinc 3 1, 3) := by decide +kernel
theorem d_X_digest_28 : decode b_X_digest 28 = .ok (.goto (-22), 3) := by decide +kernel
theorem d_X_digest_31 : decode b_X_digest 31 = .ok (.ldc2_w 291, 3) := by decide +kernel
theorem d_X_digest_34 : decode b_X_digest 34 = .ok (.lload_n 1, 1) := by decide +kernel
theorem d_X_digest_35 : decode b_X_digest 35 = .ok (.lmul, 1) := by decide +kernel
theorem d_X_digest_36 : decode b_X_digest 36 = .ok (.aload_n 0, 1) := by decide +kernel
theorem d_X_digest_37 : decode b_X_digest 37 = .ok (.invokevirtual 296, 3) := by decide +kernel
theorem d_X_digest_40 : decode b_X_digest 40 = .ok (.i2l, 1) := by decide +kernel
theorem d_X_digest_41 : decode b_X_digest 41 = .ok (.ladd, 1) := by decide +kernel
theorem d_X_digest_42 : decode b_X_digest 42 = .ok (.lstore_n 1, 1) := by decide +kernel
theorem d_X_digest_43 : decode b_X_digest 43 = .ok (.ldc2_w 291, 3) := by decide +kernel
theorem d_X_digest_46 : decode b_X_digest 46 = .ok (.lload_n 1, 1) := by decide +kernel
theorem d_X_digest_47 : decode b_X_digest 47 = .ok (.lmul, 1) := by decide +kernel
theorem d_X_digest_48 : decode b_X_digest 48 = .ok (.aload_n 0, 1) := by decide +kernel
theorem d_X_digest_49 : decode b_X_digest 49 = .ok (.invokevirtual 299, 3) := by decide +kernel
theorem d_X_digest_52 : decode b_X_digest 52 = .ok (.i2l, 1) := by decide +kernel
theorem d_X_digest_53 : decode b_X_digest 53 = .ok (.ladd, 1) := by decide +kernel
theorem d_X_digest_54 : decode b_X_digest 54 = .ok (.lstore_n 1, 1) := by decide +kernel
theorem d_X_digest_55 : decode b_X_digest 55 = .ok (.aload_n 0, 1) := by decide +kernel
theorem d_X_digest_56 : decode b_X_digest 56 = .ok (.lload_n 1, 1) := by decide +kernel
theorem d_X_digest_57 : decode b_X_digest 57 = .ok (.invokevirtual 302, 3) := by decide +kernel
theorem d_X_digest_60 : decode b_X_digest 60 = .ok (.lstore_n 1, 1) := by decide +kernel
theorem d_X_digest_61 : decode b_X_digest 61 = .ok (.aload_n 0, 1) := by decide +kernel
theorem d_X_digest_62 : decode b_X_digest 62 = .ok (.lload_n 1, 1) := by decide +kernel
theorem d_X_digest_63 : decode b_X_digest 63 = .ok (.invokevirtual 306, 3) := by decide +kernel
theorem d_X_digest_66 : decode b_X_digest 66 = .ok (.lstore_n 1, 1) := by decide +kernel
theorem d_X_digest_67 : decode b_X_digest 67 = .ok (.aload_n 0, 1) := by decide +kernel
theorem d_X_digest_68 : decode b_X_digest 68 = .ok (.lload_n 1, 1) := by decide +kernel
theorem d_X_digest_69 : decode b_X_digest 69 = .ok (.invokevirtual 309, 3) := by decide +kernel
theorem d_X_digest_72 : decode b_X_digest 72 = .ok (.lstore_n 1, 1) := by decide +kernel
theorem d_X_digest_73 : decode b_X_digest 73 = .ok (.ldc2_w 291, 3) := by decide +kernel
theorem d_X_digest_76 : decode b_X_digest 76 = .ok (.lload_n 1, 1) := by decide +kernel
theorem d_X_digest_77 : decode b_X_digest 77 = .ok (.lmul, 1) := by decide +kernel
theorem d_X_digest_78 : decode b_X_digest 78 = .ok (.aload_n 0, 1) := by decide +kernel
theorem d_X_digest_79 : decode b_X_digest 79 = .ok (.iconst (-1), 1) := by decide +kernel
theorem d_X_digest_80 : decode b_X_digest 80 = .ok (.invokevirtual 312, 3) := by decide +kernel
theorem d_X_digest_83 : decode b_X_digest 83 = .ok (.i2l, 1) := by decide +kernel
theorem d_X_digest_84 : decode b_X_digest 84 = .ok (.ladd, 1) := by decide +kernel
theorem d_X_digest_85 : decode b_X_digest 85 = .ok (.lstore_n 1, 1) := by decide +kernel
theorem d_X_digest_86 : decode b_X_digest 86 = .ok (.ldc2_w 291, 3) := by decide +kernel
theorem d_X_digest_89 : decode b_X_digest 89 = .ok (.lload_n 1, 1) := by decide +kernel
theorem d_X_digest_90 : decode b_X_digest 90 = .ok (.lmul, 1) := by decide +kernel
theorem d_X_digest_91 : decode b_X_digest 91 = .ok (.aload_n 0, 1) := by decide +kernel
theorem d_X_digest_92 : decode b_X_digest 92 = .ok (.iconst 3, 1) := by decide +kernel
theorem d_X_digest_93 : decode b_X_digest 93 = .ok (.iconst 2, 1) := by decide +kernel
theorem d_X_digest_94 : decode b_X_digest 94 = .ok (.iconst 0, 1) := by decide +kernel
theorem d_X_digest_95 : decode b_X_digest 95 = .ok (.invokevirtual 315, 3) := by decide +kernel
theorem d_X_digest_98 : decode b_X_digest 98 = .ok (.i2l, 1) := by decide +kernel
theorem d_X_digest_99 : decode b_X_digest 99 = .ok (.ladd, 1) := by decide +kernel
theorem d_X_digest_100 : decode b_X_digest 100 = .ok (.lstore_n 1, 1) := by decide +kernel
theorem d_X_digest_101 : decode b_X_digest 101 = .ok (.ldc2_w 291, 3) := by decide +kernel
theorem d_X_digest_104 : decode b_X_digest 104 = .ok (.lload_n 1, 1) := by decide +kernel
theorem d_X_digest_105 : decode b_X_digest 105 = .ok (.lmul, 1) := by decide +kernel
theorem d_X_digest_106 : decode b_X_digest 106 = .ok (.aload_n 0, 1) := by decide +kernel
theorem d_X_digest_107 : decode b_X_digest 107 = .ok (.iconst 3, 1) := by decide +kernel
theorem d_X_digest_108 : decode b_X_digest 108 = .ok (.iconst 2, 1) := by decide +kernel
theorem d_X_digest_109 : decode b_X_digest 109 = .ok (.iconst 1, 1) := by decide +kernel
theorem d_X_digest_110 : decode b_X_digest 110 = .ok (.invokevirtual 315, 3) := by decide +kernel
theorem d_X_digest_113 : decode b_X_digest 113 = .ok (.i2l, 1) := by decide +kernel
theorem d_X_digest_114 : decode b_X_digest 114 = .ok (.ladd, 1) := by decide +kernel
theorem d_X_digest_115 : decode b_X_digest 115 = .ok (.lstore_n 1, 1) := by decide +kernel
theorem d_X_digest_116 : decode b_X_digest 116 = .ok (.ldc2_w 291, 3) := by decide +kernel
theorem d_X_digest_119 : decode b_X_digest 119 = .ok (.lload_n 1, 1) := by decide +kernel
theorem d_X_digest_120 : decode b_X_digest 120 = .ok (.lmul, 1) := by decide +kernel
theorem d_X_digest_121 : decode b_X_digest 121 = .ok (.aload_n 0, 1) := by decide +kernel
theorem d_X_digest_122 : decode b_X_digest 122 = .ok (.bipush 31, 2) := by decide +kernel
theorem d_X_digest_124 : decode b_X_digest 124 = .ok (.invokevirtual 319, 3) := by decide +kernel
theorem d_X_digest_127 : decode b_X_digest 127 = .ok (.i2l, 1) := by decide +kernel
theorem d_X_digest_128 : decode b_X_digest 128 = .ok (.ladd, 1) := by decide +kernel
theorem d_X_digest_129 : decode b_X_digest 129 = .ok (.lstore_n 1, 1) := by decide +kernel
theorem d_X_digest_130 : decode b_X_digest 130 = .ok (.ldc2_w 291, 3) := by decide +kernel
theorem d_X_digest_133 : decode b_X_digest 133 = .ok (.lload_n 1, 1) := by decide +kernel
theorem d_X_digest_134 : decode b_X_digest 134 = .ok (.lmul, 1) := by decide +kernel
theorem d_X_digest_135 : decode b_X_digest 135 = .ok (.aload_n 0, 1) := by decide +kernel
theorem d_X_digest_136 : decode b_X_digest 136 = .ok (.iconst (-1), 1) := by decide +kernel
theorem d_X_digest_137 : decode b_X_digest 137 = .ok (.invokevirtual 322, 3) := by decide +kernel
theorem d_X_digest_140 : decode b_X_digest 140 = .ok (.i2l, 1) := by decide +kernel
theorem d_X_digest_141 : decode b_X_digest 141 = .ok (.ladd, 1) := by decide +kernel
theorem d_X_digest_142 : decode b_X_digest 142 = .ok (.lstore_n 1, 1) := by decide +kernel
theorem d_X_digest_143 : decode b_X_digest 143 = .ok (.ldc2_w 291, 3) := by decide +kernel
theorem d_X_digest_146 : decode b_X_digest 146 = .ok (.lload_n 1, 1) := by decide +kernel
theorem d_X_digest_147 : decode b_X_digest 147 = .ok (.lmul, 1) := by decide +kernel
theorem d_X_digest_148 : decode b_X_digest 148 = .ok (.aload_n 0, 1) := by decide +kernel
theorem d_X_digest_149 : decode b_X_digest 149 = .ok (.iconst 0, 1) := by decide +kernel
theorem d_X_digest_150 : decode b_X_digest 150 = .ok (.iconst 1, 1) := by decide +kernel
theorem d_X_digest_151 : decode b_X_digest 151 = .ok (.invokevirtual 325, 3) := by decide +kernel
theorem d_X_digest_154 : decode b_X_digest 154 = .ok (.i2l, 1) := by decide +kernel
theorem d_X_digest_155 : decode b_X_digest 155 = .ok (.ladd, 1) := by decide +kernel
theorem d_X_digest_156 : decode b_X_digest 156 = .ok (.lreturn, 1) := by decide +kernel
noncomputable def X_digest_L6 (S : St) (x1 : Int64) (x3 : Int32) : Option ((Int64 × Int32 × St) × Nat) :=
  if 7 < x3 then
      some ((x1, x3, S), 1)
    else
      bnd (X_count S x3) fun z1 =>
      some (((31 * x1) + z1.1.toInt64, x3 + 1, z1.2), 0)
noncomputable def X_digest_J31 (S : St) (x1 : Int64) : Option (Int64 × St) :=
  bnd (X_fault S) fun z2 =>
    bnd (X_judged z2.2) fun z3 =>
    bnd (X_digestOfBids z3.2 ((31 * ((31 * x1) + z2.1.toInt64)) + z3.1.toInt64)) fun z4 =>
    bnd (X_digestOfEvenings z4.2 z4.1) fun z5 =>
    bnd (X_digestOfBidders z5.2 z5.1) fun z6 =>
    bnd (X_each z6.2 (-1)) fun z7 =>
    bnd (X_meet z7.2 3 2 0) fun z8 =>
    bnd (X_meet z8.2 3 2 1) fun z9 =>
    bnd (X_club z9.2 31) fun z10 =>
    bnd (X_owners z10.2 (-1)) fun z11 =>
    bnd (X_swap z11.2 0 1) fun z12 =>
    some ((31 * ((31 * ((31 * ((31 * ((31 * ((31 * z6.1) + z7.1.toInt64)) + z8.1.toInt64)) + z9.1.toInt64)) + z10.1.toInt64)) + z11.1.toInt64)) + z12.1.toInt64, z12.2)
noncomputable def X_digest (S : St) : Option (Int64 × St) :=
  bnd (lp (σ := Int64 × Int32 × St) (fun q => X_digest_L6 q.2.2 q.1 q.2.1) FZ (17, 0, S)) fun z13 =>
    X_digest_J31 z13.1.2.2 z13.1.1
set_option maxHeartbeats 4000000 in
set_option maxRecDepth 100000 in
theorem L_X_digest_6 (C : gCx p s m args meth c y_X_digest.cls b_X_digest 4 (some .long)) : ∀ (n : Nat) (x1 : Int64) (x3 : Int32) (S : St) (r : (Int64 × Int32 × St) × Nat), lp (σ := Int64 × Int32 × St) (fun q => X_digest_L6 q.2.2 q.1 q.2.1) n (x1, x3, S) = some r → (∀ (y1 : Int64) (y3 : Int32) (Sy : St), r = ((y1, y3, Sy), 1) → ∀ (ls : Array Slot) (H : Heap) (locs : List Loc), GH w s A Sy H locs → lv_has ls 4 [(0, .ref (gad w 0)), (1, .long y1)] → W p l e (rmm 6 150) s m args below meth c H locs 0 0 Q (F0 m 31 ls [])) → ∀ (ls : Array Slot) (H : Heap) (locs : List Loc), GH w s A S H locs → lv_has ls 4 [(0, .ref (gad w 0)), (1, .long x1), (3, .int x3)] → W p l e (rmm 6 150) s m args below meth c H locs 0 0 Q (F0 m 6 ls []) := by
  have hx := C.1
  have hb := C.2.1
  intro n
  induction n with
  | zero => intro x1 x3 S r h; cases h
  | succ n ih =>
    intro x1 x3 S r h k1 ls H locs hG hl
    obtain ⟨z, h, hr⟩ := lp_succ h
    have h : X_digest_L6 S x1 x3 = some z := h
    unfold X_digest_L6 at h
    refine lv_iload_n hx hb d_X_digest_6 rfl (lv_at hl 2 rfl) ?_
    refine lv_bipush (v := 7) hx hb d_X_digest_7 (by decide) ?_
    refine lv_icmp_gt (tgt := 31) hx hb d_X_digest_9 (by decide) (fun hc => ?_) (fun hc => ?_)
    · replace h := it_t h hc
      exact k1 _ _ _ (lp_exit h hr) ls _ _ hG (lv_sub hl [0, 1] rfl)
    · replace h := it_f h hc
      refine lv_ldc2 (v := 31) hx hb C.2.2.2.1 (C.2.2.2.2.1 _ qw637) d_X_digest_12 ?_
      refine lv_lload_n hx hb d_X_digest_15 rfl (lv_at hl 1 rfl) ?_
      refine lv_lmul hx hb d_X_digest_16 ?_
      refine lv_aload_n hx hb d_X_digest_17 rfl (lv_at hl 0 rfl) ?_
      refine lv_iload_n hx hb d_X_digest_18 rfl (lv_at hl 2 rfl) ?_
      obtain ⟨z1, hz1, h⟩ := bnd_some h
      refine g_goi hG (g_runV (As := [.int x3]) (rest := [.long (31 * x1)]) C hG (c_X_count l w S x3 hz1 _) (hG.lt (Nat.le_of_ble_eq_true rfl)) (ce0 w _) rfl vw_X_293 rfl rfl ⟨by decide, by decide⟩ rfl hl.1 rfl (Nat.le_of_ble_eq_true rfl) d_X_digest_19 ⟨Nat.zero_le _, Nat.zero_le _⟩) (fun H locs hG => ?_)
      refine lv_i2l (v := z1.1.toInt64) hx hb d_X_digest_22 rfl ?_
      refine lv_ladd hx hb d_X_digest_23 ?_
      refine lv_lstore_n (lv' := [(1, .long ((31 * x1) + z1.1.toInt64)), (0, .ref (gad w 0)), (3, .int x3)]) hx hb d_X_digest_24 rfl hl (by decide) rfl (fun ls hl => ?_)
      refine lv_iinc (v := x3 + 1) (lv' := [(3, .int (x3 + 1)), (1, .long ((31 * x1) + z1.1.toInt64)), (0, .ref (gad w 0))]) hx hb d_X_digest_25 hl (k := 2) rfl (congrArg (HAdd.hAdd x3) (by decide : Int32.ofInt 1 = 1)) (by decide) rfl (fun ls hl => ?_)
      refine lv_goto (tgt := 6) hx hb d_X_digest_28 (by decide) ?_
      exact ih _ _ _ _ (lp_back h hr) k1 ls _ _ hG (lv_sub hl [2, 1, 0] rfl)
set_option maxHeartbeats 4000000 in
set_option maxRecDepth 100000 in
theorem c_X_digest (l : Launch) (w : gw) (S : St)   {z : Int64 × St} (h : (X_digest S) = some z) : gMl l w y_X_digest b_X_digest 4 (some .long) (rmm 6 150) [.ref (gad w 0)] S z.1 z.2 := by
  unfold X_digest at h
  refine g_met (Qc := gQl w z.1 z.2) (by decide +kernel) (Nat.le_of_ble_eq_true rfl) ?_
  intro p e s m args below meth c A Q ls hQ C hG hl
  have hx := C.1
  have hb := C.2.1
  have hl : lv_has ls 4 [(0, .ref (gad w 0))] := hl
  have J31 : ∀ (S : St) (x1 : Int64), X_digest_J31 S x1 = some z → ∀ (ls : Array Slot) (H : Heap) (locs : List Loc), GH w s A S H locs → lv_has ls 4 [(0, .ref (gad w 0)), (1, .long x1)] → W p l e (rmm 6 150) s m args below meth c H locs 0 0 Q (F0 m 31 ls []) := by
    intro S x1 h ls H locs hG hl
    unfold X_digest_J31 at h
    refine lv_ldc2 (v := 31) hx hb C.2.2.2.1 (C.2.2.2.2.1 _ qw637) d_X_digest_31 ?_
    refine lv_lload_n hx hb d_X_digest_34 rfl (lv_at hl 1 rfl) ?_
    refine lv_lmul hx hb d_X_digest_35 ?_
    refine lv_aload_n hx hb d_X_digest_36 rfl (lv_at hl 0 rfl) ?_
    obtain ⟨z2, hz2, h⟩ := bnd_some h
    refine g_goi hG (g_runV (As := []) (rest := [.long (31 * x1)]) C hG (c_X_fault l w S hz2 _) (hG.lt (Nat.le_of_ble_eq_true rfl)) (ce0 w _) rfl vw_X_296 rfl rfl ⟨by decide, by decide⟩ rfl hl.1 rfl (Nat.le_of_ble_eq_true rfl) d_X_digest_37 ⟨Nat.zero_le _, Nat.zero_le _⟩) (fun H locs hG => ?_)
    refine lv_i2l (v := z2.1.toInt64) hx hb d_X_digest_40 rfl ?_
    refine lv_ladd hx hb d_X_digest_41 ?_
    refine lv_lstore_n (lv' := [(1, .long ((31 * x1) + z2.1.toInt64)), (0, .ref (gad w 0))]) hx hb d_X_digest_42 rfl hl (by decide) rfl (fun ls hl => ?_)
    refine lv_ldc2 (v := 31) hx hb C.2.2.2.1 (C.2.2.2.2.1 _ qw637) d_X_digest_43 ?_
    refine lv_lload_n hx hb d_X_digest_46 rfl (lv_at hl 0 rfl) ?_
    refine lv_lmul hx hb d_X_digest_47 ?_
    refine lv_aload_n hx hb d_X_digest_48 rfl (lv_at hl 1 rfl) ?_
    obtain ⟨z3, hz3, h⟩ := bnd_some h
    refine g_goi hG (g_runV (As := []) (rest := [.long (31 * ((31 * x1) + z2.1.toInt64))]) C hG (c_X_judged l w z2.2 hz3 _) (hG.lt (Nat.le_of_ble_eq_true rfl)) (ce0 w _) rfl vw_X_299 rfl rfl ⟨by decide, by decide⟩ rfl hl.1 rfl (Nat.le_of_ble_eq_true rfl) d_X_digest_49 ⟨Nat.zero_le _, Nat.zero_le _⟩) (fun H locs hG => ?_)
    refine lv_i2l (v := z3.1.toInt64) hx hb d_X_digest_52 rfl ?_
    refine lv_ladd hx hb d_X_digest_53 ?_
    refine lv_lstore_n (lv' := [(1, .long ((31 * ((31 * x1) + z2.1.toInt64)) + z3.1.toInt64)), (0, .ref (gad w 0))]) hx hb d_X_digest_54 rfl hl (by decide) rfl (fun ls hl => ?_)
    refine lv_aload_n hx hb d_X_digest_55 rfl (lv_at hl 1 rfl) ?_
    refine lv_lload_n hx hb d_X_digest_56 rfl (lv_at hl 0 rfl) ?_
    obtain ⟨z4, hz4, h⟩ := bnd_some h
    refine g_gol hG (g_runV (As := [.long ((31 * ((31 * x1) + z2.1.toInt64)) + z3.1.toInt64)]) (rest := []) C hG (c_X_digestOfBids l w z3.2 ((31 * ((31 * x1) + z2.1.toInt64)) + z3.1.toInt64) hz4 _) (hG.lt (Nat.le_of_ble_eq_true rfl)) (ce0 w _) rfl vw_X_302 rfl rfl ⟨by decide, by decide⟩ rfl hl.1 rfl (Nat.le_of_ble_eq_true rfl) d_X_digest_57 ⟨Nat.zero_le _, Nat.zero_le _⟩) (fun H locs hG => ?_)
    refine lv_lstore_n (lv' := [(1, .long z4.1), (0, .ref (gad w 0))]) hx hb d_X_digest_60 rfl hl (by decide) rfl (fun ls hl => ?_)
    refine lv_aload_n hx hb d_X_digest_61 rfl (lv_at hl 1 rfl) ?_
    refine lv_lload_n hx hb d_X_digest_62 rfl (lv_at hl 0 rfl) ?_
    obtain ⟨z5, hz5, h⟩ := bnd_some h
    refine g_gol hG (g_runV (As := [.long z4.1]) (rest := []) C hG (c_X_digestOfEvenings l w z4.2 z4.1 hz5 _) (hG.lt (Nat.le_of_ble_eq_true rfl)) (ce0 w _) rfl vw_X_306 rfl rfl ⟨by decide, by decide⟩ rfl hl.1 rfl (Nat.le_of_ble_eq_true rfl) d_X_digest_63 ⟨Nat.zero_le _, Nat.zero_le _⟩) (fun H locs hG => ?_)
    refine lv_lstore_n (lv' := [(1, .long z5.1), (0, .ref (gad w 0))]) hx hb d_X_digest_66 rfl hl (by decide) rfl (fun ls hl => ?_)
    refine lv_aload_n hx hb d_X_digest_67 rfl (lv_at hl 1 rfl) ?_
    refine lv_lload_n hx hb d_X_digest_68 rfl (lv_at hl 0 rfl) ?_
    obtain ⟨z6, hz6, h⟩ := bnd_some h
    refine g_gol hG (g_runV (As := [.long z5.1]) (rest := []) C hG (c_X_digestOfBidders l w z5.2 z5.1 hz6 _) (hG.lt (Nat.le_of_ble_eq_true rfl)) (ce0 w _) rfl vw_X_309 rfl rfl ⟨by decide, by decide⟩ rfl hl.1 rfl (Nat.le_of_ble_eq_true rfl) d_X_digest_69 ⟨Nat.zero_le _, Nat.zero_le _⟩) (fun H locs hG => ?_)
    refine lv_lstore_n (lv' := [(1, .long z6.1), (0, .ref (gad w 0))]) hx hb d_X_digest_72 rfl hl (by decide) rfl (fun ls hl => ?_)
    refine lv_ldc2 (v := 31) hx hb C.2.2.2.1 (C.2.2.2.2.1 _ qw637) d_X_digest_73 ?_
    refine lv_lload_n hx hb d_X_digest_76 rfl (lv_at hl 0 rfl) ?_
    refine lv_lmul hx hb d_X_digest_77 ?_
    refine lv_aload_n hx hb d_X_digest_78 rfl (lv_at hl 1 rfl) ?_
    refine lv_iconst (v := (-1)) hx hb d_X_digest_79 (by decide) ?_
    obtain ⟨z7, hz7, h⟩ := bnd_some h
    refine g_goi hG (g_runV (As := [.int (-1)]) (rest := [.long (31 * z6.1)]) C hG (c_X_each l w z6.2 (-1) hz7 _) (hG.lt (Nat.le_of_ble_eq_true rfl)) (ce0 w _) rfl vw_X_312 rfl rfl ⟨by decide, by decide⟩ rfl hl.1 rfl (Nat.le_of_ble_eq_true rfl) d_X_digest_80 ⟨Nat.zero_le _, Nat.zero_le _⟩) (fun H locs hG => ?_)
    refine lv_i2l (v := z7.1.toInt64) hx hb d_X_digest_83 rfl ?_
    refine lv_ladd hx hb d_X_digest_84 ?_
    refine lv_lstore_n (lv' := [(1, .long ((31 * z6.1) + z7.1.toInt64)), (0, .ref (gad w 0))]) hx hb d_X_digest_85 rfl hl (by decide) rfl (fun ls hl => ?_)
    refine lv_ldc2 (v := 31) hx hb C.2.2.2.1 (C.2.2.2.2.1 _ qw637) d_X_digest_86 ?_
    refine lv_lload_n hx hb d_X_digest_89 rfl (lv_at hl 0 rfl) ?_
    refine lv_lmul hx hb d_X_digest_90 ?_
    refine lv_aload_n hx hb d_X_digest_91 rfl (lv_at hl 1 rfl) ?_
    refine lv_iconst (v := 3) hx hb d_X_digest_92 (by decide) ?_
    refine lv_iconst (v := 2) hx hb d_X_digest_93 (by decide) ?_
    refine lv_iconst (v := 0) hx hb d_X_digest_94 (by decide) ?_
    obtain ⟨z8, hz8, h⟩ := bnd_some h
    refine g_goi hG (g_runV (As := [.int 3, .int 2, .int 0]) (rest := [.long (31 * ((31 * z6.1) + z7.1.toInt64))]) C hG (c_X_meet l w z7.2 3 2 0 hz8 _) (hG.lt (Nat.le_of_ble_eq_true rfl)) (ce0 w _) rfl vw_X_315 rfl rfl ⟨by decide, by decide⟩ rfl hl.1 rfl (Nat.le_of_ble_eq_true rfl) d_X_digest_95 ⟨Nat.zero_le _, Nat.zero_le _⟩) (fun H locs hG => ?_)
    refine lv_i2l (v := z8.1.toInt64) hx hb d_X_digest_98 rfl ?_
    refine lv_ladd hx hb d_X_digest_99 ?_
    refine lv_lstore_n (lv' := [(1, .long ((31 * ((31 * z6.1) + z7.1.toInt64)) + z8.1.toInt64)), (0, .ref (gad w 0))]) hx hb d_X_digest_100 rfl hl (by decide) rfl (fun ls hl => ?_)
    refine lv_ldc2 (v := 31) hx hb C.2.2.2.1 (C.2.2.2.2.1 _ qw637) d_X_digest_101 ?_
    refine lv_lload_n hx hb d_X_digest_104 rfl (lv_at hl 0 rfl) ?_
    refine lv_lmul hx hb d_X_digest_105 ?_
    refine lv_aload_n hx hb d_X_digest_106 rfl (lv_at hl 1 rfl) ?_
    refine lv_iconst (v := 3) hx hb d_X_digest_107 (by decide) ?_
    refine lv_iconst (v := 2) hx hb d_X_digest_108 (by decide) ?_
    refine lv_iconst (v := 1) hx hb d_X_digest_109 (by decide) ?_
    obtain ⟨z9, hz9, h⟩ := bnd_some h
    refine g_goi hG (g_runV (As := [.int 3, .int 2, .int 1]) (rest := [.long (31 * ((31 * ((31 * z6.1) + z7.1.toInt64)) + z8.1.toInt64))]) C hG (c_X_meet l w z8.2 3 2 1 hz9 _) (hG.lt (Nat.le_of_ble_eq_true rfl)) (ce0 w _) rfl vw_X_315 rfl rfl ⟨by decide, by decide⟩ rfl hl.1 rfl (Nat.le_of_ble_eq_true rfl) d_X_digest_110 ⟨Nat.zero_le _, Nat.zero_le _⟩) (fun H locs hG => ?_)
    refine lv_i2l (v := z9.1.toInt64) hx hb d_X_digest_113 rfl ?_
    refine lv_ladd hx hb d_X_digest_114 ?_
    refine lv_lstore_n (lv' := [(1, .long ((31 * ((31 * ((31 * z6.1) + z7.1.toInt64)) + z8.1.toInt64)) + z9.1.toInt64)), (0, .ref (gad w 0))]) hx hb d_X_digest_115 rfl hl (by decide) rfl (fun ls hl => ?_)
    refine lv_ldc2 (v := 31) hx hb C.2.2.2.1 (C.2.2.2.2.1 _ qw637) d_X_digest_116 ?_
    refine lv_lload_n hx hb d_X_digest_119 rfl (lv_at hl 0 rfl) ?_
    refine lv_lmul hx hb d_X_digest_120 ?_
    refine lv_aload_n hx hb d_X_digest_121 rfl (lv_at hl 1 rfl) ?_
    refine lv_bipush (v := 31) hx hb d_X_digest_122 (by decide) ?_
    obtain ⟨z10, hz10, h⟩ := bnd_some h
    refine g_goi hG (g_runV (As := [.int 31]) (rest := [.long (31 * ((31 * ((31 * ((31 * z6.1) + z7.1.toInt64)) + z8.1.toInt64)) + z9.1.toInt64))]) C hG (c_X_club l w z9.2 31 hz10 _) (hG.lt (Nat.le_of_ble_eq_true rfl)) (ce0 w _) rfl vw_X_319 rfl rfl ⟨by decide, by decide⟩ rfl hl.1 rfl (Nat.le_of_ble_eq_true rfl) d_X_digest_124 ⟨Nat.zero_le _, Nat.zero_le _⟩) (fun H locs hG => ?_)
    refine lv_i2l (v := z10.1.toInt64) hx hb d_X_digest_127 rfl ?_
    refine lv_ladd hx hb d_X_digest_128 ?_
    refine lv_lstore_n (lv' := [(1, .long ((31 * ((31 * ((31 * ((31 * z6.1) + z7.1.toInt64)) + z8.1.toInt64)) + z9.1.toInt64)) + z10.1.toInt64)), (0, .ref (gad w 0))]) hx hb d_X_digest_129 rfl hl (by decide) rfl (fun ls hl => ?_)
    refine lv_ldc2 (v := 31) hx hb C.2.2.2.1 (C.2.2.2.2.1 _ qw637) d_X_digest_130 ?_
    refine lv_lload_n hx hb d_X_digest_133 rfl (lv_at hl 0 rfl) ?_
    refine lv_lmul hx hb d_X_digest_134 ?_
    refine lv_aload_n hx hb d_X_digest_135 rfl (lv_at hl 1 rfl) ?_
    refine lv_iconst (v := (-1)) hx hb d_X_digest_136 (by decide) ?_
    obtain ⟨z11, hz11, h⟩ := bnd_some h
    refine g_goi hG (g_runV (As := [.int (-1)]) (rest := [.long (31 * ((31 * ((31 * ((31 * ((31 * z6.1) + z7.1.toInt64)) + z8.1.toInt64)) + z9.1.toInt64)) + z10.1.toInt64))]) C hG (c_X_owners l w z10.2 (-1) hz11 _) (hG.lt (Nat.le_of_ble_eq_true rfl)) (ce0 w _) rfl vw_X_322 rfl rfl ⟨by decide, by decide⟩ rfl hl.1 rfl (Nat.le_of_ble_eq_true rfl) d_X_digest_137 ⟨Nat.zero_le _, Nat.zero_le _⟩) (fun H locs hG => ?_)
    refine lv_i2l (v := z11.1.toInt64) hx hb d_X_digest_140 rfl ?_
    refine lv_ladd hx hb d_X_digest_141 ?_
    refine lv_lstore_n (lv' := [(1, .long ((31 * ((31 * ((31 * ((31 * ((31 * z6.1) + z7.1.toInt64)) + z8.1.toInt64)) + z9.1.toInt64)) + z10.1.toInt64)) + z11.1.toInt64)), (0, .ref (gad w 0))]) hx hb d_X_digest_142 rfl hl (by decide) rfl (fun ls hl => ?_)
    refine lv_ldc2 (v := 31) hx hb C.2.2.2.1 (C.2.2.2.2.1 _ qw637) d_X_digest_143 ?_
    refine lv_lload_n hx hb d_X_digest_146 rfl (lv_at hl 0 rfl) ?_
    refine lv_lmul hx hb d_X_digest_147 ?_
    refine lv_aload_n hx hb d_X_digest_148 rfl (lv_at hl 1 rfl) ?_
    refine lv_iconst (v := 0) hx hb d_X_digest_149 (by decide) ?_
    refine lv_iconst (v := 1) hx hb d_X_digest_150 (by decide) ?_
    obtain ⟨z12, hz12, h⟩ := bnd_some h
    refine g_goi hG (g_runV (As := [.int 0, .int 1]) (rest := [.long (31 * ((31 * ((31 * ((31 * ((31 * ((31 * z6.1) + z7.1.toInt64)) + z8.1.toInt64)) + z9.1.toInt64)) + z10.1.toInt64)) + z11.1.toInt64))]) C hG (c_X_swap l w z11.2 0 1 hz12 _) (hG.lt (Nat.le_of_ble_eq_true rfl)) (ce0 w _) rfl vw_X_325 rfl rfl ⟨by decide, by decide⟩ rfl hl.1 rfl (Nat.le_of_ble_eq_true rfl) d_X_digest_151 ⟨Nat.zero_le _, Nat.zero_le _⟩) (fun H locs hG => ?_)
    refine lv_i2l (v := z12.1.toInt64) hx hb d_X_digest_154 rfl ?_
    refine lv_ladd hx hb d_X_digest_155 ?_
    exact g_lret C hG (sm_fst h) (sm_snd h) hQ d_X_digest_156
  refine lv_ldc2 (v := 17) hx hb C.2.2.2.1 (C.2.2.2.2.1 _ qw636) d_X_digest_0 ?_
  refine lv_lstore_n (lv' := [(1, .long 17), (0, .ref (gad w 0))]) hx hb d_X_digest_3 rfl hl (by decide) rfl (fun ls hl => ?_)
  refine lv_iconst (v := 0) hx hb d_X_digest_4 (by decide) ?_
  refine lv_istore_n (lv' := [(3, .int 0), (1, .long 17), (0, .ref (gad w 0))]) hx hb d_X_digest_5 rfl hl (by decide) rfl (fun ls hl => ?_)
  obtain ⟨z13, hz13, h⟩ := bnd_some h
  refine L_X_digest_6 C FZ _ _ _ _ hz13 ?_ ls _ _ hG (lv_sub hl [2, 1, 0] rfl)
  intro y1 y3 Sy e9 ls H locs hG hl
  subst e9
  exact J31 _ _ h ls _ _ hG (lv_sub hl [0, 1] rfl)
