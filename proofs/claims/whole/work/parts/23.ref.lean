variable {p : Program} {l : Launch} {e : Env} {s : State} {m : MethodId} {args : Array Value} {below : List Frame} {meth : Method} {c : Code} {A : Nat → Prop} {Q : State → Prop} {w : gw} {S : St}
theorem d_M_price_0 : decode b_M_price 0 = .ok (.aload_n 0, 1) := by decide +kernel
theorem d_M_price_1 : decode b_M_price 1 = .ok (.invokevirtual 181, 3) := by decide +kernel
theorem d_M_price_4 : decode b_M_price 4 = .ok (.iload_n 1, 1) := by decide +kernel
theorem d_M_price_5 : decode b_M_price 5 = .ok (.invokestatic 152, 3) := by decide +kernel
theorem d_M_price_8 : decode b_M_price 8 = .ok (.ifCond .eq 11, 3) := by decide +kernel
theorem d_M_price_11 : decode b_M_price 11 = .ok (.aload_n 0, 1) := by decide +kernel
theorem d_M_price_12 : decode b_M_price 12 = .ok (.iload_n 1, 1) := by decide +kernel
theorem d_M_price_13 : decode b_M_price 13 = .ok (.invokevirtual 184, 3) := by decide +kernel
theorem d_M_price_16 : decode b_M_price 16 = .ok (.goto 5, 3) := by decide +kernel
theorem d_M_price_19 : decode b_M_price 19 = .ok (.bipush (-2), 2) := by decide +kernel
theorem d_M_price_21 : decode b_M_price 21 = .ok (.ireturn, 1) := by decide +kernel
noncomputable def M_price (S : St) (x1 : Int32) : Option (Int32 × St) :=
  bnd (M_find S) fun z1 =>
    if (M_isEvening x1) = 0 then
      some ((-2), z1)
    else
      bnd (M_priceOf z1 x1) fun z2 =>
      some (z2, z1)
set_option maxHeartbeats 4000000 in
set_option maxRecDepth 100000 in
theorem c_M_price (l : Launch) (w : gw) (S : St) (x1 : Int32)  {z : Int32 × St} (h : (M_price S x1) = some z) : gMi l w y_M_price b_M_price 2 (some .int) (rmm 5 112) [.ref (gad w 49), .int x1] S z.1 z.2 := by
  unfold M_price at h
  refine g_met (Qc := gQi w z.1 z.2) (by decide +kernel) (Nat.le_of_ble_eq_true rfl) ?_
  intro p e s m args below meth c A Q ls hQ C hG hl
  have hx := C.1
  have hb := C.2.1
  have hl : lv_has ls 2 [(0, .ref (gad w 49)), (1, .int x1)] := hl
  refine lv_aload_n hx hb d_M_price_0 rfl (lv_at hl 0 rfl) ?_
  obtain ⟨z1, hz1, h⟩ := bnd_some h
  refine g_gov hG (g_runV (As := []) (rest := []) C hG (c_M_find l w S hz1 _) (hG.lt (Nat.le_of_ble_eq_true rfl)) (ce49 w _) rfl vw_M_181 rfl rfl ⟨by decide, by decide⟩ rfl hl.1 rfl (Nat.le_of_ble_eq_true rfl) d_M_price_1 ⟨Nat.zero_le _, Nat.zero_le _⟩) (fun H locs hG => ?_)
  refine lv_iload_n hx hb d_M_price_4 rfl (lv_at hl 1 rfl) ?_
  refine g_goi hG (g_runS (As := [.int x1]) (rest := []) C hG (c_M_isEvening l w z1 x1 _) sw_M_152 rfl rfl ⟨by decide, by decide⟩ rfl hl.1 rfl (Nat.le_of_ble_eq_true rfl) d_M_price_5 ⟨Nat.zero_le _, Nat.zero_le _⟩) (fun H locs hG => ?_)
  refine lv_if_eq (tgt := 19) hx hb d_M_price_8 (by decide) (fun hc => ?_) (fun hc => ?_)
  · replace h := it_t h hc
    refine lv_bipush (v := (-2)) hx hb d_M_price_19 (by decide) ?_
    exact g_iret C hG (sm_fst h) (sm_snd h) hQ d_M_price_21
  · replace h := it_f h hc
    refine lv_aload_n hx hb d_M_price_11 rfl (lv_at hl 0 rfl) ?_
    refine lv_iload_n hx hb d_M_price_12 rfl (lv_at hl 1 rfl) ?_
    obtain ⟨z2, hz2, h⟩ := bnd_some h
    refine g_goi hG (g_runV (As := [.int x1]) (rest := []) C hG (c_M_priceOf l w z1 x1 hz2 _) (hG.lt (Nat.le_of_ble_eq_true rfl)) (ce49 w _) rfl vw_M_184 rfl rfl ⟨by decide, by decide⟩ rfl hl.1 rfl (Nat.le_of_ble_eq_true rfl) d_M_price_13 ⟨Nat.zero_le _, Nat.zero_le _⟩) (fun H locs hG => ?_)
    refine lv_goto (tgt := 21) hx hb d_M_price_16 (by decide) ?_
    exact g_iret C hG (sm_fst h) (sm_snd h) hQ d_M_price_21
theorem d_M_hasOf_0 : decode b_M_hasOf 0 = .ok (.iconst 0, 1) := by decide +kernel
theorem d_M_hasOf_1 : decode b_M_hasOf 1 = .ok (.istore_n 3, 1) := by decide +kernel
theorem d_M_hasOf_2 : decode b_M_hasOf 2 = .ok (.iconst 0, 1) := by decide +kernel
theorem d_M_hasOf_3 : decode b_M_hasOf 3 = .ok (.istore 4, 2) := by decide +kernel
theorem d_M_hasOf_5 : decode b_M_hasOf 5 = .ok (.iconst 0, 1) := by decide +kernel
theorem d_M_hasOf_6 : decode b_M_hasOf 6 = .ok (.istore 5, 2) := by decide +kernel
theorem d_M_hasOf_8 : decode b_M_hasOf 8 = .ok (.iconst 0, 1) := by decide +kernel
theorem d_M_hasOf_9 : decode b_M_hasOf 9 = .ok (.istore 6, 2) := by decide +kernel
theorem d_M_hasOf_11 : decode b_M_hasOf 11 = .ok (.iload 6, 2) := by decide +kernel
theorem d_M_hasOf_13 : decode b_M_hasOf 13 = .ok (.bipush 10, 2) := by decide +kernel
theorem d_M_hasOf_15 : decode b_M_hasOf 15 = .ok (.if_icmp .ge 48, 3) := by decide +kernel
theorem d_M_hasOf_18 : decode b_M_hasOf 18 = .ok (.aload_n 0, 1) := by decide +kernel
theorem d_M_hasOf_19 : decode b_M_hasOf 19 = .ok (.iload 6, 2) := by decide +kernel
theorem d_M_hasOf_21 : decode b_M_hasOf 21 = .ok (.invokevirtual 162, 3) := by decide +kernel
theorem d_M_hasOf_24 : decode b_M_hasOf 24 = .ok (.iload_n 1, 1) := by decide +kernel
theorem d_M_hasOf_25 : decode b_M_hasOf 25 = .ok (.if_icmp .ne 32, 3) := by decide +kernel
theorem d_M_hasOf_28 : decode b_M_hasOf 28 = .ok (.iload_n 3, 1) := by decide +kernel
theorem d_M_hasOf_29 : decode b_M_hasOf 29 = .ok (.iconst 1, 1) := by decide +kernel
theorem d_M_hasOf_30 : decode b_M_hasOf 30 = .ok (.iload 6, 2) := by decide +kernel
theorem d_M_hasOf_32 : decode b_M_hasOf 32 = .ok (.ishl, 1) := by decide +kernel
theorem d_M_hasOf_33 : decode b_M_hasOf 33 = .ok (.ior, 1) := by decide +kernel
theorem d_M_hasOf_34 : decode b_M_hasOf 34 = .ok (.istore_n 3, 1) := by decide +kernel
theorem d_M_hasOf_35 : decode b_M_hasOf 35 = .ok (.iload 4, 2) := by decide +kernel
theorem d_M_hasOf_37 : decode b_M_hasOf 37 = .ok (.aload_n 0, 1) := by decide +kernel
theorem d_M_hasOf_38 : decode b_M_hasOf 38 = .ok (.iload 6, 2) := by decide +kernel
theorem d_M_hasOf_40 : decode b_M_hasOf 40 = .ok (.invokevirtual 165, 3) := by decide +kernel
theorem d_M_hasOf_43 : decode b_M_hasOf 43 = .ok (.iadd, 1) := by decide +kernel
theorem d_M_hasOf_44 : decode b_M_hasOf 44 = .ok (.istore 4, 2) := by decide +kernel
theorem d_M_hasOf_46 : decode b_M_hasOf 46 = .ok (.iload 5, 2) := by decide +kernel
theorem d_M_hasOf_48 : decode b_M_hasOf 48 = .ok (.aload_n 0, 1) := by decide +kernel
theorem d_M_hasOf_49 : decode b_M_hasOf 49 = .ok (.iload 6, 2) := by decide +kernel
theorem d_M_hasOf_51 : decode b_M_hasOf 51 = .ok (.invokevirtual 184, 3) := by decide +kernel
theorem d_M_hasOf_54 : decode b_M_hasOf 54 = .ok (.iadd, 1) := by decide +kernel
theorem d_M_hasOf_55 : decode b_M_hasOf 55 = .ok (.istore 5, 2) := by decide +kernel
theorem d_M_hasOf_57 : decode b_M_hasOf 57 = .ok (.iinc 6 1, 3) := by decide +kernel
theorem d_M_hasOf_60 : decode b_M_hasOf 60 = .ok (.goto (-49), 3) := by decide +kernel
theorem d_M_hasOf_63 : decode b_M_hasOf 63 = .ok (.iload_n 2, 1) := by decide +kernel
theorem d_M_hasOf_64 : decode b_M_hasOf 64 = .ok (.ifCond .ne 7, 3) := by decide +kernel
theorem d_M_hasOf_67 : decode b_M_hasOf 67 = .ok (.iload_n 3, 1) := by decide +kernel
theorem d_M_hasOf_68 : decode b_M_hasOf 68 = .ok (.goto 22, 3) := by decide +kernel
theorem d_M_hasOf_71 : decode b_M_hasOf 71 = .ok (.iload_n 2, 1) := by decide +kernel
theorem d_M_hasOf_72 : decode b_M_hasOf 72 = .ok (.iconst 1, 1) := by decide +kernel
theorem d_M_hasOf_73 : decode b_M_hasOf 73 = .ok (.if_icmp .ne 8, 3) := by decide +kernel
theorem d_M_hasOf_76 : decode b_M_hasOf 76 = .ok (.iload 4, 2) := by decide +kernel
theorem d_M_hasOf_78 : decode b_M_hasOf 78 = .ok (.goto 12, 3) := by decide +kernel
theorem d_M_hasOf_81 : decode b_M_hasOf 81 = .ok (.aload_n 0, 1) := by decide +kernel
theorem d_M_hasOf_82 : decode b_M_hasOf 82 = .ok (.getfield 28, 3) := by decide +kernel
theorem d_M_hasOf_85 : decode b_M_hasOf 85 = .ok (.iload_n 1, 1) := by decide +kernel
theorem d_M_hasOf_86 : decode b_M_hasOf 86 = .ok (.iaload, 1) := by decide +kernel
theorem d_M_hasOf_87 : decode b_M_hasOf 87 = .ok (.iload 5, 2) := by decide +kernel
theorem d_M_hasOf_89 : decode b_M_hasOf 89 = .ok (.isub, 1) := by decide +kernel
theorem d_M_hasOf_90 : decode b_M_hasOf 90 = .ok (.ireturn, 1) := by decide +kernel
noncomputable def M_hasOf_L11 (S : St) (x1 : Int32) (x2 : Int32) (x3 : Int32) (x4 : Int32) (x5 : Int32) (x6 : Int32) : Option ((Int32 × Int32 × Int32 × Int32) × Nat) :=
  if 10 ≤ x6 then
      some ((x3, x4, x5, x6), 1)
    else
      bnd (M_ownerOf S x6) fun z1 =>
      if z1 = x1 then
        bnd (M_amountOf S x6) fun z2 =>
        bnd (M_priceOf S x6) fun z3 =>
        some ((x3 ||| ((1 : Int32) <<< (x6 &&& 31)), x4 + z2, x5 + z3, x6 + 1), 0)
      else
        some ((x3, x4, x5, x6 + 1), 0)
noncomputable def M_hasOf_J63 (S : St) (x1 : Int32) (x2 : Int32) (x3 : Int32) (x4 : Int32) (x5 : Int32) : Option (Int32) :=
  if x2 = 0 then
      some x3
    else
      if x2 = 1 then
        some x4
      else
        chk (inb x1 5) <|
        some ((S 56 (ix x1)) - x5)
noncomputable def M_hasOf (S : St) (x1 : Int32) (x2 : Int32) : Option (Int32) :=
  bnd (lp (σ := Int32 × Int32 × Int32 × Int32) (fun q => M_hasOf_L11 S x1 x2 q.1 q.2.1 q.2.2.1 q.2.2.2) FZ (0, 0, 0, 0)) fun z4 =>
    M_hasOf_J63 S x1 x2 z4.1.1 z4.1.2.1 z4.1.2.2.1
set_option maxHeartbeats 4000000 in
set_option maxRecDepth 100000 in
theorem L_M_hasOf_11 (C : gCx p s m args meth c y_M_hasOf.cls b_M_hasOf 7 (some .int)) : ∀ (S : St) (x1 : Int32) (x2 : Int32) (n : Nat) (x3 : Int32) (x4 : Int32) (x5 : Int32) (x6 : Int32) (r : (Int32 × Int32 × Int32 × Int32) × Nat), lp (σ := Int32 × Int32 × Int32 × Int32) (fun q => M_hasOf_L11 S x1 x2 q.1 q.2.1 q.2.2.1 q.2.2.2) n (x3, x4, x5, x6) = some r → (∀ (y3 : Int32) (y4 : Int32) (y5 : Int32) (y6 : Int32), r = ((y3, y4, y5, y6), 1) → ∀ (ls : Array Slot) (H : Heap) (locs : List Loc), GH w s A S H locs → lv_has ls 7 [(0, .ref (gad w 49)), (1, .int x1), (2, .int x2), (3, .int y3), (4, .int y4), (5, .int y5)] → W p l e (rmm 2 45) s m args below meth c H locs 0 0 Q (F0 m 63 ls [])) → ∀ (ls : Array Slot) (H : Heap) (locs : List Loc), GH w s A S H locs → lv_has ls 7 [(0, .ref (gad w 49)), (1, .int x1), (2, .int x2), (3, .int x3), (4, .int x4), (5, .int x5), (6, .int x6)] → W p l e (rmm 2 45) s m args below meth c H locs 0 0 Q (F0 m 11 ls []) := by
  have hx := C.1
  have hb := C.2.1
  intro S x1 x2 n
  induction n with
  | zero => intro x3 x4 x5 x6 r h; cases h
  | succ n ih =>
    intro x3 x4 x5 x6 r h k1 ls H locs hG hl
    obtain ⟨z, h, hr⟩ := lp_succ h
    have h : M_hasOf_L11 S x1 x2 x3 x4 x5 x6 = some z := h
    unfold M_hasOf_L11 at h
    refine lv_iload hx hb d_M_hasOf_11 (lv_at hl 6 rfl) ?_
    refine lv_bipush (v := 10) hx hb d_M_hasOf_13 (by decide) ?_
    refine lv_icmp_ge (tgt := 63) hx hb d_M_hasOf_15 (by decide) (fun hc => ?_) (fun hc => ?_)
    · replace h := it_t h hc
      exact k1 _ _ _ _ (lp_exit h hr) ls _ _ hG (lv_sub hl [0, 1, 2, 3, 4, 5] rfl)
    · replace h := it_f h hc
      refine lv_aload_n hx hb d_M_hasOf_18 rfl (lv_at hl 0 rfl) ?_
      refine lv_iload hx hb d_M_hasOf_19 (lv_at hl 6 rfl) ?_
      obtain ⟨z1, hz1, h⟩ := bnd_some h
      refine g_goi hG (g_runV (As := [.int x6]) (rest := []) C hG (c_M_ownerOf l w S x6 hz1 _) (hG.lt (Nat.le_of_ble_eq_true rfl)) (ce49 w _) rfl vw_M_162 rfl rfl ⟨by decide, by decide⟩ rfl hl.1 rfl (Nat.le_of_ble_eq_true rfl) d_M_hasOf_21 ⟨Nat.zero_le _, Nat.zero_le _⟩) (fun H locs hG => ?_)
      refine lv_iload_n hx hb d_M_hasOf_24 rfl (lv_at hl 1 rfl) ?_
      refine lv_icmp_ne (tgt := 57) hx hb d_M_hasOf_25 (by decide) (fun hc => ?_) (fun hc => ?_)
      · replace h := it_f h hc
        refine lv_iinc (v := x6 + 1) (lv' := [(6, .int (x6 + 1)), (0, .ref (gad w 49)), (1, .int x1), (2, .int x2), (3, .int x3), (4, .int x4), (5, .int x5)]) hx hb d_M_hasOf_57 hl (k := 6) rfl (congrArg (HAdd.hAdd x6) (by decide : Int32.ofInt 1 = 1)) (by decide) rfl (fun ls hl => ?_)
        refine lv_goto (tgt := 11) hx hb d_M_hasOf_60 (by decide) ?_
        exact ih _ _ _ _ _ (lp_back h hr) k1 ls _ _ hG (lv_sub hl [1, 2, 3, 4, 5, 6, 0] rfl)
      · replace h := it_t h hc
        refine lv_iload_n hx hb d_M_hasOf_28 rfl (lv_at hl 3 rfl) ?_
        refine lv_iconst (v := 1) hx hb d_M_hasOf_29 (by decide) ?_
        refine lv_iload hx hb d_M_hasOf_30 (lv_at hl 6 rfl) ?_
        refine lv_ishl hx hb d_M_hasOf_32 ?_
        refine lv_ior hx hb d_M_hasOf_33 ?_
        refine lv_istore_n (lv' := [(3, .int (x3 ||| ((1 : Int32) <<< (x6 &&& 31)))), (0, .ref (gad w 49)), (1, .int x1), (2, .int x2), (4, .int x4), (5, .int x5), (6, .int x6)]) hx hb d_M_hasOf_34 rfl hl (by decide) rfl (fun ls hl => ?_)
        refine lv_iload hx hb d_M_hasOf_35 (lv_at hl 4 rfl) ?_
        refine lv_aload_n hx hb d_M_hasOf_37 rfl (lv_at hl 1 rfl) ?_
        refine lv_iload hx hb d_M_hasOf_38 (lv_at hl 6 rfl) ?_
        obtain ⟨z2, hz2, h⟩ := bnd_some h
        refine g_goi hG (g_runV (As := [.int x6]) (rest := [.int x4]) C hG (c_M_amountOf l w S x6 hz2 _) (hG.lt (Nat.le_of_ble_eq_true rfl)) (ce49 w _) rfl vw_M_165 rfl rfl ⟨by decide, by decide⟩ rfl hl.1 rfl (Nat.le_of_ble_eq_true rfl) d_M_hasOf_40 ⟨Nat.zero_le _, Nat.zero_le _⟩) (fun H locs hG => ?_)
        refine lv_iadd hx hb d_M_hasOf_43 ?_
        refine lv_istore (lv' := [(4, .int (x4 + z2)), (3, .int (x3 ||| ((1 : Int32) <<< (x6 &&& 31)))), (0, .ref (gad w 49)), (1, .int x1), (2, .int x2), (5, .int x5), (6, .int x6)]) hx hb d_M_hasOf_44 hl (by decide) rfl (fun ls hl => ?_)
        refine lv_iload hx hb d_M_hasOf_46 (lv_at hl 5 rfl) ?_
        refine lv_aload_n hx hb d_M_hasOf_48 rfl (lv_at hl 2 rfl) ?_
        refine lv_iload hx hb d_M_hasOf_49 (lv_at hl 6 rfl) ?_
        obtain ⟨z3, hz3, h⟩ := bnd_some h
        refine g_goi hG (g_runV (As := [.int x6]) (rest := [.int x5]) C hG (c_M_priceOf l w S x6 hz3 _) (hG.lt (Nat.le_of_ble_eq_true rfl)) (ce49 w _) rfl vw_M_184 rfl rfl ⟨by decide, by decide⟩ rfl hl.1 rfl (Nat.le_of_ble_eq_true rfl) d_M_hasOf_51 ⟨Nat.zero_le _, Nat.zero_le _⟩) (fun H locs hG => ?_)
        refine lv_iadd hx hb d_M_hasOf_54 ?_
        refine lv_istore (lv' := [(5, .int (x5 + z3)), (4, .int (x4 + z2)), (3, .int (x3 ||| ((1 : Int32) <<< (x6 &&& 31)))), (0, .ref (gad w 49)), (1, .int x1), (2, .int x2), (6, .int x6)]) hx hb d_M_hasOf_55 hl (by decide) rfl (fun ls hl => ?_)
        refine lv_iinc (v := x6 + 1) (lv' := [(6, .int (x6 + 1)), (5, .int (x5 + z3)), (4, .int (x4 + z2)), (3, .int (x3 ||| ((1 : Int32) <<< (x6 &&& 31)))), (0, .ref (gad w 49)), (1, .int x1), (2, .int x2)]) hx hb d_M_hasOf_57 hl (k := 6) rfl (congrArg (HAdd.hAdd x6) (by decide : Int32.ofInt 1 = 1)) (by decide) rfl (fun ls hl => ?_)
        refine lv_goto (tgt := 11) hx hb d_M_hasOf_60 (by decide) ?_
        exact ih _ _ _ _ _ (lp_back h hr) k1 ls _ _ hG (lv_sub hl [4, 5, 6, 3, 2, 1, 0] rfl)
set_option maxHeartbeats 4000000 in
set_option maxRecDepth 100000 in
theorem c_M_hasOf (l : Launch) (w : gw) (S : St) (x1 : Int32) (x2 : Int32)  {z : Int32} (h : (M_hasOf S x1 x2) = some z) : gMi l w y_M_hasOf b_M_hasOf 7 (some .int) (rmm 2 45) [.ref (gad w 49), .int x1, .int x2] S z S := by
  unfold M_hasOf at h
  refine g_met (Qc := gQi w z S) (by decide +kernel) (Nat.le_of_ble_eq_true rfl) ?_
  intro p e s m args below meth c A Q ls hQ C hG hl
  have hx := C.1
  have hb := C.2.1
  have hl : lv_has ls 7 [(0, .ref (gad w 49)), (1, .int x1), (2, .int x2)] := hl
  have J63 : ∀ (x3 : Int32) (x4 : Int32) (x5 : Int32), M_hasOf_J63 S x1 x2 x3 x4 x5 = some z → ∀ (ls : Array Slot) (H : Heap) (locs : List Loc), GH w s A S H locs → lv_has ls 7 [(0, .ref (gad w 49)), (1, .int x1), (2, .int x2), (3, .int x3), (4, .int x4), (5, .int x5)] → W p l e (rmm 2 45) s m args below meth c H locs 0 0 Q (F0 m 63 ls []) := by
    intro x3 x4 x5 h ls H locs hG hl
    unfold M_hasOf_J63 at h
    refine lv_iload_n hx hb d_M_hasOf_63 rfl (lv_at hl 2 rfl) ?_
    refine lv_if_ne (tgt := 71) hx hb d_M_hasOf_64 (by decide) (fun hc => ?_) (fun hc => ?_)
    · replace h := it_f h hc
      refine lv_iload_n hx hb d_M_hasOf_71 rfl (lv_at hl 2 rfl) ?_
      refine lv_iconst (v := 1) hx hb d_M_hasOf_72 (by decide) ?_
      refine lv_icmp_ne (tgt := 81) hx hb d_M_hasOf_73 (by decide) (fun hc => ?_) (fun hc => ?_)
      · replace h := it_f h hc
        refine lv_aload_n hx hb d_M_hasOf_81 rfl (lv_at hl 0 rfl) ?_
        refine g_get C hG (hG.lt (Nat.le_of_ble_eq_true rfl)) (ce49 w _) rfl inC8 10 (Nat.le_of_ble_eq_true rfl) qw686 rfl d_M_hasOf_82 ?_
        refine lv_iload_n hx hb d_M_hasOf_85 rfl (lv_at hl 1 rfl) ?_
        obtain ⟨hi1, h⟩ := chk_some h
        refine g_iald (j := ix x1) C hG (hG.lt (Nat.le_of_ble_eq_true rfl)) (ce56 w _) (inb_in hi1) rfl d_M_hasOf_86 ?_
        refine lv_iload hx hb d_M_hasOf_87 (lv_at hl 5 rfl) ?_
        refine lv_isub hx hb d_M_hasOf_89 ?_
        exact g_iret C hG (Option.some.inj h) rfl hQ d_M_hasOf_90
      · replace h := it_t h hc
        refine lv_iload hx hb d_M_hasOf_76 (lv_at hl 4 rfl) ?_
        refine lv_goto (tgt := 90) hx hb d_M_hasOf_78 (by decide) ?_
        exact g_iret C hG (Option.some.inj h) rfl hQ d_M_hasOf_90
    · replace h := it_t h hc
      refine lv_iload_n hx hb d_M_hasOf_67 rfl (lv_at hl 3 rfl) ?_
      refine lv_goto (tgt := 90) hx hb d_M_hasOf_68 (by decide) ?_
      exact g_iret C hG (Option.some.inj h) rfl hQ d_M_hasOf_90
  refine lv_iconst (v := 0) hx hb d_M_hasOf_0 (by decide) ?_
  refine lv_istore_n (lv' := [(3, .int 0), (0, .ref (gad w 49)), (1, .int x1), (2, .int x2)]) hx hb d_M_hasOf_1 rfl hl (by decide) rfl (fun ls hl => ?_)
  refine lv_iconst (v := 0) hx hb d_M_hasOf_2 (by decide) ?_
  refine lv_istore (lv' := [(4, .int 0), (3, .int 0), (0, .ref (gad w 49)), (1, .int x1), (2, .int x2)]) hx hb d_M_hasOf_3 hl (by decide) rfl (fun ls hl => ?_)
  refine lv_iconst (v := 0) hx hb d_M_hasOf_5 (by decide) ?_
  refine lv_istore (lv' := [(5, .int 0), (4, .int 0), (3, .int 0), (0, .ref (gad w 49)), (1, .int x1), (2, .int x2)]) hx hb d_M_hasOf_6 hl (by decide) rfl (fun ls hl => ?_)
  refine lv_iconst (v := 0) hx hb d_M_hasOf_8 (by decide) ?_
  refine lv_istore (lv' := [(6, .int 0), (5, .int 0), (4, .int 0), (3, .int 0), (0, .ref (gad w 49)), (1, .int x1), (2, .int x2)]) hx hb d_M_hasOf_9 hl (by decide) rfl (fun ls hl => ?_)
  obtain ⟨z4, hz4, h⟩ := bnd_some h
  refine L_M_hasOf_11 C _ _ _ FZ _ _ _ _ _ hz4 ?_ ls _ _ hG (lv_sub hl [4, 5, 6, 3, 2, 1, 0] rfl)
  intro y3 y4 y5 y6 e9 ls H locs hG hl
  subst e9
  exact J63 _ _ _ h ls _ _ hG (lv_sub hl [0, 1, 2, 3, 4, 5] rfl)
theorem d_M_has_0 : decode b_M_has 0 = .ok (.aload_n 0, 1) := by decide +kernel
theorem d_M_has_1 : decode b_M_has 1 = .ok (.invokevirtual 181, 3) := by decide +kernel
theorem d_M_has_4 : decode b_M_has 4 = .ok (.iload_n 1, 1) := by decide +kernel
theorem d_M_has_5 : decode b_M_has 5 = .ok (.invokestatic 140, 3) := by decide +kernel
theorem d_M_has_8 : decode b_M_has 8 = .ok (.ifCond .eq 24, 3) := by decide +kernel
theorem d_M_has_11 : decode b_M_has 11 = .ok (.iload_n 2, 1) := by decide +kernel
theorem d_M_has_12 : decode b_M_has 12 = .ok (.i2l, 1) := by decide +kernel
theorem d_M_has_13 : decode b_M_has 13 = .ok (.lconst 0, 1) := by decide +kernel
theorem d_M_has_14 : decode b_M_has 14 = .ok (.ldc2_w 96, 3) := by decide +kernel
theorem d_M_has_17 : decode b_M_has 17 = .ok (.invokestatic 82, 3) := by decide +kernel
theorem d_M_has_20 : decode b_M_has 20 = .ok (.ifCond .eq 12, 3) := by decide +kernel
theorem d_M_has_23 : decode b_M_has 23 = .ok (.aload_n 0, 1) := by decide +kernel
theorem d_M_has_24 : decode b_M_has 24 = .ok (.iload_n 1, 1) := by decide +kernel
theorem d_M_has_25 : decode b_M_has 25 = .ok (.iload_n 2, 1) := by decide +kernel
theorem d_M_has_26 : decode b_M_has 26 = .ok (.invokevirtual 187, 3) := by decide +kernel
theorem d_M_has_29 : decode b_M_has 29 = .ok (.goto 5, 3) := by decide +kernel
theorem d_M_has_32 : decode b_M_has 32 = .ok (.bipush (-2), 2) := by decide +kernel
theorem d_M_has_34 : decode b_M_has 34 = .ok (.ireturn, 1) := by decide +kernel
noncomputable def M_has (S : St) (x1 : Int32) (x2 : Int32) : Option (Int32 × St) :=
  bnd (M_find S) fun z1 =>
    if (M_isBidder x1) = 0 then
      some ((-2), z1)
    else
      if (M_in x2.toInt64 0 2) = 0 then
        some ((-2), z1)
      else
        bnd (M_hasOf z1 x1 x2) fun z2 =>
        some (z2, z1)
set_option maxHeartbeats 4000000 in
set_option maxRecDepth 100000 in
theorem c_M_has (l : Launch) (w : gw) (S : St) (x1 : Int32) (x2 : Int32)  {z : Int32 × St} (h : (M_has S x1 x2) = some z) : gMi l w y_M_has b_M_has 3 (some .int) (rmm 5 112) [.ref (gad w 49), .int x1, .int x2] S z.1 z.2 := by
  unfold M_has at h
  refine g_met (Qc := gQi w z.1 z.2) (by decide +kernel) (Nat.le_of_ble_eq_true rfl) ?_
  intro p e s m args below meth c A Q ls hQ C hG hl
  have hx := C.1
  have hb := C.2.1
  have hl : lv_has ls 3 [(0, .ref (gad w 49)), (1, .int x1), (2, .int x2)] := hl
  refine lv_aload_n hx hb d_M_has_0 rfl (lv_at hl 0 rfl) ?_
  obtain ⟨z1, hz1, h⟩ := bnd_some h
  refine g_gov hG (g_runV (As := []) (rest := []) C hG (c_M_find l w S hz1 _) (hG.lt (Nat.le_of_ble_eq_true rfl)) (ce49 w _) rfl vw_M_181 rfl rfl ⟨by decide, by decide⟩ rfl hl.1 rfl (Nat.le_of_ble_eq_true rfl) d_M_has_1 ⟨Nat.zero_le _, Nat.zero_le _⟩) (fun H locs hG => ?_)
  refine lv_iload_n hx hb d_M_has_4 rfl (lv_at hl 1 rfl) ?_
  refine g_goi hG (g_runS (As := [.int x1]) (rest := []) C hG (c_M_isBidder l w z1 x1 _) sw_M_140 rfl rfl ⟨by decide, by decide⟩ rfl hl.1 rfl (Nat.le_of_ble_eq_true rfl) d_M_has_5 ⟨Nat.zero_le _, Nat.zero_le _⟩) (fun H locs hG => ?_)
  refine lv_if_eq (tgt := 32) hx hb d_M_has_8 (by decide) (fun hc => ?_) (fun hc => ?_)
  · replace h := it_t h hc
    refine lv_bipush (v := (-2)) hx hb d_M_has_32 (by decide) ?_
    exact g_iret C hG (sm_fst h) (sm_snd h) hQ d_M_has_34
  · replace h := it_f h hc
    refine lv_iload_n hx hb d_M_has_11 rfl (lv_at hl 2 rfl) ?_
    refine lv_i2l (v := x2.toInt64) hx hb d_M_has_12 rfl ?_
    refine lv_lconst (v := 0) hx hb d_M_has_13 (by decide) ?_
    refine lv_ldc2 (v := 2) hx hb C.2.2.2.1 (C.2.2.2.2.1 _ qw775) d_M_has_14 ?_
    refine g_goi hG (g_runS (As := [.long x2.toInt64, .long 0, .long 2]) (rest := []) C hG (c_M_in l w z1 x2.toInt64 0 2 _) sw_M_82 rfl rfl ⟨by decide, by decide⟩ rfl hl.1 rfl (Nat.le_of_ble_eq_true rfl) d_M_has_17 ⟨Nat.zero_le _, Nat.zero_le _⟩) (fun H locs hG => ?_)
    refine lv_if_eq (tgt := 32) hx hb d_M_has_20 (by decide) (fun hc => ?_) (fun hc => ?_)
    · replace h := it_t h hc
      refine lv_bipush (v := (-2)) hx hb d_M_has_32 (by decide) ?_
      exact g_iret C hG (sm_fst h) (sm_snd h) hQ d_M_has_34
    · replace h := it_f h hc
      refine lv_aload_n hx hb d_M_has_23 rfl (lv_at hl 0 rfl) ?_
      refine lv_iload_n hx hb d_M_has_24 rfl (lv_at hl 1 rfl) ?_
      refine lv_iload_n hx hb d_M_has_25 rfl (lv_at hl 2 rfl) ?_
      obtain ⟨z2, hz2, h⟩ := bnd_some h
      refine g_goi hG (g_runV (As := [.int x1, .int x2]) (rest := []) C hG (c_M_hasOf l w z1 x1 x2 hz2 _) (hG.lt (Nat.le_of_ble_eq_true rfl)) (ce49 w _) rfl vw_M_187 rfl rfl ⟨by decide, by decide⟩ rfl hl.1 rfl (Nat.le_of_ble_eq_true rfl) d_M_has_26 ⟨Nat.zero_le _, Nat.zero_le _⟩) (fun H locs hG => ?_)
      refine lv_goto (tgt := 34) hx hb d_M_has_29 (by decide) ?_
      exact g_iret C hG (sm_fst h) (sm_snd h) hQ d_M_has_34
theorem d_M_happyOf_0 : decode b_M_happyOf 0 = .ok (.iconst 0, 1) := by decide +kernel
theorem d_M_happyOf_1 : decode b_M_happyOf 1 = .ok (.istore_n 3, 1) := by decide +kernel
theorem d_M_happyOf_2 : decode b_M_happyOf 2 = .ok (.iconst 0, 1) := by decide +kernel
theorem d_M_happyOf_3 : decode b_M_happyOf 3 = .ok (.istore 4, 2) := by decide +kernel
theorem d_M_happyOf_5 : decode b_M_happyOf 5 = .ok (.iload 4, 2) := by decide +kernel
theorem d_M_happyOf_7 : decode b_M_happyOf 7 = .ok (.bipush 10, 2) := by decide +kernel
theorem d_M_happyOf_9 : decode b_M_happyOf 9 = .ok (.if_icmp .ge 68, 3) := by decide +kernel
theorem d_M_happyOf_12 : decode b_M_happyOf 12 = .ok (.aload_n 0, 1) := by decide +kernel
theorem d_M_happyOf_13 : decode b_M_happyOf 13 = .ok (.getfield 52, 3) := by decide +kernel
theorem d_M_happyOf_16 : decode b_M_happyOf 16 = .ok (.iload 4, 2) := by decide +kernel
theorem d_M_happyOf_18 : decode b_M_happyOf 18 = .ok (.iaload, 1) := by decide +kernel
theorem d_M_happyOf_19 : decode b_M_happyOf 19 = .ok (.iconst (-1), 1) := by decide +kernel
theorem d_M_happyOf_20 : decode b_M_happyOf 20 = .ok (.if_icmp .eq 16, 3) := by decide +kernel
theorem d_M_happyOf_23 : decode b_M_happyOf 23 = .ok (.iload_n 2, 1) := by decide +kernel
theorem d_M_happyOf_24 : decode b_M_happyOf 24 = .ok (.iload 4, 2) := by decide +kernel
theorem d_M_happyOf_26 : decode b_M_happyOf 26 = .ok (.invokestatic 190, 3) := by decide +kernel
theorem d_M_happyOf_29 : decode b_M_happyOf 29 = .ok (.ifCond .ne 7, 3) := by decide +kernel
theorem d_M_happyOf_32 : decode b_M_happyOf 32 = .ok (.iconst 1, 1) := by decide +kernel
theorem d_M_happyOf_33 : decode b_M_happyOf 33 = .ok (.goto 4, 3) := by decide +kernel
theorem d_M_happyOf_36 : decode b_M_happyOf 36 = .ok (.iconst 0, 1) := by decide +kernel
theorem d_M_happyOf_37 : decode b_M_happyOf 37 = .ok (.istore 5, 2) := by decide +kernel
theorem d_M_happyOf_39 : decode b_M_happyOf 39 = .ok (.iload_n 3, 1) := by decide +kernel
theorem d_M_happyOf_40 : decode b_M_happyOf 40 = .ok (.iload 5, 2) := by decide +kernel
theorem d_M_happyOf_42 : decode b_M_happyOf 42 = .ok (.ifCond .eq 26, 3) := by decide +kernel
theorem d_M_happyOf_45 : decode b_M_happyOf 45 = .ok (.aload_n 0, 1) := by decide +kernel
theorem d_M_happyOf_46 : decode b_M_happyOf 46 = .ok (.getfield 37, 3) := by decide +kernel
theorem d_M_happyOf_49 : decode b_M_happyOf 49 = .ok (.iconst 5, 1) := by decide +kernel
theorem d_M_happyOf_50 : decode b_M_happyOf 50 = .ok (.iload_n 1, 1) := by decide +kernel
theorem d_M_happyOf_51 : decode b_M_happyOf 51 = .ok (.imul, 1) := by decide +kernel
theorem d_M_happyOf_52 : decode b_M_happyOf 52 = .ok (.aload_n 0, 1) := by decide +kernel
theorem d_M_happyOf_53 : decode b_M_happyOf 53 = .ok (.getfield 31, 3) := by decide +kernel
theorem d_M_happyOf_56 : decode b_M_happyOf 56 = .ok (.aload_n 0, 1) := by decide +kernel
theorem d_M_happyOf_57 : decode b_M_happyOf 57 = .ok (.iload 4, 2) := by decide +kernel
theorem d_M_happyOf_59 : decode b_M_happyOf 59 = .ok (.invokevirtual 162, 3) := by decide +kernel
theorem d_M_happyOf_62 : decode b_M_happyOf 62 = .ok (.iaload, 1) := by decide +kernel
theorem d_M_happyOf_63 : decode b_M_happyOf 63 = .ok (.iadd, 1) := by decide +kernel
theorem d_M_happyOf_64 : decode b_M_happyOf 64 = .ok (.iaload, 1) := by decide +kernel
theorem d_M_happyOf_65 : decode b_M_happyOf 65 = .ok (.goto 4, 3) := by decide +kernel
theorem d_M_happyOf_68 : decode b_M_happyOf 68 = .ok (.iconst 0, 1) := by decide +kernel
theorem d_M_happyOf_69 : decode b_M_happyOf 69 = .ok (.iadd, 1) := by decide +kernel
theorem d_M_happyOf_70 : decode b_M_happyOf 70 = .ok (.istore_n 3, 1) := by decide +kernel
theorem d_M_happyOf_71 : decode b_M_happyOf 71 = .ok (.iinc 4 1, 3) := by decide +kernel
theorem d_M_happyOf_74 : decode b_M_happyOf 74 = .ok (.goto (-69), 3) := by decide +kernel
theorem d_M_happyOf_77 : decode b_M_happyOf 77 = .ok (.iload_n 3, 1) := by decide +kernel
theorem d_M_happyOf_78 : decode b_M_happyOf 78 = .ok (.ireturn, 1) := by decide +kernel
noncomputable def M_happyOf_J37 (S : St) (x1 : Int32) (x2 : Int32) (x3 : Int32) (x4 : Int32) (t0 : Int32) : Option ((Int32 × Int32) × Nat) :=
  if t0 = 0 then
      some ((x3 + 0, x4 + 1), 0)
    else
      bnd (M_ownerOf S x4) fun z1 =>
      chk (inb z1 5) <|
      chk (inb ((5 * x1) + (S 57 (ix z1))) 25) <|
      some ((x3 + (S 59 (ix ((5 * x1) + (S 57 (ix z1))))), x4 + 1), 0)
noncomputable def M_happyOf_J36 (S : St) (x1 : Int32) (x2 : Int32) (x3 : Int32) (x4 : Int32) : Option ((Int32 × Int32) × Nat) :=
  M_happyOf_J37 S x1 x2 x3 x4 0
noncomputable def M_happyOf_L5 (S : St) (x1 : Int32) (x2 : Int32) (x3 : Int32) (x4 : Int32) : Option ((Int32 × Int32) × Nat) :=
  if 10 ≤ x4 then
      some ((x3, x4), 1)
    else
      chk (inb x4 10) <|
      if (S 64 (ix x4)) = (-1) then
        M_happyOf_J36 S x1 x2 x3 x4
      else
        if (M_isIn x2 x4) = 0 then
          M_happyOf_J37 S x1 x2 x3 x4 1
        else
          M_happyOf_J36 S x1 x2 x3 x4
noncomputable def M_happyOf_J77 (S : St) (x3 : Int32) : Option (Int32) :=
  some x3
noncomputable def M_happyOf (S : St) (x1 : Int32) (x2 : Int32) : Option (Int32) :=
  bnd (lp (σ := Int32 × Int32) (fun q => M_happyOf_L5 S x1 x2 q.1 q.2) FZ (0, 0)) fun z2 =>
    M_happyOf_J77 S z2.1.1
set_option maxHeartbeats 4000000 in
set_option maxRecDepth 100000 in
theorem L_M_happyOf_5 (C : gCx p s m args meth c y_M_happyOf.cls b_M_happyOf 6 (some .int)) : ∀ (S : St) (x1 : Int32) (x2 : Int32) (n : Nat) (x3 : Int32) (x4 : Int32) (r : (Int32 × Int32) × Nat), lp (σ := Int32 × Int32) (fun q => M_happyOf_L5 S x1 x2 q.1 q.2) n (x3, x4) = some r → (∀ (y3 : Int32) (y4 : Int32), r = ((y3, y4), 1) → ∀ (ls : Array Slot) (H : Heap) (locs : List Loc), GH w s A S H locs → lv_has ls 6 [(3, .int y3)] → W p l e (rmm 1 21) s m args below meth c H locs 0 0 Q (F0 m 77 ls [])) → ∀ (ls : Array Slot) (H : Heap) (locs : List Loc), GH w s A S H locs → lv_has ls 6 [(0, .ref (gad w 49)), (1, .int x1), (2, .int x2), (3, .int x3), (4, .int x4)] → W p l e (rmm 1 21) s m args below meth c H locs 0 0 Q (F0 m 5 ls []) := by
  have hx := C.1
  have hb := C.2.1
  intro S x1 x2 n
  induction n with
  | zero => intro x3 x4 r h; cases h
  | succ n ih =>
    intro x3 x4 r h k1 ls H locs hG hl
    obtain ⟨z, h, hr⟩ := lp_succ h
    have h : M_happyOf_L5 S x1 x2 x3 x4 = some z := h
    have J37 : ∀ (x3 : Int32) (x4 : Int32) (t0 : Int32), M_happyOf_J37 S x1 x2 x3 x4 t0 = some z → ∀ (ls : Array Slot) (H : Heap) (locs : List Loc), GH w s A S H locs → lv_has ls 6 [(0, .ref (gad w 49)), (1, .int x1), (2, .int x2), (3, .int x3), (4, .int x4)] → W p l e (rmm 1 21) s m args below meth c H locs 0 0 Q (F0 m 37 ls [.int t0]) := by
      intro x3 x4 t0 h ls H locs hG hl
      unfold M_happyOf_J37 at h
      refine lv_istore (lv' := [(5, .int t0), (0, .ref (gad w 49)), (1, .int x1), (2, .int x2), (3, .int x3), (4, .int x4)]) hx hb d_M_happyOf_37 hl (by decide) rfl (fun ls hl => ?_)
      refine lv_iload_n hx hb d_M_happyOf_39 rfl (lv_at hl 4 rfl) ?_
      refine lv_iload hx hb d_M_happyOf_40 (lv_at hl 0 rfl) ?_
      refine lv_if_eq (tgt := 68) hx hb d_M_happyOf_42 (by decide) (fun hc => ?_) (fun hc => ?_)
      · replace h := it_t h hc
        refine lv_iconst (v := 0) hx hb d_M_happyOf_68 (by decide) ?_
        refine lv_iadd hx hb d_M_happyOf_69 ?_
        refine lv_istore_n (lv' := [(3, .int (x3 + 0)), (5, .int t0), (0, .ref (gad w 49)), (1, .int x1), (2, .int x2), (4, .int x4)]) hx hb d_M_happyOf_70 rfl hl (by decide) rfl (fun ls hl => ?_)
        refine lv_iinc (v := x4 + 1) (lv' := [(4, .int (x4 + 1)), (3, .int (x3 + 0)), (5, .int t0), (0, .ref (gad w 49)), (1, .int x1), (2, .int x2)]) hx hb d_M_happyOf_71 hl (k := 5) rfl (congrArg (HAdd.hAdd x4) (by decide : Int32.ofInt 1 = 1)) (by decide) rfl (fun ls hl => ?_)
        refine lv_goto (tgt := 5) hx hb d_M_happyOf_74 (by decide) ?_
        exact ih _ _ _ (lp_back h hr) k1 ls _ _ hG (lv_sub hl [3, 4, 5, 1, 0] rfl)
      · replace h := it_f h hc
        refine lv_aload_n hx hb d_M_happyOf_45 rfl (lv_at hl 1 rfl) ?_
        refine g_get C hG (hG.lt (Nat.le_of_ble_eq_true rfl)) (ce49 w _) rfl inC8 13 (Nat.le_of_ble_eq_true rfl) qw689 rfl d_M_happyOf_46 ?_
        refine lv_iconst (v := 5) hx hb d_M_happyOf_49 (by decide) ?_
        refine lv_iload_n hx hb d_M_happyOf_50 rfl (lv_at hl 2 rfl) ?_
        refine lv_imul hx hb d_M_happyOf_51 ?_
        refine lv_aload_n hx hb d_M_happyOf_52 rfl (lv_at hl 1 rfl) ?_
        refine g_get C hG (hG.lt (Nat.le_of_ble_eq_true rfl)) (ce49 w _) rfl inC8 11 (Nat.le_of_ble_eq_true rfl) qw687 rfl d_M_happyOf_53 ?_
        refine lv_aload_n hx hb d_M_happyOf_56 rfl (lv_at hl 1 rfl) ?_
        refine lv_iload hx hb d_M_happyOf_57 (lv_at hl 5 rfl) ?_
        obtain ⟨z1, hz1, h⟩ := bnd_some h
        refine g_goi hG (g_runV (As := [.int x4]) (rest := [.ref (gad w 57), .int (5 * x1), .ref (gad w 59), .int x3]) C hG (c_M_ownerOf l w S x4 hz1 _) (hG.lt (Nat.le_of_ble_eq_true rfl)) (ce49 w _) rfl vw_M_162 rfl rfl ⟨by decide, by decide⟩ rfl hl.1 rfl (Nat.le_of_ble_eq_true rfl) d_M_happyOf_59 ⟨Nat.zero_le _, Nat.zero_le _⟩) (fun H locs hG => ?_)
        obtain ⟨hi1, h⟩ := chk_some h
        refine g_iald (j := ix z1) C hG (hG.lt (Nat.le_of_ble_eq_true rfl)) (ce57 w _) (inb_in hi1) rfl d_M_happyOf_62 ?_
        refine lv_iadd hx hb d_M_happyOf_63 ?_
        obtain ⟨hi2, h⟩ := chk_some h
        refine g_iald (j := ix ((5 * x1) + (S 57 (ix z1)))) C hG (hG.lt (Nat.le_of_ble_eq_true rfl)) (ce59 w _) (inb_in hi2) rfl d_M_happyOf_64 ?_
        refine lv_goto (tgt := 69) hx hb d_M_happyOf_65 (by decide) ?_
        refine lv_iadd hx hb d_M_happyOf_69 ?_
        refine lv_istore_n (lv' := [(3, .int (x3 + (S 59 (ix ((5 * x1) + (S 57 (ix z1))))))), (5, .int t0), (0, .ref (gad w 49)), (1, .int x1), (2, .int x2), (4, .int x4)]) hx hb d_M_happyOf_70 rfl hl (by decide) rfl (fun ls hl => ?_)
        refine lv_iinc (v := x4 + 1) (lv' := [(4, .int (x4 + 1)), (3, .int (x3 + (S 59 (ix ((5 * x1) + (S 57 (ix z1))))))), (5, .int t0), (0, .ref (gad w 49)), (1, .int x1), (2, .int x2)]) hx hb d_M_happyOf_71 hl (k := 5) rfl (congrArg (HAdd.hAdd x4) (by decide : Int32.ofInt 1 = 1)) (by decide) rfl (fun ls hl => ?_)
        refine lv_goto (tgt := 5) hx hb d_M_happyOf_74 (by decide) ?_
        exact ih _ _ _ (lp_back h hr) k1 ls _ _ hG (lv_sub hl [3, 4, 5, 1, 0] rfl)
    have J36 : ∀ (x3 : Int32) (x4 : Int32), M_happyOf_J36 S x1 x2 x3 x4 = some z → ∀ (ls : Array Slot) (H : Heap) (locs : List Loc), GH w s A S H locs → lv_has ls 6 [(0, .ref (gad w 49)), (1, .int x1), (2, .int x2), (3, .int x3), (4, .int x4)] → W p l e (rmm 1 21) s m args below meth c H locs 0 0 Q (F0 m 36 ls []) := by
      intro x3 x4 h ls H locs hG hl
      unfold M_happyOf_J36 at h
      refine lv_iconst (v := 0) hx hb d_M_happyOf_36 (by decide) ?_
      exact J37 _ _ _ h ls _ _ hG (lv_sub hl [0, 1, 2, 3, 4] rfl)
    unfold M_happyOf_L5 at h
    refine lv_iload hx hb d_M_happyOf_5 (lv_at hl 4 rfl) ?_
    refine lv_bipush (v := 10) hx hb d_M_happyOf_7 (by decide) ?_
    refine lv_icmp_ge (tgt := 77) hx hb d_M_happyOf_9 (by decide) (fun hc => ?_) (fun hc => ?_)
    · replace h := it_t h hc
      exact k1 _ _ (lp_exit h hr) ls _ _ hG (lv_sub hl [3] rfl)
    · replace h := it_f h hc
      refine lv_aload_n hx hb d_M_happyOf_12 rfl (lv_at hl 0 rfl) ?_
      refine g_get C hG (hG.lt (Nat.le_of_ble_eq_true rfl)) (ce49 w _) rfl inC8 18 (Nat.le_of_ble_eq_true rfl) qw694 rfl d_M_happyOf_13 ?_
      refine lv_iload hx hb d_M_happyOf_16 (lv_at hl 4 rfl) ?_
      obtain ⟨hi3, h⟩ := chk_some h
      refine g_iald (j := ix x4) C hG (hG.lt (Nat.le_of_ble_eq_true rfl)) (ce64 w _) (inb_in hi3) rfl d_M_happyOf_18 ?_
      refine lv_iconst (v := (-1)) hx hb d_M_happyOf_19 (by decide) ?_
      refine lv_icmp_eq (tgt := 36) hx hb d_M_happyOf_20 (by decide) (fun hc => ?_) (fun hc => ?_)
      · replace h := it_t h hc
        exact J36 _ _ h ls _ _ hG (lv_sub hl [0, 1, 2, 3, 4] rfl)
      · replace h := it_f h hc
        refine lv_iload_n hx hb d_M_happyOf_23 rfl (lv_at hl 2 rfl) ?_
        refine lv_iload hx hb d_M_happyOf_24 (lv_at hl 4 rfl) ?_
        refine g_goi hG (g_runS (As := [.int x2, .int x4]) (rest := []) C hG (c_M_isIn l w S x2 x4 _) sw_M_190 rfl rfl ⟨by decide, by decide⟩ rfl hl.1 rfl (Nat.le_of_ble_eq_true rfl) d_M_happyOf_26 ⟨Nat.zero_le _, Nat.zero_le _⟩) (fun H locs hG => ?_)
        refine lv_if_ne (tgt := 36) hx hb d_M_happyOf_29 (by decide) (fun hc => ?_) (fun hc => ?_)
        · replace h := it_f h hc
          exact J36 _ _ h ls _ _ hG (lv_sub hl [0, 1, 2, 3, 4] rfl)
        · replace h := it_t h hc
          refine lv_iconst (v := 1) hx hb d_M_happyOf_32 (by decide) ?_
          refine lv_goto (tgt := 37) hx hb d_M_happyOf_33 (by decide) ?_
          exact J37 _ _ _ h ls _ _ hG (lv_sub hl [0, 1, 2, 3, 4] rfl)
set_option maxHeartbeats 4000000 in
set_option maxRecDepth 100000 in
theorem c_M_happyOf (l : Launch) (w : gw) (S : St) (x1 : Int32) (x2 : Int32)  {z : Int32} (h : (M_happyOf S x1 x2) = some z) : gMi l w y_M_happyOf b_M_happyOf 6 (some .int) (rmm 1 21) [.ref (gad w 49), .int x1, .int x2] S z S := by
  unfold M_happyOf at h
  refine g_met (Qc := gQi w z S) (by decide +kernel) (Nat.le_of_ble_eq_true rfl) ?_
  intro p e s m args below meth c A Q ls hQ C hG hl
  have hx := C.1
  have hb := C.2.1
  have hl : lv_has ls 6 [(0, .ref (gad w 49)), (1, .int x1), (2, .int x2)] := hl
  have J77 : ∀ (x3 : Int32), M_happyOf_J77 S x3 = some z → ∀ (ls : Array Slot) (H : Heap) (locs : List Loc), GH w s A S H locs → lv_has ls 6 [(3, .int x3)] → W p l e (rmm 1 21) s m args below meth c H locs 0 0 Q (F0 m 77 ls []) := by
    intro x3 h ls H locs hG hl
    unfold M_happyOf_J77 at h
    refine lv_iload_n hx hb d_M_happyOf_77 rfl (lv_at hl 0 rfl) ?_
    exact g_iret C hG (Option.some.inj h) rfl hQ d_M_happyOf_78
  refine lv_iconst (v := 0) hx hb d_M_happyOf_0 (by decide) ?_
  refine lv_istore_n (lv' := [(3, .int 0), (0, .ref (gad w 49)), (1, .int x1), (2, .int x2)]) hx hb d_M_happyOf_1 rfl hl (by decide) rfl (fun ls hl => ?_)
  refine lv_iconst (v := 0) hx hb d_M_happyOf_2 (by decide) ?_
  refine lv_istore (lv' := [(4, .int 0), (3, .int 0), (0, .ref (gad w 49)), (1, .int x1), (2, .int x2)]) hx hb d_M_happyOf_3 hl (by decide) rfl (fun ls hl => ?_)
  obtain ⟨z2, hz2, h⟩ := bnd_some h
  refine L_M_happyOf_5 C _ _ _ FZ _ _ _ hz2 ?_ ls _ _ hG (lv_sub hl [2, 3, 4, 1, 0] rfl)
  intro y3 y4 e9 ls H locs hG hl
  subst e9
  exact J77 _ h ls _ _ hG (lv_sub hl [0] rfl)
theorem d_M_happy_0 : decode b_M_happy 0 = .ok (.aload_n 0, 1) := by decide +kernel
theorem d_M_happy_1 : decode b_M_happy 1 = .ok (.invokevirtual 181, 3) := by decide +kernel
theorem d_M_happy_4 : decode b_M_happy 4 = .ok (.iload_n 1, 1) := by decide +kernel
theorem d_M_happy_5 : decode b_M_happy 5 = .ok (.invokestatic 140, 3) := by decide +kernel
theorem d_M_happy_8 : decode b_M_happy 8 = .ok (.ifCond .eq 12, 3) := by decide +kernel
theorem d_M_happy_11 : decode b_M_happy 11 = .ok (.aload_n 0, 1) := by decide +kernel
theorem d_M_happy_12 : decode b_M_happy 12 = .ok (.iload_n 1, 1) := by decide +kernel
theorem d_M_happy_13 : decode b_M_happy 13 = .ok (.iconst 0, 1) := by decide +kernel
theorem d_M_happy_14 : decode b_M_happy 14 = .ok (.invokevirtual 194, 3) := by decide +kernel
theorem d_M_happy_17 : decode b_M_happy 17 = .ok (.goto 5, 3) := by decide +kernel
theorem d_M_happy_20 : decode b_M_happy 20 = .ok (.bipush (-2), 2) := by decide +kernel
theorem d_M_happy_22 : decode b_M_happy 22 = .ok (.ireturn, 1) := by decide +kernel
noncomputable def M_happy (S : St) (x1 : Int32) : Option (Int32 × St) :=
  bnd (M_find S) fun z1 =>
    if (M_isBidder x1) = 0 then
      some ((-2), z1)
    else
      bnd (M_happyOf z1 x1 0) fun z2 =>
      some (z2, z1)
set_option maxHeartbeats 4000000 in
set_option maxRecDepth 100000 in
theorem c_M_happy (l : Launch) (w : gw) (S : St) (x1 : Int32)  {z : Int32 × St} (h : (M_happy S x1) = some z) : gMi l w y_M_happy b_M_happy 2 (some .int) (rmm 5 112) [.ref (gad w 49), .int x1] S z.1 z.2 := by
  unfold M_happy at h
  refine g_met (Qc := gQi w z.1 z.2) (by decide +kernel) (Nat.le_of_ble_eq_true rfl) ?_
  intro p e s m args below meth c A Q ls hQ C hG hl
  have hx := C.1
  have hb := C.2.1
  have hl : lv_has ls 2 [(0, .ref (gad w 49)), (1, .int x1)] := hl
  refine lv_aload_n hx hb d_M_happy_0 rfl (lv_at hl 0 rfl) ?_
  obtain ⟨z1, hz1, h⟩ := bnd_some h
  refine g_gov hG (g_runV (As := []) (rest := []) C hG (c_M_find l w S hz1 _) (hG.lt (Nat.le_of_ble_eq_true rfl)) (ce49 w _) rfl vw_M_181 rfl rfl ⟨by decide, by decide⟩ rfl hl.1 rfl (Nat.le_of_ble_eq_true rfl) d_M_happy_1 ⟨Nat.zero_le _, Nat.zero_le _⟩) (fun H locs hG => ?_)
  refine lv_iload_n hx hb d_M_happy_4 rfl (lv_at hl 1 rfl) ?_
  refine g_goi hG (g_runS (As := [.int x1]) (rest := []) C hG (c_M_isBidder l w z1 x1 _) sw_M_140 rfl rfl ⟨by decide, by decide⟩ rfl hl.1 rfl (Nat.le_of_ble_eq_true rfl) d_M_happy_5 ⟨Nat.zero_le _, Nat.zero_le _⟩) (fun H locs hG => ?_)
  refine lv_if_eq (tgt := 20) hx hb d_M_happy_8 (by decide) (fun hc => ?_) (fun hc => ?_)
  · replace h := it_t h hc
    refine lv_bipush (v := (-2)) hx hb d_M_happy_20 (by decide) ?_
    exact g_iret C hG (sm_fst h) (sm_snd h) hQ d_M_happy_22
  · replace h := it_f h hc
    refine lv_aload_n hx hb d_M_happy_11 rfl (lv_at hl 0 rfl) ?_
    refine lv_iload_n hx hb d_M_happy_12 rfl (lv_at hl 1 rfl) ?_
    refine lv_iconst (v := 0) hx hb d_M_happy_13 (by decide) ?_
    obtain ⟨z2, hz2, h⟩ := bnd_some h
    refine g_goi hG (g_runV (As := [.int x1, .int 0]) (rest := []) C hG (c_M_happyOf l w z1 x1 0 hz2 _) (hG.lt (Nat.le_of_ble_eq_true rfl)) (ce49 w _) rfl vw_M_194 rfl rfl ⟨by decide, by decide⟩ rfl hl.1 rfl (Nat.le_of_ble_eq_true rfl) d_M_happy_14 ⟨Nat.zero_le _, Nat.zero_le _⟩) (fun H locs hG => ?_)
    refine lv_goto (tgt := 22) hx hb d_M_happy_17 (by decide) ?_
    exact g_iret C hG (sm_fst h) (sm_snd h) hQ d_M_happy_22
theorem d_M_refusedBy_0 : decode b_M_refusedBy 0 = .ok (.iload_n 1, 1) := by decide +kernel
theorem d_M_refusedBy_1 : decode b_M_refusedBy 1 = .ok (.istore_n 2, 1) := by decide +kernel
theorem d_M_refusedBy_2 : decode b_M_refusedBy 2 = .ok (.iconst 0, 1) := by decide +kernel
theorem d_M_refusedBy_3 : decode b_M_refusedBy 3 = .ok (.istore_n 3, 1) := by decide +kernel
theorem d_M_refusedBy_4 : decode b_M_refusedBy 4 = .ok (.iconst 0, 1) := by decide +kernel
theorem d_M_refusedBy_5 : decode b_M_refusedBy 5 = .ok (.istore 4, 2) := by decide +kernel
theorem d_M_refusedBy_7 : decode b_M_refusedBy 7 = .ok (.iload 4, 2) := by decide +kernel
theorem d_M_refusedBy_9 : decode b_M_refusedBy 9 = .ok (.bipush 10, 2) := by decide +kernel
theorem d_M_refusedBy_11 : decode b_M_refusedBy 11 = .ok (.if_icmp .ge 46, 3) := by decide +kernel
theorem d_M_refusedBy_14 : decode b_M_refusedBy 14 = .ok (.ldc 197, 2) := by decide +kernel
theorem d_M_refusedBy_16 : decode b_M_refusedBy 16 = .ok (.iload_n 2, 1) := by decide +kernel
theorem d_M_refusedBy_17 : decode b_M_refusedBy 17 = .ok (.imul, 1) := by decide +kernel
theorem d_M_refusedBy_18 : decode b_M_refusedBy 18 = .ok (.sipush 12345, 3) := by decide +kernel
theorem d_M_refusedBy_21 : decode b_M_refusedBy 21 = .ok (.iadd, 1) := by decide +kernel
theorem d_M_refusedBy_22 : decode b_M_refusedBy 22 = .ok (.istore_n 2, 1) := by decide +kernel
theorem d_M_refusedBy_23 : decode b_M_refusedBy 23 = .ok (.iload_n 3, 1) := by decide +kernel
theorem d_M_refusedBy_24 : decode b_M_refusedBy 24 = .ok (.iload_n 2, 1) := by decide +kernel
theorem d_M_refusedBy_25 : decode b_M_refusedBy 25 = .ok (.bipush 16, 2) := by decide +kernel
theorem d_M_refusedBy_27 : decode b_M_refusedBy 27 = .ok (.iushr, 1) := by decide +kernel
theorem d_M_refusedBy_28 : decode b_M_refusedBy 28 = .ok (.bipush 16, 2) := by decide +kernel
theorem d_M_refusedBy_30 : decode b_M_refusedBy 30 = .ok (.irem, 1) := by decide +kernel
theorem d_M_refusedBy_31 : decode b_M_refusedBy 31 = .ok (.aload_n 0, 1) := by decide +kernel
theorem d_M_refusedBy_32 : decode b_M_refusedBy 32 = .ok (.getfield 43, 3) := by decide +kernel
theorem d_M_refusedBy_35 : decode b_M_refusedBy 35 = .ok (.iload 4, 2) := by decide +kernel
theorem d_M_refusedBy_37 : decode b_M_refusedBy 37 = .ok (.iaload, 1) := by decide +kernel
theorem d_M_refusedBy_38 : decode b_M_refusedBy 38 = .ok (.if_icmp .ge 10, 3) := by decide +kernel
theorem d_M_refusedBy_41 : decode b_M_refusedBy 41 = .ok (.iconst 1, 1) := by decide +kernel
theorem d_M_refusedBy_42 : decode b_M_refusedBy 42 = .ok (.iload 4, 2) := by decide +kernel
theorem d_M_refusedBy_44 : decode b_M_refusedBy 44 = .ok (.ishl, 1) := by decide +kernel
theorem d_M_refusedBy_45 : decode b_M_refusedBy 45 = .ok (.goto 4, 3) := by decide +kernel
theorem d_M_refusedBy_48 : decode b_M_refusedBy 48 = .ok (.iconst 0, 1) := by decide +kernel
theorem d_M_refusedBy_49 : decode b_M_refusedBy 49 = .ok (.ior, 1) := by decide +kernel
theorem d_M_refusedBy_50 : decode b_M_refusedBy 50 = .ok (.istore_n 3, 1) := by decide +kernel
theorem d_M_refusedBy_51 : decode b_M_refusedBy 51 = .ok (.iinc 4 1, 3) := by decide +kernel
theorem d_M_refusedBy_54 : decode b_M_refusedBy 54 = .ok (.goto (-47), 3) := by decide +kernel
theorem d_M_refusedBy_57 : decode b_M_refusedBy 57 = .ok (.iload_n 3, 1) := by decide +kernel
theorem d_M_refusedBy_58 : decode b_M_refusedBy 58 = .ok (.ireturn, 1) := by decide +kernel
noncomputable def M_refusedBy_L7 (S : St) (x2 : Int32) (x3 : Int32) (x4 : Int32) : Option ((Int32 × Int32 × Int32) × Nat) :=
  if 10 ≤ x4 then
      some ((x2, x3, x4), 1)
    else
      chk (inb x4 10) <|
      if (S 61 (ix x4)) ≤ (((((1103515245 * x2) + 12345).toUInt32 >>> ((16 : Int32).toUInt32 &&& Int32.toUInt32 31)).toInt32) - ((((1103515245 * x2) + 12345).toUInt32 >>> ((16 : Int32).toUInt32 &&& Int32.toUInt32 31)).toInt32) / 16 * 16) then
        some (((1103515245 * x2) + 12345, x3 ||| 0, x4 + 1), 0)
      else
        some (((1103515245 * x2) + 12345, x3 ||| ((1 : Int32) <<< (x4 &&& 31)), x4 + 1), 0)
noncomputable def M_refusedBy_J57 (S : St) (x3 : Int32) : Option (Int32) :=
  some x3
noncomputable def M_refusedBy (S : St) (x1 : Int32) : Option (Int32) :=
  bnd (lp (σ := Int32 × Int32 × Int32) (fun q => M_refusedBy_L7 S q.1 q.2.1 q.2.2) FZ (x1, 0, 0)) fun z1 =>
    M_refusedBy_J57 S z1.1.2.1
set_option maxHeartbeats 4000000 in
set_option maxRecDepth 100000 in
theorem L_M_refusedBy_7 (C : gCx p s m args meth c y_M_refusedBy.cls b_M_refusedBy 5 (some .int)) : ∀ (S : St) (n : Nat) (x2 : Int32) (x3 : Int32) (x4 : Int32) (r : (Int32 × Int32 × Int32) × Nat), lp (σ := Int32 × Int32 × Int32) (fun q => M_refusedBy_L7 S q.1 q.2.1 q.2.2) n (x2, x3, x4) = some r → (∀ (y2 : Int32) (y3 : Int32) (y4 : Int32), r = ((y2, y3, y4), 1) → ∀ (ls : Array Slot) (H : Heap) (locs : List Loc), GH w s A S H locs → lv_has ls 5 [(3, .int y3)] → W p l e (rmm 0 0) s m args below meth c H locs 0 0 Q (F0 m 57 ls [])) → ∀ (ls : Array Slot) (H : Heap) (locs : List Loc), GH w s A S H locs → lv_has ls 5 [(0, .ref (gad w 49)), (2, .int x2), (3, .int x3), (4, .int x4)] → W p l e (rmm 0 0) s m args below meth c H locs 0 0 Q (F0 m 7 ls []) := by
  have hx := C.1
  have hb := C.2.1
  intro S n
  induction n with
  | zero => intro x2 x3 x4 r h; cases h
  | succ n ih =>
    intro x2 x3 x4 r h k1 ls H locs hG hl
    obtain ⟨z, h, hr⟩ := lp_succ h
    have h : M_refusedBy_L7 S x2 x3 x4 = some z := h
    unfold M_refusedBy_L7 at h
    refine lv_iload hx hb d_M_refusedBy_7 (lv_at hl 3 rfl) ?_
    refine lv_bipush (v := 10) hx hb d_M_refusedBy_9 (by decide) ?_
    refine lv_icmp_ge (tgt := 57) hx hb d_M_refusedBy_11 (by decide) (fun hc => ?_) (fun hc => ?_)
    · replace h := it_t h hc
      exact k1 _ _ _ (lp_exit h hr) ls _ _ hG (lv_sub hl [2] rfl)
    · replace h := it_f h hc
      refine lv_ldc (v := 1103515245) hx hb C.2.2.2.1 (C.2.2.2.2.1 _ qw954) d_M_refusedBy_14 ?_
      refine lv_iload_n hx hb d_M_refusedBy_16 rfl (lv_at hl 1 rfl) ?_
      refine lv_imul hx hb d_M_refusedBy_17 ?_
      refine lv_sipush (v := 12345) hx hb d_M_refusedBy_18 (by decide) ?_
      refine lv_iadd hx hb d_M_refusedBy_21 ?_
      refine lv_istore_n (lv' := [(2, .int ((1103515245 * x2) + 12345)), (0, .ref (gad w 49)), (3, .int x3), (4, .int x4)]) hx hb d_M_refusedBy_22 rfl hl (by decide) rfl (fun ls hl => ?_)
      refine lv_iload_n hx hb d_M_refusedBy_23 rfl (lv_at hl 2 rfl) ?_
      refine lv_iload_n hx hb d_M_refusedBy_24 rfl (lv_at hl 0 rfl) ?_
      refine lv_bipush (v := 16) hx hb d_M_refusedBy_25 (by decide) ?_
      refine lv_iushr (v := (((1103515245 * x2) + 12345).toUInt32 >>> ((16 : Int32).toUInt32 &&& Int32.toUInt32 31)).toInt32) hx hb d_M_refusedBy_27 rfl ?_
      refine lv_bipush (v := 16) hx hb d_M_refusedBy_28 (by decide) ?_
      refine lv_irem hx hb d_M_refusedBy_30 (by decide) ?_
      refine lv_aload_n hx hb d_M_refusedBy_31 rfl (lv_at hl 1 rfl) ?_
      refine g_get C hG (hG.lt (Nat.le_of_ble_eq_true rfl)) (ce49 w _) rfl inC8 15 (Nat.le_of_ble_eq_true rfl) qw691 rfl d_M_refusedBy_32 ?_
      refine lv_iload hx hb d_M_refusedBy_35 (lv_at hl 3 rfl) ?_
      obtain ⟨hi1, h⟩ := chk_some h
      refine g_iald (j := ix x4) C hG (hG.lt (Nat.le_of_ble_eq_true rfl)) (ce61 w _) (inb_in hi1) rfl d_M_refusedBy_37 ?_
      refine lv_icmp_ge (tgt := 48) hx hb d_M_refusedBy_38 (by decide) (fun hc => ?_) (fun hc => ?_)
      · replace h := it_t h hc
        refine lv_iconst (v := 0) hx hb d_M_refusedBy_48 (by decide) ?_
        refine lv_ior hx hb d_M_refusedBy_49 ?_
        refine lv_istore_n (lv' := [(3, .int (x3 ||| 0)), (2, .int ((1103515245 * x2) + 12345)), (0, .ref (gad w 49)), (4, .int x4)]) hx hb d_M_refusedBy_50 rfl hl (by decide) rfl (fun ls hl => ?_)
        refine lv_iinc (v := x4 + 1) (lv' := [(4, .int (x4 + 1)), (3, .int (x3 ||| 0)), (2, .int ((1103515245 * x2) + 12345)), (0, .ref (gad w 49))]) hx hb d_M_refusedBy_51 hl (k := 3) rfl (congrArg (HAdd.hAdd x4) (by decide : Int32.ofInt 1 = 1)) (by decide) rfl (fun ls hl => ?_)
        refine lv_goto (tgt := 7) hx hb d_M_refusedBy_54 (by decide) ?_
        exact ih _ _ _ _ (lp_back h hr) k1 ls _ _ hG (lv_sub hl [3, 2, 1, 0] rfl)
      · replace h := it_f h hc
        refine lv_iconst (v := 1) hx hb d_M_refusedBy_41 (by decide) ?_
        refine lv_iload hx hb d_M_refusedBy_42 (lv_at hl 3 rfl) ?_
        refine lv_ishl hx hb d_M_refusedBy_44 ?_
        refine lv_goto (tgt := 49) hx hb d_M_refusedBy_45 (by decide) ?_
        refine lv_ior hx hb d_M_refusedBy_49 ?_
        refine lv_istore_n (lv' := [(3, .int (x3 ||| ((1 : Int32) <<< (x4 &&& 31)))), (2, .int ((1103515245 * x2) + 12345)), (0, .ref (gad w 49)), (4, .int x4)]) hx hb d_M_refusedBy_50 rfl hl (by decide) rfl (fun ls hl => ?_)
        refine lv_iinc (v := x4 + 1) (lv' := [(4, .int (x4 + 1)), (3, .int (x3 ||| ((1 : Int32) <<< (x4 &&& 31)))), (2, .int ((1103515245 * x2) + 12345)), (0, .ref (gad w 49))]) hx hb d_M_refusedBy_51 hl (k := 3) rfl (congrArg (HAdd.hAdd x4) (by decide : Int32.ofInt 1 = 1)) (by decide) rfl (fun ls hl => ?_)
        refine lv_goto (tgt := 7) hx hb d_M_refusedBy_54 (by decide) ?_
        exact ih _ _ _ _ (lp_back h hr) k1 ls _ _ hG (lv_sub hl [3, 2, 1, 0] rfl)
set_option maxHeartbeats 4000000 in
set_option maxRecDepth 100000 in
theorem c_M_refusedBy (l : Launch) (w : gw) (S : St) (x1 : Int32)  {z : Int32} (h : (M_refusedBy S x1) = some z) : gMi l w y_M_refusedBy b_M_refusedBy 5 (some .int) (rmm 0 0) [.ref (gad w 49), .int x1] S z S := by
  unfold M_refusedBy at h
  refine g_met (Qc := gQi w z S) (by decide +kernel) (Nat.le_of_ble_eq_true rfl) ?_
  intro p e s m args below meth c A Q ls hQ C hG hl
  have hx := C.1
  have hb := C.2.1
  have hl : lv_has ls 5 [(0, .ref (gad w 49)), (1, .int x1)] := hl
  have J57 : ∀ (x3 : Int32), M_refusedBy_J57 S x3 = some z → ∀ (ls : Array Slot) (H : Heap) (locs : List Loc), GH w s A S H locs → lv_has ls 5 [(3, .int x3)] → W p l e (rmm 0 0) s m args below meth c H locs 0 0 Q (F0 m 57 ls []) := by
    intro x3 h ls H locs hG hl
    unfold M_refusedBy_J57 at h
    refine lv_iload_n hx hb d_M_refusedBy_57 rfl (lv_at hl 0 rfl) ?_
    exact g_iret C hG (Option.some.inj h) rfl hQ d_M_refusedBy_58
  refine lv_iload_n hx hb d_M_refusedBy_0 rfl (lv_at hl 1 rfl) ?_
  refine lv_istore_n (lv' := [(2, .int x1), (0, .ref (gad w 49)), (1, .int x1)]) hx hb d_M_refusedBy_1 rfl hl (by decide) rfl (fun ls hl => ?_)
  refine lv_iconst (v := 0) hx hb d_M_refusedBy_2 (by decide) ?_
  refine lv_istore_n (lv' := [(3, .int 0), (2, .int x1), (0, .ref (gad w 49)), (1, .int x1)]) hx hb d_M_refusedBy_3 rfl hl (by decide) rfl (fun ls hl => ?_)
  refine lv_iconst (v := 0) hx hb d_M_refusedBy_4 (by decide) ?_
  refine lv_istore (lv' := [(4, .int 0), (3, .int 0), (2, .int x1), (0, .ref (gad w 49)), (1, .int x1)]) hx hb d_M_refusedBy_5 hl (by decide) rfl (fun ls hl => ?_)
  obtain ⟨z1, hz1, h⟩ := bnd_some h
  refine L_M_refusedBy_7 C _ FZ _ _ _ _ hz1 ?_ ls _ _ hG (lv_sub hl [3, 2, 1, 0] rfl)
  intro y2 y3 y4 e9 ls H locs hG hl
  subst e9
  exact J57 _ h ls _ _ hG (lv_sub hl [0] rfl)
theorem d_M_wet_0 : decode b_M_wet 0 = .ok (.aload_n 0, 1) := by decide +kernel
theorem d_M_wet_1 : decode b_M_wet 1 = .ok (.invokevirtual 181, 3) := by decide +kernel
theorem d_M_wet_4 : decode b_M_wet 4 = .ok (.iload_n 1, 1) := by decide +kernel
theorem d_M_wet_5 : decode b_M_wet 5 = .ok (.invokestatic 140, 3) := by decide +kernel
theorem d_M_wet_8 : decode b_M_wet 8 = .ok (.ifCond .eq 16, 3) := by decide +kernel
theorem d_M_wet_11 : decode b_M_wet 11 = .ok (.aload_n 0, 1) := by decide +kernel
theorem d_M_wet_12 : decode b_M_wet 12 = .ok (.iload_n 1, 1) := by decide +kernel
theorem d_M_wet_13 : decode b_M_wet 13 = .ok (.aload_n 0, 1) := by decide +kernel
theorem d_M_wet_14 : decode b_M_wet 14 = .ok (.iload_n 2, 1) := by decide +kernel
theorem d_M_wet_15 : decode b_M_wet 15 = .ok (.invokevirtual 198, 3) := by decide +kernel
theorem d_M_wet_18 : decode b_M_wet 18 = .ok (.invokevirtual 194, 3) := by decide +kernel
theorem d_M_wet_21 : decode b_M_wet 21 = .ok (.goto 5, 3) := by decide +kernel
theorem d_M_wet_24 : decode b_M_wet 24 = .ok (.bipush (-2), 2) := by decide +kernel
theorem d_M_wet_26 : decode b_M_wet 26 = .ok (.ireturn, 1) := by decide +kernel
noncomputable def M_wet (S : St) (x1 : Int32) (x2 : Int32) : Option (Int32 × St) :=
  bnd (M_find S) fun z1 =>
    if (M_isBidder x1) = 0 then
      some ((-2), z1)
    else
      bnd (M_refusedBy z1 x2) fun z2 =>
      bnd (M_happyOf z1 x1 z2) fun z3 =>
      some (z3, z1)
set_option maxHeartbeats 4000000 in
set_option maxRecDepth 100000 in
theorem c_M_wet (l : Launch) (w : gw) (S : St) (x1 : Int32) (x2 : Int32)  {z : Int32 × St} (h : (M_wet S x1 x2) = some z) : gMi l w y_M_wet b_M_wet 3 (some .int) (rmm 5 112) [.ref (gad w 49), .int x1, .int x2] S z.1 z.2 := by
  unfold M_wet at h
  refine g_met (Qc := gQi w z.1 z.2) (by decide +kernel) (Nat.le_of_ble_eq_true rfl) ?_
  intro p e s m args below meth c A Q ls hQ C hG hl
  have hx := C.1
  have hb := C.2.1
  have hl : lv_has ls 3 [(0, .ref (gad w 49)), (1, .int x1), (2, .int x2)] := hl
  refine lv_aload_n hx hb d_M_wet_0 rfl (lv_at hl 0 rfl) ?_
  obtain ⟨z1, hz1, h⟩ := bnd_some h
  refine g_gov hG (g_runV (As := []) (rest := []) C hG (c_M_find l w S hz1 _) (hG.lt (Nat.le_of_ble_eq_true rfl)) (ce49 w _) rfl vw_M_181 rfl rfl ⟨by decide, by decide⟩ rfl hl.1 rfl (Nat.le_of_ble_eq_true rfl) d_M_wet_1 ⟨Nat.zero_le _, Nat.zero_le _⟩) (fun H locs hG => ?_)
  refine lv_iload_n hx hb d_M_wet_4 rfl (lv_at hl 1 rfl) ?_
  refine g_goi hG (g_runS (As := [.int x1]) (rest := []) C hG (c_M_isBidder l w z1 x1 _) sw_M_140 rfl rfl ⟨by decide, by decide⟩ rfl hl.1 rfl (Nat.le_of_ble_eq_true rfl) d_M_wet_5 ⟨Nat.zero_le _, Nat.zero_le _⟩) (fun H locs hG => ?_)
  refine lv_if_eq (tgt := 24) hx hb d_M_wet_8 (by decide) (fun hc => ?_) (fun hc => ?_)
  · replace h := it_t h hc
    refine lv_bipush (v := (-2)) hx hb d_M_wet_24 (by decide) ?_
    exact g_iret C hG (sm_fst h) (sm_snd h) hQ d_M_wet_26
  · replace h := it_f h hc
    refine lv_aload_n hx hb d_M_wet_11 rfl (lv_at hl 0 rfl) ?_
    refine lv_iload_n hx hb d_M_wet_12 rfl (lv_at hl 1 rfl) ?_
    refine lv_aload_n hx hb d_M_wet_13 rfl (lv_at hl 0 rfl) ?_
    refine lv_iload_n hx hb d_M_wet_14 rfl (lv_at hl 2 rfl) ?_
    obtain ⟨z2, hz2, h⟩ := bnd_some h
    refine g_goi hG (g_runV (As := [.int x2]) (rest := [.int x1, .ref (gad w 49)]) C hG (c_M_refusedBy l w z1 x2 hz2 _) (hG.lt (Nat.le_of_ble_eq_true rfl)) (ce49 w _) rfl vw_M_198 rfl rfl ⟨by decide, by decide⟩ rfl hl.1 rfl (Nat.le_of_ble_eq_true rfl) d_M_wet_15 ⟨Nat.zero_le _, Nat.zero_le _⟩) (fun H locs hG => ?_)
    obtain ⟨z3, hz3, h⟩ := bnd_some h
    refine g_goi hG (g_runV (As := [.int x1, .int z2]) (rest := []) C hG (c_M_happyOf l w z1 x1 z2 hz3 _) (hG.lt (Nat.le_of_ble_eq_true rfl)) (ce49 w _) rfl vw_M_194 rfl rfl ⟨by decide, by decide⟩ rfl hl.1 rfl (Nat.le_of_ble_eq_true rfl) d_M_wet_18 ⟨Nat.zero_le _, Nat.zero_le _⟩) (fun H locs hG => ?_)
    refine lv_goto (tgt := 26) hx hb d_M_wet_21 (by decide) ?_
    exact g_iret C hG (sm_fst h) (sm_snd h) hQ d_M_wet_26
theorem d_M_joyOfAll_0 : decode b_M_joyOfAll 0 = .ok (.iconst 0, 1) := by decide +kernel
theorem d_M_joyOfAll_1 : decode b_M_joyOfAll 1 = .ok (.istore_n 2, 1) := by decide +kernel
theorem d_M_joyOfAll_2 : decode b_M_joyOfAll 2 = .ok (.iconst 0, 1) := by decide +kernel
theorem d_M_joyOfAll_3 : decode b_M_joyOfAll 3 = .ok (.istore_n 3, 1) := by decide +kernel
theorem d_M_joyOfAll_4 : decode b_M_joyOfAll 4 = .ok (.iload_n 3, 1) := by decide +kernel
theorem d_M_joyOfAll_5 : decode b_M_joyOfAll 5 = .ok (.iconst 5, 1) := by decide +kernel
theorem d_M_joyOfAll_6 : decode b_M_joyOfAll 6 = .ok (.if_icmp .ge 22, 3) := by decide +kernel
theorem d_M_joyOfAll_9 : decode b_M_joyOfAll 9 = .ok (.iload_n 2, 1) := by decide +kernel
theorem d_M_joyOfAll_10 : decode b_M_joyOfAll 10 = .ok (.aload_n 0, 1) := by decide +kernel
theorem d_M_joyOfAll_11 : decode b_M_joyOfAll 11 = .ok (.getfield 37, 3) := by decide +kernel
theorem d_M_joyOfAll_14 : decode b_M_joyOfAll 14 = .ok (.iconst 5, 1) := by decide +kernel
theorem d_M_joyOfAll_15 : decode b_M_joyOfAll 15 = .ok (.iload_n 3, 1) := by decide +kernel
theorem d_M_joyOfAll_16 : decode b_M_joyOfAll 16 = .ok (.imul, 1) := by decide +kernel
theorem d_M_joyOfAll_17 : decode b_M_joyOfAll 17 = .ok (.iload_n 1, 1) := by decide +kernel
theorem d_M_joyOfAll_18 : decode b_M_joyOfAll 18 = .ok (.iadd, 1) := by decide +kernel
theorem d_M_joyOfAll_19 : decode b_M_joyOfAll 19 = .ok (.iaload, 1) := by decide +kernel
theorem d_M_joyOfAll_20 : decode b_M_joyOfAll 20 = .ok (.iadd, 1) := by decide +kernel
theorem d_M_joyOfAll_21 : decode b_M_joyOfAll 21 = .ok (.istore_n 2, 1) := by decide +kernel
theorem d_M_joyOfAll_22 : decode b_M_joyOfAll 22 = .ok (.iinc 3 1, 3) := by decide +kernel
theorem d_M_joyOfAll_25 : decode b_M_joyOfAll 25 = .ok (.goto (-21), 3) := by decide +kernel
theorem d_M_joyOfAll_28 : decode b_M_joyOfAll 28 = .ok (.iload_n 2, 1) := by decide +kernel
theorem d_M_joyOfAll_29 : decode b_M_joyOfAll 29 = .ok (.ireturn, 1) := by decide +kernel
noncomputable def M_joyOfAll_L4 (S : St) (x1 : Int32) (x2 : Int32) (x3 : Int32) : Option ((Int32 × Int32) × Nat) :=
  if 5 ≤ x3 then
      some ((x2, x3), 1)
    else
      chk (inb ((5 * x3) + x1) 25) <|
      some ((x2 + (S 59 (ix ((5 * x3) + x1))), x3 + 1), 0)
noncomputable def M_joyOfAll_J28 (S : St) (x2 : Int32) : Option (Int32) :=
  some x2
noncomputable def M_joyOfAll (S : St) (x1 : Int32) : Option (Int32) :=
  bnd (lp (σ := Int32 × Int32) (fun q => M_joyOfAll_L4 S x1 q.1 q.2) FZ (0, 0)) fun z1 =>
    M_joyOfAll_J28 S z1.1.1
set_option maxHeartbeats 4000000 in
set_option maxRecDepth 100000 in
theorem L_M_joyOfAll_4 (C : gCx p s m args meth c y_M_joyOfAll.cls b_M_joyOfAll 4 (some .int)) : ∀ (S : St) (x1 : Int32) (n : Nat) (x2 : Int32) (x3 : Int32) (r : (Int32 × Int32) × Nat), lp (σ := Int32 × Int32) (fun q => M_joyOfAll_L4 S x1 q.1 q.2) n (x2, x3) = some r → (∀ (y2 : Int32) (y3 : Int32), r = ((y2, y3), 1) → ∀ (ls : Array Slot) (H : Heap) (locs : List Loc), GH w s A S H locs → lv_has ls 4 [(2, .int y2)] → W p l e (rmm 0 0) s m args below meth c H locs 0 0 Q (F0 m 28 ls [])) → ∀ (ls : Array Slot) (H : Heap) (locs : List Loc), GH w s A S H locs → lv_has ls 4 [(0, .ref (gad w 49)), (1, .int x1), (2, .int x2), (3, .int x3)] → W p l e (rmm 0 0) s m args below meth c H locs 0 0 Q (F0 m 4 ls []) := by
  have hx := C.1
  have hb := C.2.1
  intro S x1 n
  induction n with
  | zero => intro x2 x3 r h; cases h
  | succ n ih =>
    intro x2 x3 r h k1 ls H locs hG hl
    obtain ⟨z, h, hr⟩ := lp_succ h
    have h : M_joyOfAll_L4 S x1 x2 x3 = some z := h
    unfold M_joyOfAll_L4 at h
    refine lv_iload_n hx hb d_M_joyOfAll_4 rfl (lv_at hl 3 rfl) ?_
    refine lv_iconst (v := 5) hx hb d_M_joyOfAll_5 (by decide) ?_
    refine lv_icmp_ge (tgt := 28) hx hb d_M_joyOfAll_6 (by decide) (fun hc => ?_) (fun hc => ?_)
    · replace h := it_t h hc
      exact k1 _ _ (lp_exit h hr) ls _ _ hG (lv_sub hl [2] rfl)
    · replace h := it_f h hc
      refine lv_iload_n hx hb d_M_joyOfAll_9 rfl (lv_at hl 2 rfl) ?_
      refine lv_aload_n hx hb d_M_joyOfAll_10 rfl (lv_at hl 0 rfl) ?_
      refine g_get C hG (hG.lt (Nat.le_of_ble_eq_true rfl)) (ce49 w _) rfl inC8 13 (Nat.le_of_ble_eq_true rfl) qw689 rfl d_M_joyOfAll_11 ?_
      refine lv_iconst (v := 5) hx hb d_M_joyOfAll_14 (by decide) ?_
      refine lv_iload_n hx hb d_M_joyOfAll_15 rfl (lv_at hl 3 rfl) ?_
      refine lv_imul hx hb d_M_joyOfAll_16 ?_
      refine lv_iload_n hx hb d_M_joyOfAll_17 rfl (lv_at hl 1 rfl) ?_
      refine lv_iadd hx hb d_M_joyOfAll_18 ?_
      obtain ⟨hi1, h⟩ := chk_some h
      refine g_iald (j := ix ((5 * x3) + x1)) C hG (hG.lt (Nat.le_of_ble_eq_true rfl)) (ce59 w _) (inb_in hi1) rfl d_M_joyOfAll_19 ?_
      refine lv_iadd hx hb d_M_joyOfAll_20 ?_
      refine lv_istore_n (lv' := [(2, .int (x2 + (S 59 (ix ((5 * x3) + x1))))), (0, .ref (gad w 49)), (1, .int x1), (3, .int x3)]) hx hb d_M_joyOfAll_21 rfl hl (by decide) rfl (fun ls hl => ?_)
      refine lv_iinc (v := x3 + 1) (lv' := [(3, .int (x3 + 1)), (2, .int (x2 + (S 59 (ix ((5 * x3) + x1))))), (0, .ref (gad w 49)), (1, .int x1)]) hx hb d_M_joyOfAll_22 hl (k := 3) rfl (congrArg (HAdd.hAdd x3) (by decide : Int32.ofInt 1 = 1)) (by decide) rfl (fun ls hl => ?_)
      refine lv_goto (tgt := 4) hx hb d_M_joyOfAll_25 (by decide) ?_
      exact ih _ _ _ (lp_back h hr) k1 ls _ _ hG (lv_sub hl [2, 3, 1, 0] rfl)
set_option maxHeartbeats 4000000 in
set_option maxRecDepth 100000 in
theorem c_M_joyOfAll (l : Launch) (w : gw) (S : St) (x1 : Int32)  {z : Int32} (h : (M_joyOfAll S x1) = some z) : gMi l w y_M_joyOfAll b_M_joyOfAll 4 (some .int) (rmm 0 0) [.ref (gad w 49), .int x1] S z S := by
  unfold M_joyOfAll at h
  refine g_met (Qc := gQi w z S) (by decide +kernel) (Nat.le_of_ble_eq_true rfl) ?_
  intro p e s m args below meth c A Q ls hQ C hG hl
  have hx := C.1
  have hb := C.2.1
  have hl : lv_has ls 4 [(0, .ref (gad w 49)), (1, .int x1)] := hl
  have J28 : ∀ (x2 : Int32), M_joyOfAll_J28 S x2 = some z → ∀ (ls : Array Slot) (H : Heap) (locs : List Loc), GH w s A S H locs → lv_has ls 4 [(2, .int x2)] → W p l e (rmm 0 0) s m args below meth c H locs 0 0 Q (F0 m 28 ls []) := by
    intro x2 h ls H locs hG hl
    unfold M_joyOfAll_J28 at h
    refine lv_iload_n hx hb d_M_joyOfAll_28 rfl (lv_at hl 0 rfl) ?_
    exact g_iret C hG (Option.some.inj h) rfl hQ d_M_joyOfAll_29
  refine lv_iconst (v := 0) hx hb d_M_joyOfAll_0 (by decide) ?_
  refine lv_istore_n (lv' := [(2, .int 0), (0, .ref (gad w 49)), (1, .int x1)]) hx hb d_M_joyOfAll_1 rfl hl (by decide) rfl (fun ls hl => ?_)
  refine lv_iconst (v := 0) hx hb d_M_joyOfAll_2 (by decide) ?_
  refine lv_istore_n (lv' := [(3, .int 0), (2, .int 0), (0, .ref (gad w 49)), (1, .int x1)]) hx hb d_M_joyOfAll_3 rfl hl (by decide) rfl (fun ls hl => ?_)
  obtain ⟨z1, hz1, h⟩ := bnd_some h
  refine L_M_joyOfAll_4 C _ _ FZ _ _ _ hz1 ?_ ls _ _ hG (lv_sub hl [2, 3, 1, 0] rfl)
  intro y2 y3 e9 ls H locs hG hl
  subst e9
  exact J28 _ h ls _ _ hG (lv_sub hl [0] rfl)
theorem d_M_harmOf_0 : decode b_M_harmOf 0 = .ok (.aload_n 0, 1) := by decide +kernel
theorem d_M_harmOf_1 : decode b_M_harmOf 1 = .ok (.getfield 52, 3) := by decide +kernel
theorem d_M_harmOf_4 : decode b_M_harmOf 4 = .ok (.iload_n 1, 1) := by decide +kernel
theorem d_M_harmOf_5 : decode b_M_harmOf 5 = .ok (.iaload, 1) := by decide +kernel
theorem d_M_harmOf_6 : decode b_M_harmOf 6 = .ok (.iconst (-1), 1) := by decide +kernel
theorem d_M_harmOf_7 : decode b_M_harmOf 7 = .ok (.if_icmp .ne 6, 3) := by decide +kernel
theorem d_M_harmOf_10 : decode b_M_harmOf 10 = .ok (.bipush (-3), 2) := by decide +kernel
theorem d_M_harmOf_12 : decode b_M_harmOf 12 = .ok (.ireturn, 1) := by decide +kernel
theorem d_M_harmOf_13 : decode b_M_harmOf 13 = .ok (.iconst 0, 1) := by decide +kernel
theorem d_M_harmOf_14 : decode b_M_harmOf 14 = .ok (.istore_n 2, 1) := by decide +kernel
theorem d_M_harmOf_15 : decode b_M_harmOf 15 = .ok (.iconst 0, 1) := by decide +kernel
theorem d_M_harmOf_16 : decode b_M_harmOf 16 = .ok (.istore_n 3, 1) := by decide +kernel
theorem d_M_harmOf_17 : decode b_M_harmOf 17 = .ok (.iload_n 3, 1) := by decide +kernel
theorem d_M_harmOf_18 : decode b_M_harmOf 18 = .ok (.iconst 5, 1) := by decide +kernel
theorem d_M_harmOf_19 : decode b_M_harmOf 19 = .ok (.if_icmp .ge 28, 3) := by decide +kernel
theorem d_M_harmOf_22 : decode b_M_harmOf 22 = .ok (.aload_n 0, 1) := by decide +kernel
theorem d_M_harmOf_23 : decode b_M_harmOf 23 = .ok (.iload_n 3, 1) := by decide +kernel
theorem d_M_harmOf_24 : decode b_M_harmOf 24 = .ok (.invokevirtual 201, 3) := by decide +kernel
theorem d_M_harmOf_27 : decode b_M_harmOf 27 = .ok (.iload_n 2, 1) := by decide +kernel
theorem d_M_harmOf_28 : decode b_M_harmOf 28 = .ok (.if_icmp .le 11, 3) := by decide +kernel
theorem d_M_harmOf_31 : decode b_M_harmOf 31 = .ok (.aload_n 0, 1) := by decide +kernel
theorem d_M_harmOf_32 : decode b_M_harmOf 32 = .ok (.iload_n 3, 1) := by decide +kernel
theorem d_M_harmOf_33 : decode b_M_harmOf 33 = .ok (.invokevirtual 201, 3) := by decide +kernel
theorem d_M_harmOf_36 : decode b_M_harmOf 36 = .ok (.goto 4, 3) := by decide +kernel
theorem d_M_harmOf_39 : decode b_M_harmOf 39 = .ok (.iload_n 2, 1) := by decide +kernel
theorem d_M_harmOf_40 : decode b_M_harmOf 40 = .ok (.istore_n 2, 1) := by decide +kernel
theorem d_M_harmOf_41 : decode b_M_harmOf 41 = .ok (.iinc 3 1, 3) := by decide +kernel
theorem d_M_harmOf_44 : decode b_M_harmOf 44 = .ok (.goto (-27), 3) := by decide +kernel
theorem d_M_harmOf_47 : decode b_M_harmOf 47 = .ok (.iload_n 2, 1) := by decide +kernel
theorem d_M_harmOf_48 : decode b_M_harmOf 48 = .ok (.aload_n 0, 1) := by decide +kernel
theorem d_M_harmOf_49 : decode b_M_harmOf 49 = .ok (.aload_n 0, 1) := by decide +kernel
theorem d_M_harmOf_50 : decode b_M_harmOf 50 = .ok (.getfield 31, 3) := by decide +kernel
theorem d_M_harmOf_53 : decode b_M_harmOf 53 = .ok (.aload_n 0, 1) := by decide +kernel
theorem d_M_harmOf_54 : decode b_M_harmOf 54 = .ok (.iload_n 1, 1) := by decide +kernel
theorem d_M_harmOf_55 : decode b_M_harmOf 55 = .ok (.invokevirtual 162, 3) := by decide +kernel
theorem d_M_harmOf_58 : decode b_M_harmOf 58 = .ok (.iaload, 1) := by decide +kernel
theorem d_M_harmOf_59 : decode b_M_harmOf 59 = .ok (.invokevirtual 201, 3) := by decide +kernel
theorem d_M_harmOf_62 : decode b_M_harmOf 62 = .ok (.isub, 1) := by decide +kernel
theorem d_M_harmOf_63 : decode b_M_harmOf 63 = .ok (.ireturn, 1) := by decide +kernel
noncomputable def M_harmOf_L17 (S : St) (x1 : Int32) (x2 : Int32) (x3 : Int32) : Option ((Int32 × Int32) × Nat) :=
  if 5 ≤ x3 then
      some ((x2, x3), 1)
    else
      bnd (M_joyOfAll S x3) fun z1 =>
      if z1 ≤ x2 then
        some ((x2, x3 + 1), 0)
      else
        bnd (M_joyOfAll S x3) fun z2 =>
        some ((z2, x3 + 1), 0)
noncomputable def M_harmOf_J47 (S : St) (x1 : Int32) (x2 : Int32) : Option (Int32) :=
  bnd (M_ownerOf S x1) fun z3 =>
    chk (inb z3 5) <|
    bnd (M_joyOfAll S (S 57 (ix z3))) fun z4 =>
    some (x2 - z4)
noncomputable def M_harmOf (S : St) (x1 : Int32) : Option (Int32) :=
  chk (inb x1 10) <|
    if (S 64 (ix x1)) = (-1) then
      some (-3)
    else
      bnd (lp (σ := Int32 × Int32) (fun q => M_harmOf_L17 S x1 q.1 q.2) FZ (0, 0)) fun z5 =>
      M_harmOf_J47 S x1 z5.1.1
set_option maxHeartbeats 4000000 in
set_option maxRecDepth 100000 in
theorem L_M_harmOf_17 (C : gCx p s m args meth c y_M_harmOf.cls b_M_harmOf 4 (some .int)) : ∀ (S : St) (x1 : Int32) (n : Nat) (x2 : Int32) (x3 : Int32) (r : (Int32 × Int32) × Nat), lp (σ := Int32 × Int32) (fun q => M_harmOf_L17 S x1 q.1 q.2) n (x2, x3) = some r → (∀ (y2 : Int32) (y3 : Int32), r = ((y2, y3), 1) → ∀ (ls : Array Slot) (H : Heap) (locs : List Loc), GH w s A S H locs → lv_has ls 4 [(0, .ref (gad w 49)), (1, .int x1), (2, .int y2)] → W p l e (rmm 1 23) s m args below meth c H locs 0 0 Q (F0 m 47 ls [])) → ∀ (ls : Array Slot) (H : Heap) (locs : List Loc), GH w s A S H locs → lv_has ls 4 [(0, .ref (gad w 49)), (1, .int x1), (2, .int x2), (3, .int x3)] → W p l e (rmm 1 23) s m args below meth c H locs 0 0 Q (F0 m 17 ls []) := by
  have hx := C.1
  have hb := C.2.1
  intro S x1 n
  induction n with
  | zero => intro x2 x3 r h; cases h
  | succ n ih =>
    intro x2 x3 r h k1 ls H locs hG hl
    obtain ⟨z, h, hr⟩ := lp_succ h
    have h : M_harmOf_L17 S x1 x2 x3 = some z := h
    unfold M_harmOf_L17 at h
    refine lv_iload_n hx hb d_M_harmOf_17 rfl (lv_at hl 3 rfl) ?_
    refine lv_iconst (v := 5) hx hb d_M_harmOf_18 (by decide) ?_
    refine lv_icmp_ge (tgt := 47) hx hb d_M_harmOf_19 (by decide) (fun hc => ?_) (fun hc => ?_)
    · replace h := it_t h hc
      exact k1 _ _ (lp_exit h hr) ls _ _ hG (lv_sub hl [0, 1, 2] rfl)
    · replace h := it_f h hc
      refine lv_aload_n hx hb d_M_harmOf_22 rfl (lv_at hl 0 rfl) ?_
      refine lv_iload_n hx hb d_M_harmOf_23 rfl (lv_at hl 3 rfl) ?_
      obtain ⟨z1, hz1, h⟩ := bnd_some h
      refine g_goi hG (g_runV (As := [.int x3]) (rest := []) C hG (c_M_joyOfAll l w S x3 hz1 _) (hG.lt (Nat.le_of_ble_eq_true rfl)) (ce49 w _) rfl vw_M_201 rfl rfl ⟨by decide, by decide⟩ rfl hl.1 rfl (Nat.le_of_ble_eq_true rfl) d_M_harmOf_24 ⟨Nat.zero_le _, Nat.zero_le _⟩) (fun H locs hG => ?_)
      refine lv_iload_n hx hb d_M_harmOf_27 rfl (lv_at hl 2 rfl) ?_
      refine lv_icmp_le (tgt := 39) hx hb d_M_harmOf_28 (by decide) (fun hc => ?_) (fun hc => ?_)
      · replace h := it_t h hc
        refine lv_iload_n hx hb d_M_harmOf_39 rfl (lv_at hl 2 rfl) ?_
        refine lv_istore_n (lv' := [(2, .int x2), (0, .ref (gad w 49)), (1, .int x1), (3, .int x3)]) hx hb d_M_harmOf_40 rfl hl (by decide) rfl (fun ls hl => ?_)
        refine lv_iinc (v := x3 + 1) (lv' := [(3, .int (x3 + 1)), (2, .int x2), (0, .ref (gad w 49)), (1, .int x1)]) hx hb d_M_harmOf_41 hl (k := 3) rfl (congrArg (HAdd.hAdd x3) (by decide : Int32.ofInt 1 = 1)) (by decide) rfl (fun ls hl => ?_)
        refine lv_goto (tgt := 17) hx hb d_M_harmOf_44 (by decide) ?_
        exact ih _ _ _ (lp_back h hr) k1 ls _ _ hG (lv_sub hl [2, 3, 1, 0] rfl)
      · replace h := it_f h hc
        refine lv_aload_n hx hb d_M_harmOf_31 rfl (lv_at hl 0 rfl) ?_
        refine lv_iload_n hx hb d_M_harmOf_32 rfl (lv_at hl 3 rfl) ?_
        obtain ⟨z2, hz2, h⟩ := bnd_some h
        refine g_goi hG (g_runV (As := [.int x3]) (rest := []) C hG (c_M_joyOfAll l w S x3 hz2 _) (hG.lt (Nat.le_of_ble_eq_true rfl)) (ce49 w _) rfl vw_M_201 rfl rfl ⟨by decide, by decide⟩ rfl hl.1 rfl (Nat.le_of_ble_eq_true rfl) d_M_harmOf_33 ⟨Nat.zero_le _, Nat.zero_le _⟩) (fun H locs hG => ?_)
        refine lv_goto (tgt := 40) hx hb d_M_harmOf_36 (by decide) ?_
        refine lv_istore_n (lv' := [(2, .int z2), (0, .ref (gad w 49)), (1, .int x1), (3, .int x3)]) hx hb d_M_harmOf_40 rfl hl (by decide) rfl (fun ls hl => ?_)
        refine lv_iinc (v := x3 + 1) (lv' := [(3, .int (x3 + 1)), (2, .int z2), (0, .ref (gad w 49)), (1, .int x1)]) hx hb d_M_harmOf_41 hl (k := 3) rfl (congrArg (HAdd.hAdd x3) (by decide : Int32.ofInt 1 = 1)) (by decide) rfl (fun ls hl => ?_)
        refine lv_goto (tgt := 17) hx hb d_M_harmOf_44 (by decide) ?_
        exact ih _ _ _ (lp_back h hr) k1 ls _ _ hG (lv_sub hl [2, 3, 1, 0] rfl)
set_option maxHeartbeats 4000000 in
set_option maxRecDepth 100000 in
theorem c_M_harmOf (l : Launch) (w : gw) (S : St) (x1 : Int32)  {z : Int32} (h : (M_harmOf S x1) = some z) : gMi l w y_M_harmOf b_M_harmOf 4 (some .int) (rmm 1 23) [.ref (gad w 49), .int x1] S z S := by
  unfold M_harmOf at h
  refine g_met (Qc := gQi w z S) (by decide +kernel) (Nat.le_of_ble_eq_true rfl) ?_
  intro p e s m args below meth c A Q ls hQ C hG hl
  have hx := C.1
  have hb := C.2.1
  have hl : lv_has ls 4 [(0, .ref (gad w 49)), (1, .int x1)] := hl
  have J47 : ∀ (x2 : Int32), M_harmOf_J47 S x1 x2 = some z → ∀ (ls : Array Slot) (H : Heap) (locs : List Loc), GH w s A S H locs → lv_has ls 4 [(0, .ref (gad w 49)), (1, .int x1), (2, .int x2)] → W p l e (rmm 1 23) s m args below meth c H locs 0 0 Q (F0 m 47 ls []) := by
    intro x2 h ls H locs hG hl
    unfold M_harmOf_J47 at h
    refine lv_iload_n hx hb d_M_harmOf_47 rfl (lv_at hl 2 rfl) ?_
    refine lv_aload_n hx hb d_M_harmOf_48 rfl (lv_at hl 0 rfl) ?_
    refine lv_aload_n hx hb d_M_harmOf_49 rfl (lv_at hl 0 rfl) ?_
    refine g_get C hG (hG.lt (Nat.le_of_ble_eq_true rfl)) (ce49 w _) rfl inC8 11 (Nat.le_of_ble_eq_true rfl) qw687 rfl d_M_harmOf_50 ?_
    refine lv_aload_n hx hb d_M_harmOf_53 rfl (lv_at hl 0 rfl) ?_
    refine lv_iload_n hx hb d_M_harmOf_54 rfl (lv_at hl 1 rfl) ?_
    obtain ⟨z3, hz3, h⟩ := bnd_some h
    refine g_goi hG (g_runV (As := [.int x1]) (rest := [.ref (gad w 57), .ref (gad w 49), .int x2]) C hG (c_M_ownerOf l w S x1 hz3 _) (hG.lt (Nat.le_of_ble_eq_true rfl)) (ce49 w _) rfl vw_M_162 rfl rfl ⟨by decide, by decide⟩ rfl hl.1 rfl (Nat.le_of_ble_eq_true rfl) d_M_harmOf_55 ⟨Nat.zero_le _, Nat.zero_le _⟩) (fun H locs hG => ?_)
    obtain ⟨hi1, h⟩ := chk_some h
    refine g_iald (j := ix z3) C hG (hG.lt (Nat.le_of_ble_eq_true rfl)) (ce57 w _) (inb_in hi1) rfl d_M_harmOf_58 ?_
    obtain ⟨z4, hz4, h⟩ := bnd_some h
    refine g_goi hG (g_runV (As := [.int (S 57 (ix z3))]) (rest := [.int x2]) C hG (c_M_joyOfAll l w S (S 57 (ix z3)) hz4 _) (hG.lt (Nat.le_of_ble_eq_true rfl)) (ce49 w _) rfl vw_M_201 rfl rfl ⟨by decide, by decide⟩ rfl hl.1 rfl (Nat.le_of_ble_eq_true rfl) d_M_harmOf_59 ⟨Nat.zero_le _, Nat.zero_le _⟩) (fun H locs hG => ?_)
    refine lv_isub hx hb d_M_harmOf_62 ?_
    exact g_iret C hG (Option.some.inj h) rfl hQ d_M_harmOf_63
  refine lv_aload_n hx hb d_M_harmOf_0 rfl (lv_at hl 0 rfl) ?_
  refine g_get C hG (hG.lt (Nat.le_of_ble_eq_true rfl)) (ce49 w _) rfl inC8 18 (Nat.le_of_ble_eq_true rfl) qw694 rfl d_M_harmOf_1 ?_
  refine lv_iload_n hx hb d_M_harmOf_4 rfl (lv_at hl 1 rfl) ?_
  obtain ⟨hi2, h⟩ := chk_some h
  refine g_iald (j := ix x1) C hG (hG.lt (Nat.le_of_ble_eq_true rfl)) (ce64 w _) (inb_in hi2) rfl d_M_harmOf_5 ?_
  refine lv_iconst (v := (-1)) hx hb d_M_harmOf_6 (by decide) ?_
  refine lv_icmp_ne (tgt := 13) hx hb d_M_harmOf_7 (by decide) (fun hc => ?_) (fun hc => ?_)
  · replace h := it_f h hc
    refine lv_iconst (v := 0) hx hb d_M_harmOf_13 (by decide) ?_
    refine lv_istore_n (lv' := [(2, .int 0), (0, .ref (gad w 49)), (1, .int x1)]) hx hb d_M_harmOf_14 rfl hl (by decide) rfl (fun ls hl => ?_)
    refine lv_iconst (v := 0) hx hb d_M_harmOf_15 (by decide) ?_
    refine lv_istore_n (lv' := [(3, .int 0), (2, .int 0), (0, .ref (gad w 49)), (1, .int x1)]) hx hb d_M_harmOf_16 rfl hl (by decide) rfl (fun ls hl => ?_)
    obtain ⟨z5, hz5, h⟩ := bnd_some h
    refine L_M_harmOf_17 C _ _ FZ _ _ _ hz5 ?_ ls _ _ hG (lv_sub hl [2, 3, 1, 0] rfl)
    intro y2 y3 e9 ls H locs hG hl
    subst e9
    exact J47 _ h ls _ _ hG (lv_sub hl [0, 1, 2] rfl)
  · replace h := it_t h hc
    refine lv_bipush (v := (-3)) hx hb d_M_harmOf_10 (by decide) ?_
    exact g_iret C hG (Option.some.inj h) rfl hQ d_M_harmOf_12
theorem d_M_harm_0 : decode b_M_harm 0 = .ok (.aload_n 0, 1) := by decide +kernel
theorem d_M_harm_1 : decode b_M_harm 1 = .ok (.invokevirtual 181, 3) := by decide +kernel
theorem d_M_harm_4 : decode b_M_harm 4 = .ok (.iload_n 1, 1) := by decide +kernel
theorem d_M_harm_5 : decode b_M_harm 5 = .ok (.invokestatic 152, 3) := by decide +kernel
theorem d_M_harm_8 : decode b_M_harm 8 = .ok (.ifCond .eq 11, 3) := by decide +kernel
theorem d_M_harm_11 : decode b_M_harm 11 = .ok (.aload_n 0, 1) := by decide +kernel
theorem d_M_harm_12 : decode b_M_harm 12 = .ok (.iload_n 1, 1) := by decide +kernel
theorem d_M_harm_13 : decode b_M_harm 13 = .ok (.invokevirtual 204, 3) := by decide +kernel
theorem d_M_harm_16 : decode b_M_harm 16 = .ok (.goto 5, 3) := by decide +kernel
theorem d_M_harm_19 : decode b_M_harm 19 = .ok (.bipush (-2), 2) := by decide +kernel
theorem d_M_harm_21 : decode b_M_harm 21 = .ok (.ireturn, 1) := by decide +kernel
noncomputable def M_harm (S : St) (x1 : Int32) : Option (Int32 × St) :=
  bnd (M_find S) fun z1 =>
    if (M_isEvening x1) = 0 then
      some ((-2), z1)
    else
      bnd (M_harmOf z1 x1) fun z2 =>
      some (z2, z1)
set_option maxHeartbeats 4000000 in
set_option maxRecDepth 100000 in
theorem c_M_harm (l : Launch) (w : gw) (S : St) (x1 : Int32)  {z : Int32 × St} (h : (M_harm S x1) = some z) : gMi l w y_M_harm b_M_harm 2 (some .int) (rmm 5 112) [.ref (gad w 49), .int x1] S z.1 z.2 := by
  unfold M_harm at h
  refine g_met (Qc := gQi w z.1 z.2) (by decide +kernel) (Nat.le_of_ble_eq_true rfl) ?_
  intro p e s m args below meth c A Q ls hQ C hG hl
  have hx := C.1
  have hb := C.2.1
  have hl : lv_has ls 2 [(0, .ref (gad w 49)), (1, .int x1)] := hl
  refine lv_aload_n hx hb d_M_harm_0 rfl (lv_at hl 0 rfl) ?_
  obtain ⟨z1, hz1, h⟩ := bnd_some h
  refine g_gov hG (g_runV (As := []) (rest := []) C hG (c_M_find l w S hz1 _) (hG.lt (Nat.le_of_ble_eq_true rfl)) (ce49 w _) rfl vw_M_181 rfl rfl ⟨by decide, by decide⟩ rfl hl.1 rfl (Nat.le_of_ble_eq_true rfl) d_M_harm_1 ⟨Nat.zero_le _, Nat.zero_le _⟩) (fun H locs hG => ?_)
  refine lv_iload_n hx hb d_M_harm_4 rfl (lv_at hl 1 rfl) ?_
  refine g_goi hG (g_runS (As := [.int x1]) (rest := []) C hG (c_M_isEvening l w z1 x1 _) sw_M_152 rfl rfl ⟨by decide, by decide⟩ rfl hl.1 rfl (Nat.le_of_ble_eq_true rfl) d_M_harm_5 ⟨Nat.zero_le _, Nat.zero_le _⟩) (fun H locs hG => ?_)
  refine lv_if_eq (tgt := 19) hx hb d_M_harm_8 (by decide) (fun hc => ?_) (fun hc => ?_)
  · replace h := it_t h hc
    refine lv_bipush (v := (-2)) hx hb d_M_harm_19 (by decide) ?_
    exact g_iret C hG (sm_fst h) (sm_snd h) hQ d_M_harm_21
  · replace h := it_f h hc
    refine lv_aload_n hx hb d_M_harm_11 rfl (lv_at hl 0 rfl) ?_
    refine lv_iload_n hx hb d_M_harm_12 rfl (lv_at hl 1 rfl) ?_
    obtain ⟨z2, hz2, h⟩ := bnd_some h
    refine g_goi hG (g_runV (As := [.int x1]) (rest := []) C hG (c_M_harmOf l w z1 x1 hz2 _) (hG.lt (Nat.le_of_ble_eq_true rfl)) (ce49 w _) rfl vw_M_204 rfl rfl ⟨by decide, by decide⟩ rfl hl.1 rfl (Nat.le_of_ble_eq_true rfl) d_M_harm_13 ⟨Nat.zero_le _, Nat.zero_le _⟩) (fun H locs hG => ?_)
    refine lv_goto (tgt := 21) hx hb d_M_harm_16 (by decide) ?_
    exact g_iret C hG (sm_fst h) (sm_snd h) hQ d_M_harm_21
theorem d_M_gainOf_0 : decode b_M_gainOf 0 = .ok (.iconst 0, 1) := by decide +kernel
theorem d_M_gainOf_1 : decode b_M_gainOf 1 = .ok (.istore_n 2, 1) := by decide +kernel
theorem d_M_gainOf_2 : decode b_M_gainOf 2 = .ok (.iconst 0, 1) := by decide +kernel
theorem d_M_gainOf_3 : decode b_M_gainOf 3 = .ok (.istore_n 3, 1) := by decide +kernel
theorem d_M_gainOf_4 : decode b_M_gainOf 4 = .ok (.iload_n 3, 1) := by decide +kernel
theorem d_M_gainOf_5 : decode b_M_gainOf 5 = .ok (.bipush 10, 2) := by decide +kernel
theorem d_M_gainOf_7 : decode b_M_gainOf 7 = .ok (.if_icmp .ge 42, 3) := by decide +kernel
theorem d_M_gainOf_10 : decode b_M_gainOf 10 = .ok (.iload_n 2, 1) := by decide +kernel
theorem d_M_gainOf_11 : decode b_M_gainOf 11 = .ok (.aload_n 0, 1) := by decide +kernel
theorem d_M_gainOf_12 : decode b_M_gainOf 12 = .ok (.iload_n 3, 1) := by decide +kernel
theorem d_M_gainOf_13 : decode b_M_gainOf 13 = .ok (.invokevirtual 162, 3) := by decide +kernel
theorem d_M_gainOf_16 : decode b_M_gainOf 16 = .ok (.iload_n 1, 1) := by decide +kernel
theorem d_M_gainOf_17 : decode b_M_gainOf 17 = .ok (.if_icmp .ne 23, 3) := by decide +kernel
theorem d_M_gainOf_20 : decode b_M_gainOf 20 = .ok (.aload_n 0, 1) := by decide +kernel
theorem d_M_gainOf_21 : decode b_M_gainOf 21 = .ok (.getfield 34, 3) := by decide +kernel
theorem d_M_gainOf_24 : decode b_M_gainOf 24 = .ok (.bipush 10, 2) := by decide +kernel
theorem d_M_gainOf_26 : decode b_M_gainOf 26 = .ok (.iload_n 1, 1) := by decide +kernel
theorem d_M_gainOf_27 : decode b_M_gainOf 27 = .ok (.imul, 1) := by decide +kernel
theorem d_M_gainOf_28 : decode b_M_gainOf 28 = .ok (.iload_n 3, 1) := by decide +kernel
theorem d_M_gainOf_29 : decode b_M_gainOf 29 = .ok (.iadd, 1) := by decide +kernel
theorem d_M_gainOf_30 : decode b_M_gainOf 30 = .ok (.iaload, 1) := by decide +kernel
theorem d_M_gainOf_31 : decode b_M_gainOf 31 = .ok (.aload_n 0, 1) := by decide +kernel
theorem d_M_gainOf_32 : decode b_M_gainOf 32 = .ok (.iload_n 3, 1) := by decide +kernel
theorem d_M_gainOf_33 : decode b_M_gainOf 33 = .ok (.invokevirtual 184, 3) := by decide +kernel
theorem d_M_gainOf_36 : decode b_M_gainOf 36 = .ok (.isub, 1) := by decide +kernel
theorem d_M_gainOf_37 : decode b_M_gainOf 37 = .ok (.goto 4, 3) := by decide +kernel
theorem d_M_gainOf_40 : decode b_M_gainOf 40 = .ok (.iconst 0, 1) := by decide +kernel
theorem d_M_gainOf_41 : decode b_M_gainOf 41 = .ok (.iadd, 1) := by decide +kernel
theorem d_M_gainOf_42 : decode b_M_gainOf 42 = .ok (.istore_n 2, 1) := by decide +kernel
theorem d_M_gainOf_43 : decode b_M_gainOf 43 = .ok (.iinc 3 1, 3) := by decide +kernel
theorem d_M_gainOf_46 : decode b_M_gainOf 46 = .ok (.goto (-42), 3) := by decide +kernel
theorem d_M_gainOf_49 : decode b_M_gainOf 49 = .ok (.iload_n 2, 1) := by decide +kernel
theorem d_M_gainOf_50 : decode b_M_gainOf 50 = .ok (.ireturn, 1) := by decide +kernel
noncomputable def M_gainOf_L4 (S : St) (x1 : Int32) (x2 : Int32) (x3 : Int32) : Option ((Int32 × Int32) × Nat) :=
  if 10 ≤ x3 then
      some ((x2, x3), 1)
    else
      bnd (M_ownerOf S x3) fun z1 =>
      if z1 = x1 then
        chk (inb ((10 * x1) + x3) 50) <|
        bnd (M_priceOf S x3) fun z2 =>
        some ((x2 + ((S 58 (ix ((10 * x1) + x3))) - z2), x3 + 1), 0)
      else
        some ((x2 + 0, x3 + 1), 0)
noncomputable def M_gainOf_J49 (S : St) (x2 : Int32) : Option (Int32) :=
  some x2
noncomputable def M_gainOf (S : St) (x1 : Int32) : Option (Int32) :=
  bnd (lp (σ := Int32 × Int32) (fun q => M_gainOf_L4 S x1 q.1 q.2) FZ (0, 0)) fun z3 =>
    M_gainOf_J49 S z3.1.1
set_option maxHeartbeats 4000000 in
set_option maxRecDepth 100000 in
theorem L_M_gainOf_4 (C : gCx p s m args meth c y_M_gainOf.cls b_M_gainOf 4 (some .int)) : ∀ (S : St) (x1 : Int32) (n : Nat) (x2 : Int32) (x3 : Int32) (r : (Int32 × Int32) × Nat), lp (σ := Int32 × Int32) (fun q => M_gainOf_L4 S x1 q.1 q.2) n (x2, x3) = some r → (∀ (y2 : Int32) (y3 : Int32), r = ((y2, y3), 1) → ∀ (ls : Array Slot) (H : Heap) (locs : List Loc), GH w s A S H locs → lv_has ls 4 [(2, .int y2)] → W p l e (rmm 2 45) s m args below meth c H locs 0 0 Q (F0 m 49 ls [])) → ∀ (ls : Array Slot) (H : Heap) (locs : List Loc), GH w s A S H locs → lv_has ls 4 [(0, .ref (gad w 49)), (1, .int x1), (2, .int x2), (3, .int x3)] → W p l e (rmm 2 45) s m args below meth c H locs 0 0 Q (F0 m 4 ls []) := by
  have hx := C.1
  have hb := C.2.1
  intro S x1 n
  induction n with
  | zero => intro x2 x3 r h; cases h
  | succ n ih =>
    intro x2 x3 r h k1 ls H locs hG hl
    obtain ⟨z, h, hr⟩ := lp_succ h
    have h : M_gainOf_L4 S x1 x2 x3 = some z := h
    unfold M_gainOf_L4 at h
    refine lv_iload_n hx hb d_M_gainOf_4 rfl (lv_at hl 3 rfl) ?_
    refine lv_bipush (v := 10) hx hb d_M_gainOf_5 (by decide) ?_
    refine lv_icmp_ge (tgt := 49) hx hb d_M_gainOf_7 (by decide) (fun hc => ?_) (fun hc => ?_)
    · replace h := it_t h hc
      exact k1 _ _ (lp_exit h hr) ls _ _ hG (lv_sub hl [2] rfl)
    · replace h := it_f h hc
      refine lv_iload_n hx hb d_M_gainOf_10 rfl (lv_at hl 2 rfl) ?_
      refine lv_aload_n hx hb d_M_gainOf_11 rfl (lv_at hl 0 rfl) ?_
      refine lv_iload_n hx hb d_M_gainOf_12 rfl (lv_at hl 3 rfl) ?_
      obtain ⟨z1, hz1, h⟩ := bnd_some h
      refine g_goi hG (g_runV (As := [.int x3]) (rest := [.int x2]) C hG (c_M_ownerOf l w S x3 hz1 _) (hG.lt (Nat.le_of_ble_eq_true rfl)) (ce49 w _) rfl vw_M_162 rfl rfl ⟨by decide, by decide⟩ rfl hl.1 rfl (Nat.le_of_ble_eq_true rfl) d_M_gainOf_13 ⟨Nat.zero_le _, Nat.zero_le _⟩) (fun H locs hG => ?_)
      refine lv_iload_n hx hb d_M_gainOf_16 rfl (lv_at hl 1 rfl) ?_
      refine lv_icmp_ne (tgt := 40) hx hb d_M_gainOf_17 (by decide) (fun hc => ?_) (fun hc => ?_)
      · replace h := it_f h hc
        refine lv_iconst (v := 0) hx hb d_M_gainOf_40 (by decide) ?_
        refine lv_iadd hx hb d_M_gainOf_41 ?_
        refine lv_istore_n (lv' := [(2, .int (x2 + 0)), (0, .ref (gad w 49)), (1, .int x1), (3, .int x3)]) hx hb d_M_gainOf_42 rfl hl (by decide) rfl (fun ls hl => ?_)
        refine lv_iinc (v := x3 + 1) (lv' := [(3, .int (x3 + 1)), (2, .int (x2 + 0)), (0, .ref (gad w 49)), (1, .int x1)]) hx hb d_M_gainOf_43 hl (k := 3) rfl (congrArg (HAdd.hAdd x3) (by decide : Int32.ofInt 1 = 1)) (by decide) rfl (fun ls hl => ?_)
        refine lv_goto (tgt := 4) hx hb d_M_gainOf_46 (by decide) ?_
        exact ih _ _ _ (lp_back h hr) k1 ls _ _ hG (lv_sub hl [2, 3, 1, 0] rfl)
      · replace h := it_t h hc
        refine lv_aload_n hx hb d_M_gainOf_20 rfl (lv_at hl 0 rfl) ?_
        refine g_get C hG (hG.lt (Nat.le_of_ble_eq_true rfl)) (ce49 w _) rfl inC8 12 (Nat.le_of_ble_eq_true rfl) qw688 rfl d_M_gainOf_21 ?_
        refine lv_bipush (v := 10) hx hb d_M_gainOf_24 (by decide) ?_
        refine lv_iload_n hx hb d_M_gainOf_26 rfl (lv_at hl 1 rfl) ?_
        refine lv_imul hx hb d_M_gainOf_27 ?_
        refine lv_iload_n hx hb d_M_gainOf_28 rfl (lv_at hl 3 rfl) ?_
        refine lv_iadd hx hb d_M_gainOf_29 ?_
        obtain ⟨hi1, h⟩ := chk_some h
        refine g_iald (j := ix ((10 * x1) + x3)) C hG (hG.lt (Nat.le_of_ble_eq_true rfl)) (ce58 w _) (inb_in hi1) rfl d_M_gainOf_30 ?_
        refine lv_aload_n hx hb d_M_gainOf_31 rfl (lv_at hl 0 rfl) ?_
        refine lv_iload_n hx hb d_M_gainOf_32 rfl (lv_at hl 3 rfl) ?_
        obtain ⟨z2, hz2, h⟩ := bnd_some h
        refine g_goi hG (g_runV (As := [.int x3]) (rest := [.int (S 58 (ix ((10 * x1) + x3))), .int x2]) C hG (c_M_priceOf l w S x3 hz2 _) (hG.lt (Nat.le_of_ble_eq_true rfl)) (ce49 w _) rfl vw_M_184 rfl rfl ⟨by decide, by decide⟩ rfl hl.1 rfl (Nat.le_of_ble_eq_true rfl) d_M_gainOf_33 ⟨Nat.zero_le _, Nat.zero_le _⟩) (fun H locs hG => ?_)
        refine lv_isub hx hb d_M_gainOf_36 ?_
        refine lv_goto (tgt := 41) hx hb d_M_gainOf_37 (by decide) ?_
        refine lv_iadd hx hb d_M_gainOf_41 ?_
        refine lv_istore_n (lv' := [(2, .int (x2 + ((S 58 (ix ((10 * x1) + x3))) - z2))), (0, .ref (gad w 49)), (1, .int x1), (3, .int x3)]) hx hb d_M_gainOf_42 rfl hl (by decide) rfl (fun ls hl => ?_)
        refine lv_iinc (v := x3 + 1) (lv' := [(3, .int (x3 + 1)), (2, .int (x2 + ((S 58 (ix ((10 * x1) + x3))) - z2))), (0, .ref (gad w 49)), (1, .int x1)]) hx hb d_M_gainOf_43 hl (k := 3) rfl (congrArg (HAdd.hAdd x3) (by decide : Int32.ofInt 1 = 1)) (by decide) rfl (fun ls hl => ?_)
        refine lv_goto (tgt := 4) hx hb d_M_gainOf_46 (by decide) ?_
        exact ih _ _ _ (lp_back h hr) k1 ls _ _ hG (lv_sub hl [2, 3, 1, 0] rfl)
set_option maxHeartbeats 4000000 in
set_option maxRecDepth 100000 in
theorem c_M_gainOf (l : Launch) (w : gw) (S : St) (x1 : Int32)  {z : Int32} (h : (M_gainOf S x1) = some z) : gMi l w y_M_gainOf b_M_gainOf 4 (some .int) (rmm 2 45) [.ref (gad w 49), .int x1] S z S := by
  unfold M_gainOf at h
  refine g_met (Qc := gQi w z S) (by decide +kernel) (Nat.le_of_ble_eq_true rfl) ?_
  intro p e s m args below meth c A Q ls hQ C hG hl
  have hx := C.1
  have hb := C.2.1
  have hl : lv_has ls 4 [(0, .ref (gad w 49)), (1, .int x1)] := hl
  have J49 : ∀ (x2 : Int32), M_gainOf_J49 S x2 = some z → ∀ (ls : Array Slot) (H : Heap) (locs : List Loc), GH w s A S H locs → lv_has ls 4 [(2, .int x2)] → W p l e (rmm 2 45) s m args below meth c H locs 0 0 Q (F0 m 49 ls []) := by
    intro x2 h ls H locs hG hl
    unfold M_gainOf_J49 at h
    refine lv_iload_n hx hb d_M_gainOf_49 rfl (lv_at hl 0 rfl) ?_
    exact g_iret C hG (Option.some.inj h) rfl hQ d_M_gainOf_50
  refine lv_iconst (v := 0) hx hb d_M_gainOf_0 (by decide) ?_
  refine lv_istore_n (lv' := [(2, .int 0), (0, .ref (gad w 49)), (1, .int x1)]) hx hb d_M_gainOf_1 rfl hl (by decide) rfl (fun ls hl => ?_)
  refine lv_iconst (v := 0) hx hb d_M_gainOf_2 (by decide) ?_
  refine lv_istore_n (lv' := [(3, .int 0), (2, .int 0), (0, .ref (gad w 49)), (1, .int x1)]) hx hb d_M_gainOf_3 rfl hl (by decide) rfl (fun ls hl => ?_)
  obtain ⟨z3, hz3, h⟩ := bnd_some h
  refine L_M_gainOf_4 C _ _ FZ _ _ _ hz3 ?_ ls _ _ hG (lv_sub hl [2, 3, 1, 0] rfl)
  intro y2 y3 e9 ls H locs hG hl
  subst e9
  exact J49 _ h ls _ _ hG (lv_sub hl [0] rfl)
theorem d_M_gain_0 : decode b_M_gain 0 = .ok (.aload_n 0, 1) := by decide +kernel
theorem d_M_gain_1 : decode b_M_gain 1 = .ok (.invokevirtual 181, 3) := by decide +kernel
theorem d_M_gain_4 : decode b_M_gain 4 = .ok (.iload_n 1, 1) := by decide +kernel
theorem d_M_gain_5 : decode b_M_gain 5 = .ok (.invokestatic 140, 3) := by decide +kernel
theorem d_M_gain_8 : decode b_M_gain 8 = .ok (.ifCond .eq 11, 3) := by decide +kernel
theorem d_M_gain_11 : decode b_M_gain 11 = .ok (.aload_n 0, 1) := by decide +kernel
theorem d_M_gain_12 : decode b_M_gain 12 = .ok (.iload_n 1, 1) := by decide +kernel
theorem d_M_gain_13 : decode b_M_gain 13 = .ok (.invokevirtual 207, 3) := by decide +kernel
theorem d_M_gain_16 : decode b_M_gain 16 = .ok (.goto 6, 3) := by decide +kernel
theorem d_M_gain_19 : decode b_M_gain 19 = .ok (.sipush (-10002), 3) := by decide +kernel
theorem d_M_gain_22 : decode b_M_gain 22 = .ok (.ireturn, 1) := by decide +kernel
noncomputable def M_gain (S : St) (x1 : Int32) : Option (Int32 × St) :=
  bnd (M_find S) fun z1 =>
    if (M_isBidder x1) = 0 then
      some ((-10002), z1)
    else
      bnd (M_gainOf z1 x1) fun z2 =>
      some (z2, z1)
set_option maxHeartbeats 4000000 in
set_option maxRecDepth 100000 in
theorem c_M_gain (l : Launch) (w : gw) (S : St) (x1 : Int32)  {z : Int32 × St} (h : (M_gain S x1) = some z) : gMi l w y_M_gain b_M_gain 2 (some .int) (rmm 5 112) [.ref (gad w 49), .int x1] S z.1 z.2 := by
  unfold M_gain at h
  refine g_met (Qc := gQi w z.1 z.2) (by decide +kernel) (Nat.le_of_ble_eq_true rfl) ?_
  intro p e s m args below meth c A Q ls hQ C hG hl
  have hx := C.1
  have hb := C.2.1
  have hl : lv_has ls 2 [(0, .ref (gad w 49)), (1, .int x1)] := hl
  refine lv_aload_n hx hb d_M_gain_0 rfl (lv_at hl 0 rfl) ?_
  obtain ⟨z1, hz1, h⟩ := bnd_some h
  refine g_gov hG (g_runV (As := []) (rest := []) C hG (c_M_find l w S hz1 _) (hG.lt (Nat.le_of_ble_eq_true rfl)) (ce49 w _) rfl vw_M_181 rfl rfl ⟨by decide, by decide⟩ rfl hl.1 rfl (Nat.le_of_ble_eq_true rfl) d_M_gain_1 ⟨Nat.zero_le _, Nat.zero_le _⟩) (fun H locs hG => ?_)
  refine lv_iload_n hx hb d_M_gain_4 rfl (lv_at hl 1 rfl) ?_
  refine g_goi hG (g_runS (As := [.int x1]) (rest := []) C hG (c_M_isBidder l w z1 x1 _) sw_M_140 rfl rfl ⟨by decide, by decide⟩ rfl hl.1 rfl (Nat.le_of_ble_eq_true rfl) d_M_gain_5 ⟨Nat.zero_le _, Nat.zero_le _⟩) (fun H locs hG => ?_)
  refine lv_if_eq (tgt := 19) hx hb d_M_gain_8 (by decide) (fun hc => ?_) (fun hc => ?_)
  · replace h := it_t h hc
    refine lv_sipush (v := (-10002)) hx hb d_M_gain_19 (by decide) ?_
    exact g_iret C hG (sm_fst h) (sm_snd h) hQ d_M_gain_22
  · replace h := it_f h hc
    refine lv_aload_n hx hb d_M_gain_11 rfl (lv_at hl 0 rfl) ?_
    refine lv_iload_n hx hb d_M_gain_12 rfl (lv_at hl 1 rfl) ?_
    obtain ⟨z2, hz2, h⟩ := bnd_some h
    refine g_goi hG (g_runV (As := [.int x1]) (rest := []) C hG (c_M_gainOf l w z1 x1 hz2 _) (hG.lt (Nat.le_of_ble_eq_true rfl)) (ce49 w _) rfl vw_M_207 rfl rfl ⟨by decide, by decide⟩ rfl hl.1 rfl (Nat.le_of_ble_eq_true rfl) d_M_gain_13 ⟨Nat.zero_le _, Nat.zero_le _⟩) (fun H locs hG => ?_)
    refine lv_goto (tgt := 22) hx hb d_M_gain_16 (by decide) ?_
    exact g_iret C hG (sm_fst h) (sm_snd h) hQ d_M_gain_22
theorem d_M_withoutOf_0 : decode b_M_withoutOf 0 = .ok (.aload_n 0, 1) := by decide +kernel
theorem d_M_withoutOf_1 : decode b_M_withoutOf 1 = .ok (.iload_n 1, 1) := by decide +kernel
theorem d_M_withoutOf_2 : decode b_M_withoutOf 2 = .ok (.invokevirtual 177, 3) := by decide +kernel
theorem d_M_withoutOf_5 : decode b_M_withoutOf 5 = .ok (.aload_n 0, 1) := by decide +kernel
theorem d_M_withoutOf_6 : decode b_M_withoutOf 6 = .ok (.iload_n 2, 1) := by decide +kernel
theorem d_M_withoutOf_7 : decode b_M_withoutOf 7 = .ok (.invokevirtual 162, 3) := by decide +kernel
theorem d_M_withoutOf_10 : decode b_M_withoutOf 10 = .ok (.ireturn, 1) := by decide +kernel
noncomputable def M_withoutOf (S : St) (x1 : Int32) (x2 : Int32) : Option (Int32 × St) :=
  bnd (M_looks S x1) fun z1 =>
    bnd (M_ownerOf z1 x2) fun z2 =>
    some (z2, z1)
set_option maxHeartbeats 4000000 in
set_option maxRecDepth 100000 in
theorem c_M_withoutOf (l : Launch) (w : gw) (S : St) (x1 : Int32) (x2 : Int32)  {z : Int32 × St} (h : (M_withoutOf S x1 x2) = some z) : gMi l w y_M_withoutOf b_M_withoutOf 3 (some .int) (rmm 4 92) [.ref (gad w 49), .int x1, .int x2] S z.1 z.2 := by
  unfold M_withoutOf at h
  refine g_met (Qc := gQi w z.1 z.2) (by decide +kernel) (Nat.le_of_ble_eq_true rfl) ?_
  intro p e s m args below meth c A Q ls hQ C hG hl
  have hx := C.1
  have hb := C.2.1
  have hl : lv_has ls 3 [(0, .ref (gad w 49)), (1, .int x1), (2, .int x2)] := hl
  refine lv_aload_n hx hb d_M_withoutOf_0 rfl (lv_at hl 0 rfl) ?_
  refine lv_iload_n hx hb d_M_withoutOf_1 rfl (lv_at hl 1 rfl) ?_
  obtain ⟨z1, hz1, h⟩ := bnd_some h
  refine g_gov hG (g_runV (As := [.int x1]) (rest := []) C hG (c_M_looks l w S x1 hz1 _) (hG.lt (Nat.le_of_ble_eq_true rfl)) (ce49 w _) rfl vw_M_177 rfl rfl ⟨by decide, by decide⟩ rfl hl.1 rfl (Nat.le_of_ble_eq_true rfl) d_M_withoutOf_2 ⟨Nat.zero_le _, Nat.zero_le _⟩) (fun H locs hG => ?_)
  refine lv_aload_n hx hb d_M_withoutOf_5 rfl (lv_at hl 0 rfl) ?_
  refine lv_iload_n hx hb d_M_withoutOf_6 rfl (lv_at hl 2 rfl) ?_
  obtain ⟨z2, hz2, h⟩ := bnd_some h
  refine g_goi hG (g_runV (As := [.int x2]) (rest := []) C hG (c_M_ownerOf l w z1 x2 hz2 _) (hG.lt (Nat.le_of_ble_eq_true rfl)) (ce49 w _) rfl vw_M_162 rfl rfl ⟨by decide, by decide⟩ rfl hl.1 rfl (Nat.le_of_ble_eq_true rfl) d_M_withoutOf_7 ⟨Nat.zero_le _, Nat.zero_le _⟩) (fun H locs hG => ?_)
  exact g_iret C hG (sm_fst h) (sm_snd h) hQ d_M_withoutOf_10
theorem d_M_without_0 : decode b_M_without 0 = .ok (.aload_n 0, 1) := by decide +kernel
theorem d_M_without_1 : decode b_M_without 1 = .ok (.invokevirtual 137, 3) := by decide +kernel
theorem d_M_without_4 : decode b_M_without 4 = .ok (.pop, 1) := by decide +kernel
theorem d_M_without_5 : decode b_M_without 5 = .ok (.iload_n 1, 1) := by decide +kernel
theorem d_M_without_6 : decode b_M_without 6 = .ok (.i2l, 1) := by decide +kernel
theorem d_M_without_7 : decode b_M_without 7 = .ok (.lconst 0, 1) := by decide +kernel
theorem d_M_without_8 : decode b_M_without 8 = .ok (.aload_n 0, 1) := by decide +kernel
theorem d_M_without_9 : decode b_M_without 9 = .ok (.getfield 119, 3) := by decide +kernel
theorem d_M_without_12 : decode b_M_without 12 = .ok (.iconst 1, 1) := by decide +kernel
theorem d_M_without_13 : decode b_M_without 13 = .ok (.isub, 1) := by decide +kernel
theorem d_M_without_14 : decode b_M_without 14 = .ok (.i2l, 1) := by decide +kernel
theorem d_M_without_15 : decode b_M_without 15 = .ok (.invokestatic 82, 3) := by decide +kernel
theorem d_M_without_18 : decode b_M_without 18 = .ok (.ifCond .eq 19, 3) := by decide +kernel
theorem d_M_without_21 : decode b_M_without 21 = .ok (.iload_n 2, 1) := by decide +kernel
theorem d_M_without_22 : decode b_M_without 22 = .ok (.invokestatic 152, 3) := by decide +kernel
theorem d_M_without_25 : decode b_M_without 25 = .ok (.ifCond .eq 12, 3) := by decide +kernel
theorem d_M_without_28 : decode b_M_without 28 = .ok (.aload_n 0, 1) := by decide +kernel
theorem d_M_without_29 : decode b_M_without 29 = .ok (.iload_n 1, 1) := by decide +kernel
theorem d_M_without_30 : decode b_M_without 30 = .ok (.iload_n 2, 1) := by decide +kernel
theorem d_M_without_31 : decode b_M_without 31 = .ok (.invokevirtual 210, 3) := by decide +kernel
theorem d_M_without_34 : decode b_M_without 34 = .ok (.goto 5, 3) := by decide +kernel
theorem d_M_without_37 : decode b_M_without 37 = .ok (.bipush (-2), 2) := by decide +kernel
theorem d_M_without_39 : decode b_M_without 39 = .ok (.ireturn, 1) := by decide +kernel
noncomputable def M_without (S : St) (x1 : Int32) (x2 : Int32) : Option (Int32 × St) :=
  bnd (M_reads S) fun z1 =>
    if (M_in x1.toInt64 0 (((z1.2 49 8) - 1).toInt64)) = 0 then
      some ((-2), z1.2)
    else
      if (M_isEvening x2) = 0 then
        some ((-2), z1.2)
      else
        bnd (M_withoutOf z1.2 x1 x2) fun z2 =>
        some (z2.1, z2.2)
set_option maxHeartbeats 4000000 in
set_option maxRecDepth 100000 in
theorem c_M_without (l : Launch) (w : gw) (S : St) (x1 : Int32) (x2 : Int32)  {z : Int32 × St} (h : (M_without S x1 x2) = some z) : gMi l w y_M_without b_M_without 3 (some .int) (rmm 5 114) [.ref (gad w 49), .int x1, .int x2] S z.1 z.2 := by
  unfold M_without at h
  refine g_met (Qc := gQi w z.1 z.2) (by decide +kernel) (Nat.le_of_ble_eq_true rfl) ?_
  intro p e s m args below meth c A Q ls hQ C hG hl
  have hx := C.1
  have hb := C.2.1
  have hl : lv_has ls 3 [(0, .ref (gad w 49)), (1, .int x1), (2, .int x2)] := hl
  refine lv_aload_n hx hb d_M_without_0 rfl (lv_at hl 0 rfl) ?_
  obtain ⟨z1, hz1, h⟩ := bnd_some h
  refine g_goi hG (g_runV (As := []) (rest := []) C hG (c_M_reads l w S hz1 _) (hG.lt (Nat.le_of_ble_eq_true rfl)) (ce49 w _) rfl vw_M_137 rfl rfl ⟨by decide, by decide⟩ rfl hl.1 rfl (Nat.le_of_ble_eq_true rfl) d_M_without_1 ⟨Nat.zero_le _, Nat.zero_le _⟩) (fun H locs hG => ?_)
  refine lv_pop hx hb d_M_without_4 rfl ?_
  refine lv_iload_n hx hb d_M_without_5 rfl (lv_at hl 1 rfl) ?_
  refine lv_i2l (v := x1.toInt64) hx hb d_M_without_6 rfl ?_
  refine lv_lconst (v := 0) hx hb d_M_without_7 (by decide) ?_
  refine lv_aload_n hx hb d_M_without_8 rfl (lv_at hl 0 rfl) ?_
  refine g_get C hG (hG.lt (Nat.le_of_ble_eq_true rfl)) (ce49 w _) rfl inC8 8 (Nat.le_of_ble_eq_true rfl) qw684 rfl d_M_without_9 ?_
  refine lv_iconst (v := 1) hx hb d_M_without_12 (by decide) ?_
  refine lv_isub hx hb d_M_without_13 ?_
  refine lv_i2l (v := ((z1.2 49 8) - 1).toInt64) hx hb d_M_without_14 rfl ?_
  refine g_goi hG (g_runS (As := [.long x1.toInt64, .long 0, .long (((z1.2 49 8) - 1).toInt64)]) (rest := []) C hG (c_M_in l w z1.2 x1.toInt64 0 (((z1.2 49 8) - 1).toInt64) _) sw_M_82 rfl rfl ⟨by decide, by decide⟩ rfl hl.1 rfl (Nat.le_of_ble_eq_true rfl) d_M_without_15 ⟨Nat.zero_le _, Nat.zero_le _⟩) (fun H locs hG => ?_)
  refine lv_if_eq (tgt := 37) hx hb d_M_without_18 (by decide) (fun hc => ?_) (fun hc => ?_)
  · replace h := it_t h hc
    refine lv_bipush (v := (-2)) hx hb d_M_without_37 (by decide) ?_
    exact g_iret C hG (sm_fst h) (sm_snd h) hQ d_M_without_39
  · replace h := it_f h hc
    refine lv_iload_n hx hb d_M_without_21 rfl (lv_at hl 2 rfl) ?_
    refine g_goi hG (g_runS (As := [.int x2]) (rest := []) C hG (c_M_isEvening l w z1.2 x2 _) sw_M_152 rfl rfl ⟨by decide, by decide⟩ rfl hl.1 rfl (Nat.le_of_ble_eq_true rfl) d_M_without_22 ⟨Nat.zero_le _, Nat.zero_le _⟩) (fun H locs hG => ?_)
    refine lv_if_eq (tgt := 37) hx hb d_M_without_25 (by decide) (fun hc => ?_) (fun hc => ?_)
    · replace h := it_t h hc
      refine lv_bipush (v := (-2)) hx hb d_M_without_37 (by decide) ?_
      exact g_iret C hG (sm_fst h) (sm_snd h) hQ d_M_without_39
    · replace h := it_f h hc
      refine lv_aload_n hx hb d_M_without_28 rfl (lv_at hl 0 rfl) ?_
      refine lv_iload_n hx hb d_M_without_29 rfl (lv_at hl 1 rfl) ?_
      refine lv_iload_n hx hb d_M_without_30 rfl (lv_at hl 2 rfl) ?_
      obtain ⟨z2, hz2, h⟩ := bnd_some h
      refine g_goi hG (g_runV (As := [.int x1, .int x2]) (rest := []) C hG (c_M_withoutOf l w z1.2 x1 x2 hz2 _) (hG.lt (Nat.le_of_ble_eq_true rfl)) (ce49 w _) rfl vw_M_210 rfl rfl ⟨by decide, by decide⟩ rfl hl.1 rfl (Nat.le_of_ble_eq_true rfl) d_M_without_31 ⟨Nat.zero_le _, Nat.zero_le _⟩) (fun H locs hG => ?_)
      refine lv_goto (tgt := 39) hx hb d_M_without_34 (by decide) ?_
      exact g_iret C hG (sm_fst h) (sm_snd h) hQ d_M_without_39
