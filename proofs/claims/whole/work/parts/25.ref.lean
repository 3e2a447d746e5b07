variable {p : Program} {l : Launch} {e : Env} {s : State} {m : MethodId} {args : Array Value} {below : List Frame} {meth : Method} {c : Code} {A : Nat → Prop} {Q : State → Prop} {w : gw} {S : St}
theorem d_M_seen_0 : decode b_M_seen 0 = .ok (.iload_n 1, 1) := by decide +kernel
theorem d_M_seen_1 : decode b_M_seen 1 = .ok (.invokestatic 152, 3) := by decide +kernel
theorem d_M_seen_4 : decode b_M_seen 4 = .ok (.ifCond .eq 15, 3) := by decide +kernel
theorem d_M_seen_7 : decode b_M_seen 7 = .ok (.iload_n 2, 1) := by decide +kernel
theorem d_M_seen_8 : decode b_M_seen 8 = .ok (.i2l, 1) := by decide +kernel
theorem d_M_seen_9 : decode b_M_seen 9 = .ok (.lconst 0, 1) := by decide +kernel
theorem d_M_seen_10 : decode b_M_seen 10 = .ok (.ldc2_w 126, 3) := by decide +kernel
theorem d_M_seen_13 : decode b_M_seen 13 = .ok (.invokestatic 82, 3) := by decide +kernel
theorem d_M_seen_16 : decode b_M_seen 16 = .ok (.ifCond .ne 6, 3) := by decide +kernel
theorem d_M_seen_19 : decode b_M_seen 19 = .ok (.bipush (-2), 2) := by decide +kernel
theorem d_M_seen_21 : decode b_M_seen 21 = .ok (.ireturn, 1) := by decide +kernel
theorem d_M_seen_22 : decode b_M_seen 22 = .ok (.aload_n 0, 1) := by decide +kernel
theorem d_M_seen_23 : decode b_M_seen 23 = .ok (.getfield 252, 3) := by decide +kernel
theorem d_M_seen_26 : decode b_M_seen 26 = .ok (.bipush 8, 2) := by decide +kernel
theorem d_M_seen_28 : decode b_M_seen 28 = .ok (.if_icmp .ne 6, 3) := by decide +kernel
theorem d_M_seen_31 : decode b_M_seen 31 = .ok (.bipush (-4), 2) := by decide +kernel
theorem d_M_seen_33 : decode b_M_seen 33 = .ok (.ireturn, 1) := by decide +kernel
theorem d_M_seen_34 : decode b_M_seen 34 = .ok (.aload_n 0, 1) := by decide +kernel
theorem d_M_seen_35 : decode b_M_seen 35 = .ok (.getfield 62, 3) := by decide +kernel
theorem d_M_seen_38 : decode b_M_seen 38 = .ok (.iconst 2, 1) := by decide +kernel
theorem d_M_seen_39 : decode b_M_seen 39 = .ok (.aload_n 0, 1) := by decide +kernel
theorem d_M_seen_40 : decode b_M_seen 40 = .ok (.getfield 252, 3) := by decide +kernel
theorem d_M_seen_43 : decode b_M_seen 43 = .ok (.imul, 1) := by decide +kernel
theorem d_M_seen_44 : decode b_M_seen 44 = .ok (.iload_n 1, 1) := by decide +kernel
theorem d_M_seen_45 : decode b_M_seen 45 = .ok (.iastore, 1) := by decide +kernel
theorem d_M_seen_46 : decode b_M_seen 46 = .ok (.aload_n 0, 1) := by decide +kernel
theorem d_M_seen_47 : decode b_M_seen 47 = .ok (.getfield 62, 3) := by decide +kernel
theorem d_M_seen_50 : decode b_M_seen 50 = .ok (.iconst 2, 1) := by decide +kernel
theorem d_M_seen_51 : decode b_M_seen 51 = .ok (.aload_n 0, 1) := by decide +kernel
theorem d_M_seen_52 : decode b_M_seen 52 = .ok (.getfield 252, 3) := by decide +kernel
theorem d_M_seen_55 : decode b_M_seen 55 = .ok (.imul, 1) := by decide +kernel
theorem d_M_seen_56 : decode b_M_seen 56 = .ok (.iconst 1, 1) := by decide +kernel
theorem d_M_seen_57 : decode b_M_seen 57 = .ok (.iadd, 1) := by decide +kernel
theorem d_M_seen_58 : decode b_M_seen 58 = .ok (.iload_n 2, 1) := by decide +kernel
theorem d_M_seen_59 : decode b_M_seen 59 = .ok (.iastore, 1) := by decide +kernel
theorem d_M_seen_60 : decode b_M_seen 60 = .ok (.aload_n 0, 1) := by decide +kernel
theorem d_M_seen_61 : decode b_M_seen 61 = .ok (.dup, 1) := by decide +kernel
theorem d_M_seen_62 : decode b_M_seen 62 = .ok (.getfield 252, 3) := by decide +kernel
theorem d_M_seen_65 : decode b_M_seen 65 = .ok (.iconst 1, 1) := by decide +kernel
theorem d_M_seen_66 : decode b_M_seen 66 = .ok (.iadd, 1) := by decide +kernel
theorem d_M_seen_67 : decode b_M_seen 67 = .ok (.putfield 252, 3) := by decide +kernel
theorem d_M_seen_70 : decode b_M_seen 70 = .ok (.aload_n 0, 1) := by decide +kernel
theorem d_M_seen_71 : decode b_M_seen 71 = .ok (.getfield 252, 3) := by decide +kernel
theorem d_M_seen_74 : decode b_M_seen 74 = .ok (.ireturn, 1) := by decide +kernel
noncomputable def M_seen (S : St) (x1 : Int32) (x2 : Int32) : Option (Int32 × St) :=
  if (M_isEvening x1) = 0 then
      some ((-2), S)
    else
      if (M_in x2.toInt64 0 4) = 0 then
        some ((-2), S)
      else
        if (S 49 22) = 8 then
          some ((-4), S)
        else
          chk (inb (2 * (S 49 22)) 16) <|
          chk (inb ((2 * ((up S 67 (ix (2 * (S 49 22))) x1) 49 22)) + 1) 16) <|
          some ((up (up (up S 67 (ix (2 * (S 49 22))) x1) 67 (ix ((2 * ((up S 67 (ix (2 * (S 49 22))) x1) 49 22)) + 1)) x2) 49 22 (((up (up S 67 (ix (2 * (S 49 22))) x1) 67 (ix ((2 * ((up S 67 (ix (2 * (S 49 22))) x1) 49 22)) + 1)) x2) 49 22) + 1)) 49 22, up (up (up S 67 (ix (2 * (S 49 22))) x1) 67 (ix ((2 * ((up S 67 (ix (2 * (S 49 22))) x1) 49 22)) + 1)) x2) 49 22 (((up (up S 67 (ix (2 * (S 49 22))) x1) 67 (ix ((2 * ((up S 67 (ix (2 * (S 49 22))) x1) 49 22)) + 1)) x2) 49 22) + 1))
set_option maxHeartbeats 4000000 in
set_option maxRecDepth 100000 in
theorem c_M_seen (l : Launch) (w : gw) (S : St) (x1 : Int32) (x2 : Int32)  {z : Int32 × St} (h : (M_seen S x1 x2) = some z) : gMi l w y_M_seen b_M_seen 3 (some .int) (rmm 2 45) [.ref (gad w 49), .int x1, .int x2] S z.1 z.2 := by
  unfold M_seen at h
  refine g_met (Qc := gQi w z.1 z.2) (by decide +kernel) (Nat.le_of_ble_eq_true rfl) ?_
  intro p e s m args below meth c A Q ls hQ C hG hl
  have hx := C.1
  have hb := C.2.1
  have hl : lv_has ls 3 [(0, .ref (gad w 49)), (1, .int x1), (2, .int x2)] := hl
  refine lv_iload_n hx hb d_M_seen_0 rfl (lv_at hl 1 rfl) ?_
  refine g_goi hG (g_runS (As := [.int x1]) (rest := []) C hG (c_M_isEvening l w S x1 _) sw_M_152 rfl rfl ⟨by decide, by decide⟩ rfl hl.1 rfl (Nat.le_of_ble_eq_true rfl) d_M_seen_1 ⟨Nat.zero_le _, Nat.zero_le _⟩) (fun H locs hG => ?_)
  refine lv_if_eq (tgt := 19) hx hb d_M_seen_4 (by decide) (fun hc => ?_) (fun hc => ?_)
  · replace h := it_t h hc
    refine lv_bipush (v := (-2)) hx hb d_M_seen_19 (by decide) ?_
    exact g_iret C hG (sm_fst h) (sm_snd h) hQ d_M_seen_21
  · replace h := it_f h hc
    refine lv_iload_n hx hb d_M_seen_7 rfl (lv_at hl 2 rfl) ?_
    refine lv_i2l (v := x2.toInt64) hx hb d_M_seen_8 rfl ?_
    refine lv_lconst (v := 0) hx hb d_M_seen_9 (by decide) ?_
    refine lv_ldc2 (v := 4) hx hb C.2.2.2.1 (C.2.2.2.2.1 _ qw829) d_M_seen_10 ?_
    refine g_goi hG (g_runS (As := [.long x2.toInt64, .long 0, .long 4]) (rest := []) C hG (c_M_in l w S x2.toInt64 0 4 _) sw_M_82 rfl rfl ⟨by decide, by decide⟩ rfl hl.1 rfl (Nat.le_of_ble_eq_true rfl) d_M_seen_13 ⟨Nat.zero_le _, Nat.zero_le _⟩) (fun H locs hG => ?_)
    refine lv_if_ne (tgt := 22) hx hb d_M_seen_16 (by decide) (fun hc => ?_) (fun hc => ?_)
    · replace h := it_f h hc
      refine lv_aload_n hx hb d_M_seen_22 rfl (lv_at hl 0 rfl) ?_
      refine g_get C hG (hG.lt (Nat.le_of_ble_eq_true rfl)) (ce49 w _) rfl inC8 22 (Nat.le_of_ble_eq_true rfl) qw698 rfl d_M_seen_23 ?_
      refine lv_bipush (v := 8) hx hb d_M_seen_26 (by decide) ?_
      refine lv_icmp_ne (tgt := 34) hx hb d_M_seen_28 (by decide) (fun hc => ?_) (fun hc => ?_)
      · replace h := it_f h hc
        refine lv_aload_n hx hb d_M_seen_34 rfl (lv_at hl 0 rfl) ?_
        refine g_get C hG (hG.lt (Nat.le_of_ble_eq_true rfl)) (ce49 w _) rfl inC8 23 (Nat.le_of_ble_eq_true rfl) qw699 rfl d_M_seen_35 ?_
        refine lv_iconst (v := 2) hx hb d_M_seen_38 (by decide) ?_
        refine lv_aload_n hx hb d_M_seen_39 rfl (lv_at hl 0 rfl) ?_
        refine g_get C hG (hG.lt (Nat.le_of_ble_eq_true rfl)) (ce49 w _) rfl inC8 22 (Nat.le_of_ble_eq_true rfl) qw698 rfl d_M_seen_40 ?_
        refine lv_imul hx hb d_M_seen_43 ?_
        refine lv_iload_n hx hb d_M_seen_44 rfl (lv_at hl 1 rfl) ?_
        obtain ⟨hi1, h⟩ := chk_some h
        refine g_iast (j := ix (2 * (S 49 22))) (x := x1) C hG (hG.lt (Nat.le_of_ble_eq_true rfl)) (ce67 w) (inb_in hi1) rfl d_M_seen_45 (fun H locs hG => ?_)
        refine lv_aload_n hx hb d_M_seen_46 rfl (lv_at hl 0 rfl) ?_
        refine g_get C hG (hG.lt (Nat.le_of_ble_eq_true rfl)) (ce49 w _) rfl inC8 23 (Nat.le_of_ble_eq_true rfl) qw699 rfl d_M_seen_47 ?_
        refine lv_iconst (v := 2) hx hb d_M_seen_50 (by decide) ?_
        refine lv_aload_n hx hb d_M_seen_51 rfl (lv_at hl 0 rfl) ?_
        refine g_get C hG (hG.lt (Nat.le_of_ble_eq_true rfl)) (ce49 w _) rfl inC8 22 (Nat.le_of_ble_eq_true rfl) qw698 rfl d_M_seen_52 ?_
        refine lv_imul hx hb d_M_seen_55 ?_
        refine lv_iconst (v := 1) hx hb d_M_seen_56 (by decide) ?_
        refine lv_iadd hx hb d_M_seen_57 ?_
        refine lv_iload_n hx hb d_M_seen_58 rfl (lv_at hl 2 rfl) ?_
        obtain ⟨hi2, h⟩ := chk_some h
        refine g_iast (j := ix ((2 * ((up S 67 (ix (2 * (S 49 22))) x1) 49 22)) + 1)) (x := x2) C hG (hG.lt (Nat.le_of_ble_eq_true rfl)) (ce67 w) (inb_in hi2) rfl d_M_seen_59 (fun H locs hG => ?_)
        refine lv_aload_n hx hb d_M_seen_60 rfl (lv_at hl 0 rfl) ?_
        refine lv_dup hx hb d_M_seen_61 rfl ?_
        refine g_get C hG (hG.lt (Nat.le_of_ble_eq_true rfl)) (ce49 w _) rfl inC8 22 (Nat.le_of_ble_eq_true rfl) qw698 rfl d_M_seen_62 ?_
        refine lv_iconst (v := 1) hx hb d_M_seen_65 (by decide) ?_
        refine lv_iadd hx hb d_M_seen_66 ?_
        refine g_put (x := ((up (up S 67 (ix (2 * (S 49 22))) x1) 67 (ix ((2 * ((up S 67 (ix (2 * (S 49 22))) x1) 49 22)) + 1)) x2) 49 22) + 1) C hG (hG.lt (Nat.le_of_ble_eq_true rfl)) (ce49 w _) rfl inC8 okC8 nmC8 22 (Nat.le_of_ble_eq_true rfl) qw698 rfl rfl rfl (Nat.le_of_ble_eq_true rfl) rfl d_M_seen_67 (fun H locs hG => ?_)
        refine lv_aload_n hx hb d_M_seen_70 rfl (lv_at hl 0 rfl) ?_
        refine g_get C hG (hG.lt (Nat.le_of_ble_eq_true rfl)) (ce49 w _) rfl inC8 22 (Nat.le_of_ble_eq_true rfl) qw698 rfl d_M_seen_71 ?_
        exact g_iret C hG (sm_fst h) (sm_snd h) hQ d_M_seen_74
      · replace h := it_t h hc
        refine lv_bipush (v := (-4)) hx hb d_M_seen_31 (by decide) ?_
        exact g_iret C hG (sm_fst h) (sm_snd h) hQ d_M_seen_33
    · replace h := it_t h hc
      refine lv_bipush (v := (-2)) hx hb d_M_seen_19 (by decide) ?_
      exact g_iret C hG (sm_fst h) (sm_snd h) hQ d_M_seen_21
theorem d_M_forget_0 : decode b_M_forget 0 = .ok (.aload_n 0, 1) := by decide +kernel
theorem d_M_forget_1 : decode b_M_forget 1 = .ok (.getfield 252, 3) := by decide +kernel
theorem d_M_forget_4 : decode b_M_forget 4 = .ok (.istore_n 1, 1) := by decide +kernel
theorem d_M_forget_5 : decode b_M_forget 5 = .ok (.aload_n 0, 1) := by decide +kernel
theorem d_M_forget_6 : decode b_M_forget 6 = .ok (.iconst 0, 1) := by decide +kernel
theorem d_M_forget_7 : decode b_M_forget 7 = .ok (.putfield 252, 3) := by decide +kernel
theorem d_M_forget_10 : decode b_M_forget 10 = .ok (.iload_n 1, 1) := by decide +kernel
theorem d_M_forget_11 : decode b_M_forget 11 = .ok (.ireturn, 1) := by decide +kernel
noncomputable def M_forget (S : St) : Option (Int32 × St) :=
  some (S 49 22, up S 49 22 0)
set_option maxHeartbeats 4000000 in
set_option maxRecDepth 100000 in
theorem c_M_forget (l : Launch) (w : gw) (S : St)   {z : Int32 × St} (h : (M_forget S) = some z) : gMi l w y_M_forget b_M_forget 2 (some .int) (rmm 0 0) [.ref (gad w 49)] S z.1 z.2 := by
  unfold M_forget at h
  refine g_met (Qc := gQi w z.1 z.2) (by decide +kernel) (Nat.le_of_ble_eq_true rfl) ?_
  intro p e s m args below meth c A Q ls hQ C hG hl
  have hx := C.1
  have hb := C.2.1
  have hl : lv_has ls 2 [(0, .ref (gad w 49))] := hl
  refine lv_aload_n hx hb d_M_forget_0 rfl (lv_at hl 0 rfl) ?_
  refine g_get C hG (hG.lt (Nat.le_of_ble_eq_true rfl)) (ce49 w _) rfl inC8 22 (Nat.le_of_ble_eq_true rfl) qw698 rfl d_M_forget_1 ?_
  refine lv_istore_n (lv' := [(1, .int (S 49 22)), (0, .ref (gad w 49))]) hx hb d_M_forget_4 rfl hl (by decide) rfl (fun ls hl => ?_)
  refine lv_aload_n hx hb d_M_forget_5 rfl (lv_at hl 1 rfl) ?_
  refine lv_iconst (v := 0) hx hb d_M_forget_6 (by decide) ?_
  refine g_put (x := 0) C hG (hG.lt (Nat.le_of_ble_eq_true rfl)) (ce49 w _) rfl inC8 okC8 nmC8 22 (Nat.le_of_ble_eq_true rfl) qw698 rfl rfl rfl (Nat.le_of_ble_eq_true rfl) rfl d_M_forget_7 (fun H locs hG => ?_)
  refine lv_iload_n hx hb d_M_forget_10 rfl (lv_at hl 0 rfl) ?_
  exact g_iret C hG (sm_fst h) (sm_snd h) hQ d_M_forget_11
theorem d_M_findSeen_0 : decode b_M_findSeen 0 = .ok (.iconst 1, 1) := by decide +kernel
theorem d_M_findSeen_1 : decode b_M_findSeen 1 = .ok (.istore_n 1, 1) := by decide +kernel
theorem d_M_findSeen_2 : decode b_M_findSeen 2 = .ok (.iconst 0, 1) := by decide +kernel
theorem d_M_findSeen_3 : decode b_M_findSeen 3 = .ok (.istore_n 2, 1) := by decide +kernel
theorem d_M_findSeen_4 : decode b_M_findSeen 4 = .ok (.iload_n 2, 1) := by decide +kernel
theorem d_M_findSeen_5 : decode b_M_findSeen 5 = .ok (.bipush 10, 2) := by decide +kernel
theorem d_M_findSeen_7 : decode b_M_findSeen 7 = .ok (.if_icmp .ge 23, 3) := by decide +kernel
theorem d_M_findSeen_10 : decode b_M_findSeen 10 = .ok (.aload_n 0, 1) := by decide +kernel
theorem d_M_findSeen_11 : decode b_M_findSeen 11 = .ok (.getfield 65, 3) := by decide +kernel
theorem d_M_findSeen_14 : decode b_M_findSeen 14 = .ok (.iload_n 2, 1) := by decide +kernel
theorem d_M_findSeen_15 : decode b_M_findSeen 15 = .ok (.iconst (-1), 1) := by decide +kernel
theorem d_M_findSeen_16 : decode b_M_findSeen 16 = .ok (.iastore, 1) := by decide +kernel
theorem d_M_findSeen_17 : decode b_M_findSeen 17 = .ok (.aload_n 0, 1) := by decide +kernel
theorem d_M_findSeen_18 : decode b_M_findSeen 18 = .ok (.getfield 68, 3) := by decide +kernel
theorem d_M_findSeen_21 : decode b_M_findSeen 21 = .ok (.iload_n 2, 1) := by decide +kernel
theorem d_M_findSeen_22 : decode b_M_findSeen 22 = .ok (.iconst 0, 1) := by decide +kernel
theorem d_M_findSeen_23 : decode b_M_findSeen 23 = .ok (.iastore, 1) := by decide +kernel
theorem d_M_findSeen_24 : decode b_M_findSeen 24 = .ok (.iinc 2 1, 3) := by decide +kernel
theorem d_M_findSeen_27 : decode b_M_findSeen 27 = .ok (.goto (-23), 3) := by decide +kernel
theorem d_M_findSeen_30 : decode b_M_findSeen 30 = .ok (.iconst 0, 1) := by decide +kernel
theorem d_M_findSeen_31 : decode b_M_findSeen 31 = .ok (.istore_n 2, 1) := by decide +kernel
theorem d_M_findSeen_32 : decode b_M_findSeen 32 = .ok (.iload_n 2, 1) := by decide +kernel
theorem d_M_findSeen_33 : decode b_M_findSeen 33 = .ok (.aload_n 0, 1) := by decide +kernel
theorem d_M_findSeen_34 : decode b_M_findSeen 34 = .ok (.getfield 252, 3) := by decide +kernel
theorem d_M_findSeen_37 : decode b_M_findSeen 37 = .ok (.if_icmp .ge 73, 3) := by decide +kernel
theorem d_M_findSeen_40 : decode b_M_findSeen 40 = .ok (.aload_n 0, 1) := by decide +kernel
theorem d_M_findSeen_41 : decode b_M_findSeen 41 = .ok (.getfield 62, 3) := by decide +kernel
theorem d_M_findSeen_44 : decode b_M_findSeen 44 = .ok (.iconst 2, 1) := by decide +kernel
theorem d_M_findSeen_45 : decode b_M_findSeen 45 = .ok (.iload_n 2, 1) := by decide +kernel
theorem d_M_findSeen_46 : decode b_M_findSeen 46 = .ok (.imul, 1) := by decide +kernel
theorem d_M_findSeen_47 : decode b_M_findSeen 47 = .ok (.iaload, 1) := by decide +kernel
theorem d_M_findSeen_48 : decode b_M_findSeen 48 = .ok (.istore_n 3, 1) := by decide +kernel
theorem d_M_findSeen_49 : decode b_M_findSeen 49 = .ok (.iload_n 1, 1) := by decide +kernel
theorem d_M_findSeen_50 : decode b_M_findSeen 50 = .ok (.ifCond .eq 36, 3) := by decide +kernel
theorem d_M_findSeen_53 : decode b_M_findSeen 53 = .ok (.aload_n 0, 1) := by decide +kernel
theorem d_M_findSeen_54 : decode b_M_findSeen 54 = .ok (.getfield 65, 3) := by decide +kernel
theorem d_M_findSeen_57 : decode b_M_findSeen 57 = .ok (.iload_n 3, 1) := by decide +kernel
theorem d_M_findSeen_58 : decode b_M_findSeen 58 = .ok (.iaload, 1) := by decide +kernel
theorem d_M_findSeen_59 : decode b_M_findSeen 59 = .ok (.iconst (-1), 1) := by decide +kernel
theorem d_M_findSeen_60 : decode b_M_findSeen 60 = .ok (.if_icmp .eq 22, 3) := by decide +kernel
theorem d_M_findSeen_63 : decode b_M_findSeen 63 = .ok (.aload_n 0, 1) := by decide +kernel
theorem d_M_findSeen_64 : decode b_M_findSeen 64 = .ok (.getfield 65, 3) := by decide +kernel
theorem d_M_findSeen_67 : decode b_M_findSeen 67 = .ok (.iload_n 3, 1) := by decide +kernel
theorem d_M_findSeen_68 : decode b_M_findSeen 68 = .ok (.iaload, 1) := by decide +kernel
theorem d_M_findSeen_69 : decode b_M_findSeen 69 = .ok (.aload_n 0, 1) := by decide +kernel
theorem d_M_findSeen_70 : decode b_M_findSeen 70 = .ok (.getfield 62, 3) := by decide +kernel
theorem d_M_findSeen_73 : decode b_M_findSeen 73 = .ok (.iconst 2, 1) := by decide +kernel
theorem d_M_findSeen_74 : decode b_M_findSeen 74 = .ok (.iload_n 2, 1) := by decide +kernel
theorem d_M_findSeen_75 : decode b_M_findSeen 75 = .ok (.imul, 1) := by decide +kernel
theorem d_M_findSeen_76 : decode b_M_findSeen 76 = .ok (.iconst 1, 1) := by decide +kernel
theorem d_M_findSeen_77 : decode b_M_findSeen 77 = .ok (.iadd, 1) := by decide +kernel
theorem d_M_findSeen_78 : decode b_M_findSeen 78 = .ok (.iaload, 1) := by decide +kernel
theorem d_M_findSeen_79 : decode b_M_findSeen 79 = .ok (.if_icmp .ne 7, 3) := by decide +kernel
theorem d_M_findSeen_82 : decode b_M_findSeen 82 = .ok (.iconst 1, 1) := by decide +kernel
theorem d_M_findSeen_83 : decode b_M_findSeen 83 = .ok (.goto 4, 3) := by decide +kernel
theorem d_M_findSeen_86 : decode b_M_findSeen 86 = .ok (.iconst 0, 1) := by decide +kernel
theorem d_M_findSeen_87 : decode b_M_findSeen 87 = .ok (.istore_n 1, 1) := by decide +kernel
theorem d_M_findSeen_88 : decode b_M_findSeen 88 = .ok (.aload_n 0, 1) := by decide +kernel
theorem d_M_findSeen_89 : decode b_M_findSeen 89 = .ok (.getfield 65, 3) := by decide +kernel
theorem d_M_findSeen_92 : decode b_M_findSeen 92 = .ok (.iload_n 3, 1) := by decide +kernel
theorem d_M_findSeen_93 : decode b_M_findSeen 93 = .ok (.aload_n 0, 1) := by decide +kernel
theorem d_M_findSeen_94 : decode b_M_findSeen 94 = .ok (.getfield 62, 3) := by decide +kernel
theorem d_M_findSeen_97 : decode b_M_findSeen 97 = .ok (.iconst 2, 1) := by decide +kernel
theorem d_M_findSeen_98 : decode b_M_findSeen 98 = .ok (.iload_n 2, 1) := by decide +kernel
theorem d_M_findSeen_99 : decode b_M_findSeen 99 = .ok (.imul, 1) := by decide +kernel
theorem d_M_findSeen_100 : decode b_M_findSeen 100 = .ok (.iconst 1, 1) := by decide +kernel
theorem d_M_findSeen_101 : decode b_M_findSeen 101 = .ok (.iadd, 1) := by decide +kernel
theorem d_M_findSeen_102 : decode b_M_findSeen 102 = .ok (.iaload, 1) := by decide +kernel
theorem d_M_findSeen_103 : decode b_M_findSeen 103 = .ok (.iastore, 1) := by decide +kernel
theorem d_M_findSeen_104 : decode b_M_findSeen 104 = .ok (.iinc 2 1, 3) := by decide +kernel
theorem d_M_findSeen_107 : decode b_M_findSeen 107 = .ok (.goto (-75), 3) := by decide +kernel
theorem d_M_findSeen_110 : decode b_M_findSeen 110 = .ok (.iload_n 1, 1) := by decide +kernel
theorem d_M_findSeen_111 : decode b_M_findSeen 111 = .ok (.ireturn, 1) := by decide +kernel
noncomputable def M_findSeen_L4 (S : St) (x1 : Int32) (x2 : Int32) : Option ((Int32 × St) × Nat) :=
  if 10 ≤ x2 then
      some ((x2, S), 1)
    else
      chk (inb x2 10) <|
      chk (inb x2 10) <|
      some ((x2 + 1, up (up S 68 (ix x2) (-1)) 69 (ix x2) 0), 0)
noncomputable def M_findSeen_J87 (S : St) (x2 : Int32) (x3 : Int32) (t0 : Int32) : Option ((Int32 × Int32 × St) × Nat) :=
  chk (inb ((2 * x2) + 1) 16) <|
    chk (inb x3 10) <|
    some ((t0, x2 + 1, up S 68 (ix x3) (S 67 (ix ((2 * x2) + 1)))), 0)
noncomputable def M_findSeen_J86 (S : St) (x2 : Int32) (x3 : Int32) : Option ((Int32 × Int32 × St) × Nat) :=
  M_findSeen_J87 S x2 x3 0
noncomputable def M_findSeen_J82 (S : St) (x2 : Int32) (x3 : Int32) : Option ((Int32 × Int32 × St) × Nat) :=
  M_findSeen_J87 S x2 x3 1
noncomputable def M_findSeen_L32 (S : St) (x1 : Int32) (x2 : Int32) : Option ((Int32 × Int32 × St) × Nat) :=
  if (S 49 22) ≤ x2 then
      some ((x1, x2, S), 1)
    else
      chk (inb (2 * x2) 16) <|
      if x1 = 0 then
        M_findSeen_J86 S x2 (S 67 (ix (2 * x2)))
      else
        chk (inb (S 67 (ix (2 * x2))) 10) <|
        if (S 68 (ix (S 67 (ix (2 * x2))))) = (-1) then
          M_findSeen_J82 S x2 (S 67 (ix (2 * x2)))
        else
          chk (inb (S 67 (ix (2 * x2))) 10) <|
          chk (inb ((2 * x2) + 1) 16) <|
          if (S 68 (ix (S 67 (ix (2 * x2))))) = (S 67 (ix ((2 * x2) + 1))) then
            M_findSeen_J82 S x2 (S 67 (ix (2 * x2)))
          else
            M_findSeen_J86 S x2 (S 67 (ix (2 * x2)))
noncomputable def M_findSeen_J110 (S : St) (x1 : Int32) : Option (Int32 × St) :=
  chk (isz x1) <| some (x1, S)
noncomputable def M_findSeen_J30 (S : St) (x1 : Int32) : Option (Int32 × St) :=
  bnd (lp (σ := Int32 × Int32 × St) (fun q => M_findSeen_L32 q.2.2 q.1 q.2.1) FZ (x1, 0, S)) fun z1 =>
    M_findSeen_J110 z1.1.2.2 z1.1.1
noncomputable def M_findSeen (S : St) : Option (Int32 × St) :=
  bnd (lp (σ := Int32 × St) (fun q => M_findSeen_L4 q.2 1 q.1) FZ (0, S)) fun z2 =>
    M_findSeen_J30 z2.1.2 1
set_option maxHeartbeats 4000000 in
set_option maxRecDepth 100000 in
theorem L_M_findSeen_4 (C : gCx p s m args meth c y_M_findSeen.cls b_M_findSeen 4 (some .boolean)) : ∀ (x1 : Int32) (n : Nat) (x2 : Int32) (S : St) (r : (Int32 × St) × Nat), lp (σ := Int32 × St) (fun q => M_findSeen_L4 q.2 x1 q.1) n (x2, S) = some r → (∀ (y2 : Int32) (Sy : St), r = ((y2, Sy), 1) → ∀ (ls : Array Slot) (H : Heap) (locs : List Loc), GH w s A Sy H locs → lv_has ls 4 [(0, .ref (gad w 49)), (1, .int x1)] → W p l e (rmm 0 0) s m args below meth c H locs 0 0 Q (F0 m 30 ls [])) → ∀ (ls : Array Slot) (H : Heap) (locs : List Loc), GH w s A S H locs → lv_has ls 4 [(0, .ref (gad w 49)), (1, .int x1), (2, .int x2)] → W p l e (rmm 0 0) s m args below meth c H locs 0 0 Q (F0 m 4 ls []) := by
  have hx := C.1
  have hb := C.2.1
  intro x1 n
  induction n with
  | zero => intro x2 S r h; cases h
  | succ n ih =>
    intro x2 S r h k1 ls H locs hG hl
    obtain ⟨z, h, hr⟩ := lp_succ h
    have h : M_findSeen_L4 S x1 x2 = some z := h
    unfold M_findSeen_L4 at h
    refine lv_iload_n hx hb d_M_findSeen_4 rfl (lv_at hl 2 rfl) ?_
    refine lv_bipush (v := 10) hx hb d_M_findSeen_5 (by decide) ?_
    refine lv_icmp_ge (tgt := 30) hx hb d_M_findSeen_7 (by decide) (fun hc => ?_) (fun hc => ?_)
    · replace h := it_t h hc
      exact k1 _ _ (lp_exit h hr) ls _ _ hG (lv_sub hl [0, 1] rfl)
    · replace h := it_f h hc
      refine lv_aload_n hx hb d_M_findSeen_10 rfl (lv_at hl 0 rfl) ?_
      refine g_get C hG (hG.lt (Nat.le_of_ble_eq_true rfl)) (ce49 w _) rfl inC8 24 (Nat.le_of_ble_eq_true rfl) qw700 rfl d_M_findSeen_11 ?_
      refine lv_iload_n hx hb d_M_findSeen_14 rfl (lv_at hl 2 rfl) ?_
      refine lv_iconst (v := (-1)) hx hb d_M_findSeen_15 (by decide) ?_
      obtain ⟨hi1, h⟩ := chk_some h
      refine g_iast (j := ix x2) (x := (-1)) C hG (hG.lt (Nat.le_of_ble_eq_true rfl)) (ce68 w) (inb_in hi1) rfl d_M_findSeen_16 (fun H locs hG => ?_)
      refine lv_aload_n hx hb d_M_findSeen_17 rfl (lv_at hl 0 rfl) ?_
      refine g_get C hG (hG.lt (Nat.le_of_ble_eq_true rfl)) (ce49 w _) rfl inC8 25 (Nat.le_of_ble_eq_true rfl) qw701 rfl d_M_findSeen_18 ?_
      refine lv_iload_n hx hb d_M_findSeen_21 rfl (lv_at hl 2 rfl) ?_
      refine lv_iconst (v := 0) hx hb d_M_findSeen_22 (by decide) ?_
      obtain ⟨hi2, h⟩ := chk_some h
      refine g_iast (j := ix x2) (x := 0) C hG (hG.lt (Nat.le_of_ble_eq_true rfl)) (ce69 w) (inb_in hi2) rfl d_M_findSeen_23 (fun H locs hG => ?_)
      refine lv_iinc (v := x2 + 1) (lv' := [(2, .int (x2 + 1)), (0, .ref (gad w 49)), (1, .int x1)]) hx hb d_M_findSeen_24 hl (k := 2) rfl (congrArg (HAdd.hAdd x2) (by decide : Int32.ofInt 1 = 1)) (by decide) rfl (fun ls hl => ?_)
      refine lv_goto (tgt := 4) hx hb d_M_findSeen_27 (by decide) ?_
      exact ih _ _ _ (lp_back h hr) k1 ls _ _ hG (lv_sub hl [1, 2, 0] rfl)
set_option maxHeartbeats 4000000 in
set_option maxRecDepth 100000 in
theorem L_M_findSeen_32 (C : gCx p s m args meth c y_M_findSeen.cls b_M_findSeen 4 (some .boolean)) : ∀ (n : Nat) (x1 : Int32) (x2 : Int32) (S : St) (r : (Int32 × Int32 × St) × Nat), lp (σ := Int32 × Int32 × St) (fun q => M_findSeen_L32 q.2.2 q.1 q.2.1) n (x1, x2, S) = some r → (∀ (y1 : Int32) (y2 : Int32) (Sy : St), r = ((y1, y2, Sy), 1) → ∀ (ls : Array Slot) (H : Heap) (locs : List Loc), GH w s A Sy H locs → lv_has ls 4 [(1, .int y1)] → W p l e (rmm 0 0) s m args below meth c H locs 0 0 Q (F0 m 110 ls [])) → ∀ (ls : Array Slot) (H : Heap) (locs : List Loc), GH w s A S H locs → lv_has ls 4 [(0, .ref (gad w 49)), (1, .int x1), (2, .int x2)] → W p l e (rmm 0 0) s m args below meth c H locs 0 0 Q (F0 m 32 ls []) := by
  have hx := C.1
  have hb := C.2.1
  intro n
  induction n with
  | zero => intro x1 x2 S r h; cases h
  | succ n ih =>
    intro x1 x2 S r h k1 ls H locs hG hl
    obtain ⟨z, h, hr⟩ := lp_succ h
    have h : M_findSeen_L32 S x1 x2 = some z := h
    have J87 : ∀ (S : St) (x2 : Int32) (x3 : Int32) (t0 : Int32), M_findSeen_J87 S x2 x3 t0 = some z → ∀ (ls : Array Slot) (H : Heap) (locs : List Loc), GH w s A S H locs → lv_has ls 4 [(0, .ref (gad w 49)), (2, .int x2), (3, .int x3)] → W p l e (rmm 0 0) s m args below meth c H locs 0 0 Q (F0 m 87 ls [.int t0]) := by
      intro S x2 x3 t0 h ls H locs hG hl
      unfold M_findSeen_J87 at h
      refine lv_istore_n (lv' := [(1, .int t0), (0, .ref (gad w 49)), (2, .int x2), (3, .int x3)]) hx hb d_M_findSeen_87 rfl hl (by decide) rfl (fun ls hl => ?_)
      refine lv_aload_n hx hb d_M_findSeen_88 rfl (lv_at hl 1 rfl) ?_
      refine g_get C hG (hG.lt (Nat.le_of_ble_eq_true rfl)) (ce49 w _) rfl inC8 24 (Nat.le_of_ble_eq_true rfl) qw700 rfl d_M_findSeen_89 ?_
      refine lv_iload_n hx hb d_M_findSeen_92 rfl (lv_at hl 3 rfl) ?_
      refine lv_aload_n hx hb d_M_findSeen_93 rfl (lv_at hl 1 rfl) ?_
      refine g_get C hG (hG.lt (Nat.le_of_ble_eq_true rfl)) (ce49 w _) rfl inC8 23 (Nat.le_of_ble_eq_true rfl) qw699 rfl d_M_findSeen_94 ?_
      refine lv_iconst (v := 2) hx hb d_M_findSeen_97 (by decide) ?_
      refine lv_iload_n hx hb d_M_findSeen_98 rfl (lv_at hl 2 rfl) ?_
      refine lv_imul hx hb d_M_findSeen_99 ?_
      refine lv_iconst (v := 1) hx hb d_M_findSeen_100 (by decide) ?_
      refine lv_iadd hx hb d_M_findSeen_101 ?_
      obtain ⟨hi3, h⟩ := chk_some h
      refine g_iald (j := ix ((2 * x2) + 1)) C hG (hG.lt (Nat.le_of_ble_eq_true rfl)) (ce67 w _) (inb_in hi3) rfl d_M_findSeen_102 ?_
      obtain ⟨hi4, h⟩ := chk_some h
      refine g_iast (j := ix x3) (x := S 67 (ix ((2 * x2) + 1))) C hG (hG.lt (Nat.le_of_ble_eq_true rfl)) (ce68 w) (inb_in hi4) rfl d_M_findSeen_103 (fun H locs hG => ?_)
      refine lv_iinc (v := x2 + 1) (lv' := [(2, .int (x2 + 1)), (1, .int t0), (0, .ref (gad w 49)), (3, .int x3)]) hx hb d_M_findSeen_104 hl (k := 2) rfl (congrArg (HAdd.hAdd x2) (by decide : Int32.ofInt 1 = 1)) (by decide) rfl (fun ls hl => ?_)
      refine lv_goto (tgt := 32) hx hb d_M_findSeen_107 (by decide) ?_
      exact ih _ _ _ _ (lp_back h hr) k1 ls _ _ hG (lv_sub hl [2, 1, 0] rfl)
    have J86 : ∀ (S : St) (x2 : Int32) (x3 : Int32), M_findSeen_J86 S x2 x3 = some z → ∀ (ls : Array Slot) (H : Heap) (locs : List Loc), GH w s A S H locs → lv_has ls 4 [(0, .ref (gad w 49)), (2, .int x2), (3, .int x3)] → W p l e (rmm 0 0) s m args below meth c H locs 0 0 Q (F0 m 86 ls []) := by
      intro S x2 x3 h ls H locs hG hl
      unfold M_findSeen_J86 at h
      refine lv_iconst (v := 0) hx hb d_M_findSeen_86 (by decide) ?_
      exact J87 _ _ _ _ h ls _ _ hG (lv_sub hl [0, 1, 2] rfl)
    have J82 : ∀ (S : St) (x2 : Int32) (x3 : Int32), M_findSeen_J82 S x2 x3 = some z → ∀ (ls : Array Slot) (H : Heap) (locs : List Loc), GH w s A S H locs → lv_has ls 4 [(0, .ref (gad w 49)), (2, .int x2), (3, .int x3)] → W p l e (rmm 0 0) s m args below meth c H locs 0 0 Q (F0 m 82 ls []) := by
      intro S x2 x3 h ls H locs hG hl
      unfold M_findSeen_J82 at h
      refine lv_iconst (v := 1) hx hb d_M_findSeen_82 (by decide) ?_
      refine lv_goto (tgt := 87) hx hb d_M_findSeen_83 (by decide) ?_
      exact J87 _ _ _ _ h ls _ _ hG (lv_sub hl [0, 1, 2] rfl)
    unfold M_findSeen_L32 at h
    refine lv_iload_n hx hb d_M_findSeen_32 rfl (lv_at hl 2 rfl) ?_
    refine lv_aload_n hx hb d_M_findSeen_33 rfl (lv_at hl 0 rfl) ?_
    refine g_get C hG (hG.lt (Nat.le_of_ble_eq_true rfl)) (ce49 w _) rfl inC8 22 (Nat.le_of_ble_eq_true rfl) qw698 rfl d_M_findSeen_34 ?_
    refine lv_icmp_ge (tgt := 110) hx hb d_M_findSeen_37 (by decide) (fun hc => ?_) (fun hc => ?_)
    · replace h := it_t h hc
      exact k1 _ _ _ (lp_exit h hr) ls _ _ hG (lv_sub hl [1] rfl)
    · replace h := it_f h hc
      refine lv_aload_n hx hb d_M_findSeen_40 rfl (lv_at hl 0 rfl) ?_
      refine g_get C hG (hG.lt (Nat.le_of_ble_eq_true rfl)) (ce49 w _) rfl inC8 23 (Nat.le_of_ble_eq_true rfl) qw699 rfl d_M_findSeen_41 ?_
      refine lv_iconst (v := 2) hx hb d_M_findSeen_44 (by decide) ?_
      refine lv_iload_n hx hb d_M_findSeen_45 rfl (lv_at hl 2 rfl) ?_
      refine lv_imul hx hb d_M_findSeen_46 ?_
      obtain ⟨hi5, h⟩ := chk_some h
      refine g_iald (j := ix (2 * x2)) C hG (hG.lt (Nat.le_of_ble_eq_true rfl)) (ce67 w _) (inb_in hi5) rfl d_M_findSeen_47 ?_
      refine lv_istore_n (lv' := [(3, .int (S 67 (ix (2 * x2)))), (0, .ref (gad w 49)), (1, .int x1), (2, .int x2)]) hx hb d_M_findSeen_48 rfl hl (by decide) rfl (fun ls hl => ?_)
      refine lv_iload_n hx hb d_M_findSeen_49 rfl (lv_at hl 2 rfl) ?_
      refine lv_if_eq (tgt := 86) hx hb d_M_findSeen_50 (by decide) (fun hc => ?_) (fun hc => ?_)
      · replace h := it_t h hc
        exact J86 _ _ _ h ls _ _ hG (lv_sub hl [1, 3, 0] rfl)
      · replace h := it_f h hc
        refine lv_aload_n hx hb d_M_findSeen_53 rfl (lv_at hl 1 rfl) ?_
        refine g_get C hG (hG.lt (Nat.le_of_ble_eq_true rfl)) (ce49 w _) rfl inC8 24 (Nat.le_of_ble_eq_true rfl) qw700 rfl d_M_findSeen_54 ?_
        refine lv_iload_n hx hb d_M_findSeen_57 rfl (lv_at hl 0 rfl) ?_
        obtain ⟨hi6, h⟩ := chk_some h
        refine g_iald (j := ix (S 67 (ix (2 * x2)))) C hG (hG.lt (Nat.le_of_ble_eq_true rfl)) (ce68 w _) (inb_in hi6) rfl d_M_findSeen_58 ?_
        refine lv_iconst (v := (-1)) hx hb d_M_findSeen_59 (by decide) ?_
        refine lv_icmp_eq (tgt := 82) hx hb d_M_findSeen_60 (by decide) (fun hc => ?_) (fun hc => ?_)
        · replace h := it_t h hc
          exact J82 _ _ _ h ls _ _ hG (lv_sub hl [1, 3, 0] rfl)
        · replace h := it_f h hc
          refine lv_aload_n hx hb d_M_findSeen_63 rfl (lv_at hl 1 rfl) ?_
          refine g_get C hG (hG.lt (Nat.le_of_ble_eq_true rfl)) (ce49 w _) rfl inC8 24 (Nat.le_of_ble_eq_true rfl) qw700 rfl d_M_findSeen_64 ?_
          refine lv_iload_n hx hb d_M_findSeen_67 rfl (lv_at hl 0 rfl) ?_
          obtain ⟨hi7, h⟩ := chk_some h
          refine g_iald (j := ix (S 67 (ix (2 * x2)))) C hG (hG.lt (Nat.le_of_ble_eq_true rfl)) (ce68 w _) (inb_in hi7) rfl d_M_findSeen_68 ?_
          refine lv_aload_n hx hb d_M_findSeen_69 rfl (lv_at hl 1 rfl) ?_
          refine g_get C hG (hG.lt (Nat.le_of_ble_eq_true rfl)) (ce49 w _) rfl inC8 23 (Nat.le_of_ble_eq_true rfl) qw699 rfl d_M_findSeen_70 ?_
          refine lv_iconst (v := 2) hx hb d_M_findSeen_73 (by decide) ?_
          refine lv_iload_n hx hb d_M_findSeen_74 rfl (lv_at hl 3 rfl) ?_
          refine lv_imul hx hb d_M_findSeen_75 ?_
          refine lv_iconst (v := 1) hx hb d_M_findSeen_76 (by decide) ?_
          refine lv_iadd hx hb d_M_findSeen_77 ?_
          obtain ⟨hi8, h⟩ := chk_some h
          refine g_iald (j := ix ((2 * x2) + 1)) C hG (hG.lt (Nat.le_of_ble_eq_true rfl)) (ce67 w _) (inb_in hi8) rfl d_M_findSeen_78 ?_
          refine lv_icmp_ne (tgt := 86) hx hb d_M_findSeen_79 (by decide) (fun hc => ?_) (fun hc => ?_)
          · replace h := it_f h hc
            exact J86 _ _ _ h ls _ _ hG (lv_sub hl [1, 3, 0] rfl)
          · replace h := it_t h hc
            exact J82 _ _ _ h ls _ _ hG (lv_sub hl [1, 3, 0] rfl)
set_option maxHeartbeats 4000000 in
set_option maxRecDepth 100000 in
theorem c_M_findSeen (l : Launch) (w : gw) (S : St)   {z : Int32 × St} (h : (M_findSeen S) = some z) : gMi l w y_M_findSeen b_M_findSeen 4 (some .boolean) (rmm 0 0) [.ref (gad w 49)] S z.1 z.2 := by
  unfold M_findSeen at h
  refine g_met (Qc := gQi w z.1 z.2) (by decide +kernel) (Nat.le_of_ble_eq_true rfl) ?_
  intro p e s m args below meth c A Q ls hQ C hG hl
  have hx := C.1
  have hb := C.2.1
  have hl : lv_has ls 4 [(0, .ref (gad w 49))] := hl
  have J110 : ∀ (S : St) (x1 : Int32), M_findSeen_J110 S x1 = some z → ∀ (ls : Array Slot) (H : Heap) (locs : List Loc), GH w s A S H locs → lv_has ls 4 [(1, .int x1)] → W p l e (rmm 0 0) s m args below meth c H locs 0 0 Q (F0 m 110 ls []) := by
    intro S x1 h ls H locs hG hl
    unfold M_findSeen_J110 at h
    refine lv_iload_n hx hb d_M_findSeen_110 rfl (lv_at hl 0 rfl) ?_
    obtain ⟨hi9, h⟩ := chk_some h
    exact g_zret C hG (isz_in hi9) (sm_fst h) (sm_snd h) hQ d_M_findSeen_111
  have J30 : ∀ (S : St) (x1 : Int32), M_findSeen_J30 S x1 = some z → ∀ (ls : Array Slot) (H : Heap) (locs : List Loc), GH w s A S H locs → lv_has ls 4 [(0, .ref (gad w 49)), (1, .int x1)] → W p l e (rmm 0 0) s m args below meth c H locs 0 0 Q (F0 m 30 ls []) := by
    intro S x1 h ls H locs hG hl
    unfold M_findSeen_J30 at h
    refine lv_iconst (v := 0) hx hb d_M_findSeen_30 (by decide) ?_
    refine lv_istore_n (lv' := [(2, .int 0), (0, .ref (gad w 49)), (1, .int x1)]) hx hb d_M_findSeen_31 rfl hl (by decide) rfl (fun ls hl => ?_)
    obtain ⟨z1, hz1, h⟩ := bnd_some h
    refine L_M_findSeen_32 C FZ _ _ _ _ hz1 ?_ ls _ _ hG (lv_sub hl [1, 2, 0] rfl)
    intro y1 y2 Sy e9 ls H locs hG hl
    subst e9
    exact J110 _ _ h ls _ _ hG (lv_sub hl [0] rfl)
  refine lv_iconst (v := 1) hx hb d_M_findSeen_0 (by decide) ?_
  refine lv_istore_n (lv' := [(1, .int 1), (0, .ref (gad w 49))]) hx hb d_M_findSeen_1 rfl hl (by decide) rfl (fun ls hl => ?_)
  refine lv_iconst (v := 0) hx hb d_M_findSeen_2 (by decide) ?_
  refine lv_istore_n (lv' := [(2, .int 0), (1, .int 1), (0, .ref (gad w 49))]) hx hb d_M_findSeen_3 rfl hl (by decide) rfl (fun ls hl => ?_)
  obtain ⟨z2, hz2, h⟩ := bnd_some h
  refine L_M_findSeen_4 C _ FZ _ _ _ hz2 ?_ ls _ _ hG (lv_sub hl [2, 1, 0] rfl)
  intro y2 Sy e9 ls H locs hG hl
  subst e9
  exact J30 _ _ h ls _ _ hG (lv_sub hl [0, 1] rfl)
theorem d_M_findWays_0 : decode b_M_findWays 0 = .ok (.aload_n 0, 1) := by decide +kernel
theorem d_M_findWays_1 : decode b_M_findWays 1 = .ok (.invokevirtual 255, 3) := by decide +kernel
theorem d_M_findWays_4 : decode b_M_findWays 4 = .ok (.ifCond .ne 5, 3) := by decide +kernel
theorem d_M_findWays_7 : decode b_M_findWays 7 = .ok (.iconst 0, 1) := by decide +kernel
theorem d_M_findWays_8 : decode b_M_findWays 8 = .ok (.ireturn, 1) := by decide +kernel
theorem d_M_findWays_9 : decode b_M_findWays 9 = .ok (.iconst 0, 1) := by decide +kernel
theorem d_M_findWays_10 : decode b_M_findWays 10 = .ok (.istore_n 1, 1) := by decide +kernel
theorem d_M_findWays_11 : decode b_M_findWays 11 = .ok (.iload_n 1, 1) := by decide +kernel
theorem d_M_findWays_12 : decode b_M_findWays 12 = .ok (.iconst 5, 1) := by decide +kernel
theorem d_M_findWays_13 : decode b_M_findWays 13 = .ok (.if_icmp .ge 16, 3) := by decide +kernel
theorem d_M_findWays_16 : decode b_M_findWays 16 = .ok (.aload_n 0, 1) := by decide +kernel
theorem d_M_findWays_17 : decode b_M_findWays 17 = .ok (.getfield 71, 3) := by decide +kernel
theorem d_M_findWays_20 : decode b_M_findWays 20 = .ok (.iload_n 1, 1) := by decide +kernel
theorem d_M_findWays_21 : decode b_M_findWays 21 = .ok (.iconst 0, 1) := by decide +kernel
theorem d_M_findWays_22 : decode b_M_findWays 22 = .ok (.iastore, 1) := by decide +kernel
theorem d_M_findWays_23 : decode b_M_findWays 23 = .ok (.iinc 1 1, 3) := by decide +kernel
theorem d_M_findWays_26 : decode b_M_findWays 26 = .ok (.goto (-15), 3) := by decide +kernel
theorem d_M_findWays_29 : decode b_M_findWays 29 = .ok (.iconst 0, 1) := by decide +kernel
theorem d_M_findWays_30 : decode b_M_findWays 30 = .ok (.istore_n 1, 1) := by decide +kernel
theorem d_M_findWays_31 : decode b_M_findWays 31 = .ok (.iconst 0, 1) := by decide +kernel
theorem d_M_findWays_32 : decode b_M_findWays 32 = .ok (.istore_n 2, 1) := by decide +kernel
theorem d_M_findWays_33 : decode b_M_findWays 33 = .ok (.iload_n 2, 1) := by decide +kernel
theorem d_M_findWays_34 : decode b_M_findWays 34 = .ok (.bipush 10, 2) := by decide +kernel
theorem d_M_findWays_36 : decode b_M_findWays 36 = .ok (.if_icmp .ge 29, 3) := by decide +kernel
theorem d_M_findWays_39 : decode b_M_findWays 39 = .ok (.aload_n 0, 1) := by decide +kernel
theorem d_M_findWays_40 : decode b_M_findWays 40 = .ok (.getfield 65, 3) := by decide +kernel
theorem d_M_findWays_43 : decode b_M_findWays 43 = .ok (.iload_n 2, 1) := by decide +kernel
theorem d_M_findWays_44 : decode b_M_findWays 44 = .ok (.iaload, 1) := by decide +kernel
theorem d_M_findWays_45 : decode b_M_findWays 45 = .ok (.iconst (-1), 1) := by decide +kernel
theorem d_M_findWays_46 : decode b_M_findWays 46 = .ok (.if_icmp .eq 13, 3) := by decide +kernel
theorem d_M_findWays_49 : decode b_M_findWays 49 = .ok (.aload_n 0, 1) := by decide +kernel
theorem d_M_findWays_50 : decode b_M_findWays 50 = .ok (.getfield 74, 3) := by decide +kernel
theorem d_M_findWays_53 : decode b_M_findWays 53 = .ok (.iload_n 1, 1) := by decide +kernel
theorem d_M_findWays_54 : decode b_M_findWays 54 = .ok (.iload_n 2, 1) := by decide +kernel
theorem d_M_findWays_55 : decode b_M_findWays 55 = .ok (.iastore, 1) := by decide +kernel
theorem d_M_findWays_56 : decode b_M_findWays 56 = .ok (.iinc 1 1, 3) := by decide +kernel
theorem d_M_findWays_59 : decode b_M_findWays 59 = .ok (.iinc 2 1, 3) := by decide +kernel
theorem d_M_findWays_62 : decode b_M_findWays 62 = .ok (.goto (-29), 3) := by decide +kernel
theorem d_M_findWays_65 : decode b_M_findWays 65 = .ok (.iconst 0, 1) := by decide +kernel
theorem d_M_findWays_66 : decode b_M_findWays 66 = .ok (.istore_n 2, 1) := by decide +kernel
theorem d_M_findWays_67 : decode b_M_findWays 67 = .ok (.iconst 0, 1) := by decide +kernel
theorem d_M_findWays_68 : decode b_M_findWays 68 = .ok (.istore_n 3, 1) := by decide +kernel
theorem d_M_findWays_69 : decode b_M_findWays 69 = .ok (.aload_n 0, 1) := by decide +kernel
theorem d_M_findWays_70 : decode b_M_findWays 70 = .ok (.getfield 77, 3) := by decide +kernel
theorem d_M_findWays_73 : decode b_M_findWays 73 = .ok (.iconst 0, 1) := by decide +kernel
theorem d_M_findWays_74 : decode b_M_findWays 74 = .ok (.iconst (-1), 1) := by decide +kernel
theorem d_M_findWays_75 : decode b_M_findWays 75 = .ok (.iastore, 1) := by decide +kernel
theorem d_M_findWays_76 : decode b_M_findWays 76 = .ok (.iload_n 3, 1) := by decide +kernel
theorem d_M_findWays_77 : decode b_M_findWays 77 = .ok (.ifCond .lt 203, 3) := by decide +kernel
theorem d_M_findWays_80 : decode b_M_findWays 80 = .ok (.iload_n 3, 1) := by decide +kernel
theorem d_M_findWays_81 : decode b_M_findWays 81 = .ok (.iload_n 1, 1) := by decide +kernel
theorem d_M_findWays_82 : decode b_M_findWays 82 = .ok (.if_icmp .ne 51, 3) := by decide +kernel
theorem d_M_findWays_85 : decode b_M_findWays 85 = .ok (.iinc 2 1, 3) := by decide +kernel
theorem d_M_findWays_88 : decode b_M_findWays 88 = .ok (.iconst 0, 1) := by decide +kernel
theorem d_M_findWays_89 : decode b_M_findWays 89 = .ok (.istore 4, 2) := by decide +kernel
theorem d_M_findWays_91 : decode b_M_findWays 91 = .ok (.iload 4, 2) := by decide +kernel
theorem d_M_findWays_93 : decode b_M_findWays 93 = .ok (.iload_n 1, 1) := by decide +kernel
theorem d_M_findWays_94 : decode b_M_findWays 94 = .ok (.if_icmp .ge 33, 3) := by decide +kernel
theorem d_M_findWays_97 : decode b_M_findWays 97 = .ok (.aload_n 0, 1) := by decide +kernel
theorem d_M_findWays_98 : decode b_M_findWays 98 = .ok (.getfield 68, 3) := by decide +kernel
theorem d_M_findWays_101 : decode b_M_findWays 101 = .ok (.aload_n 0, 1) := by decide +kernel
theorem d_M_findWays_102 : decode b_M_findWays 102 = .ok (.getfield 74, 3) := by decide +kernel
theorem d_M_findWays_105 : decode b_M_findWays 105 = .ok (.iload 4, 2) := by decide +kernel
theorem d_M_findWays_107 : decode b_M_findWays 107 = .ok (.iaload, 1) := by decide +kernel
theorem d_M_findWays_108 : decode b_M_findWays 108 = .ok (.dup2, 1) := by decide +kernel
theorem d_M_findWays_109 : decode b_M_findWays 109 = .ok (.iaload, 1) := by decide +kernel
theorem d_M_findWays_110 : decode b_M_findWays 110 = .ok (.iconst 1, 1) := by decide +kernel
theorem d_M_findWays_111 : decode b_M_findWays 111 = .ok (.aload_n 0, 1) := by decide +kernel
theorem d_M_findWays_112 : decode b_M_findWays 112 = .ok (.getfield 77, 3) := by decide +kernel
theorem d_M_findWays_115 : decode b_M_findWays 115 = .ok (.iload 4, 2) := by decide +kernel
theorem d_M_findWays_117 : decode b_M_findWays 117 = .ok (.iaload, 1) := by decide +kernel
theorem d_M_findWays_118 : decode b_M_findWays 118 = .ok (.ishl, 1) := by decide +kernel
theorem d_M_findWays_119 : decode b_M_findWays 119 = .ok (.ior, 1) := by decide +kernel
theorem d_M_findWays_120 : decode b_M_findWays 120 = .ok (.iastore, 1) := by decide +kernel
theorem d_M_findWays_121 : decode b_M_findWays 121 = .ok (.iinc 4 1, 3) := by decide +kernel
theorem d_M_findWays_124 : decode b_M_findWays 124 = .ok (.goto (-33), 3) := by decide +kernel
theorem d_M_findWays_127 : decode b_M_findWays 127 = .ok (.iinc 3 (-1), 3) := by decide +kernel
theorem d_M_findWays_130 : decode b_M_findWays 130 = .ok (.goto (-54), 3) := by decide +kernel
theorem d_M_findWays_133 : decode b_M_findWays 133 = .ok (.aload_n 0, 1) := by decide +kernel
theorem d_M_findWays_134 : decode b_M_findWays 134 = .ok (.getfield 77, 3) := by decide +kernel
theorem d_M_findWays_137 : decode b_M_findWays 137 = .ok (.iload_n 3, 1) := by decide +kernel
theorem d_M_findWays_138 : decode b_M_findWays 138 = .ok (.iaload, 1) := by decide +kernel
theorem d_M_findWays_139 : decode b_M_findWays 139 = .ok (.iconst (-1), 1) := by decide +kernel
theorem d_M_findWays_140 : decode b_M_findWays 140 = .ok (.if_icmp .eq 18, 3) := by decide +kernel
theorem d_M_findWays_143 : decode b_M_findWays 143 = .ok (.aload_n 0, 1) := by decide +kernel
theorem d_M_findWays_144 : decode b_M_findWays 144 = .ok (.getfield 71, 3) := by decide +kernel
theorem d_M_findWays_147 : decode b_M_findWays 147 = .ok (.aload_n 0, 1) := by decide +kernel
theorem d_M_findWays_148 : decode b_M_findWays 148 = .ok (.getfield 77, 3) := by decide +kernel
theorem d_M_findWays_151 : decode b_M_findWays 151 = .ok (.iload_n 3, 1) := by decide +kernel
theorem d_M_findWays_152 : decode b_M_findWays 152 = .ok (.iaload, 1) := by decide +kernel
theorem d_M_findWays_153 : decode b_M_findWays 153 = .ok (.dup2, 1) := by decide +kernel
theorem d_M_findWays_154 : decode b_M_findWays 154 = .ok (.iaload, 1) := by decide +kernel
theorem d_M_findWays_155 : decode b_M_findWays 155 = .ok (.iconst 1, 1) := by decide +kernel
theorem d_M_findWays_156 : decode b_M_findWays 156 = .ok (.isub, 1) := by decide +kernel
theorem d_M_findWays_157 : decode b_M_findWays 157 = .ok (.iastore, 1) := by decide +kernel
theorem d_M_findWays_158 : decode b_M_findWays 158 = .ok (.aload_n 0, 1) := by decide +kernel
theorem d_M_findWays_159 : decode b_M_findWays 159 = .ok (.getfield 77, 3) := by decide +kernel
theorem d_M_findWays_162 : decode b_M_findWays 162 = .ok (.iload_n 3, 1) := by decide +kernel
theorem d_M_findWays_163 : decode b_M_findWays 163 = .ok (.dup2, 1) := by decide +kernel
theorem d_M_findWays_164 : decode b_M_findWays 164 = .ok (.iaload, 1) := by decide +kernel
theorem d_M_findWays_165 : decode b_M_findWays 165 = .ok (.iconst 1, 1) := by decide +kernel
theorem d_M_findWays_166 : decode b_M_findWays 166 = .ok (.iadd, 1) := by decide +kernel
theorem d_M_findWays_167 : decode b_M_findWays 167 = .ok (.iastore, 1) := by decide +kernel
theorem d_M_findWays_168 : decode b_M_findWays 168 = .ok (.aload_n 0, 1) := by decide +kernel
theorem d_M_findWays_169 : decode b_M_findWays 169 = .ok (.getfield 77, 3) := by decide +kernel
theorem d_M_findWays_172 : decode b_M_findWays 172 = .ok (.iload_n 3, 1) := by decide +kernel
theorem d_M_findWays_173 : decode b_M_findWays 173 = .ok (.iaload, 1) := by decide +kernel
theorem d_M_findWays_174 : decode b_M_findWays 174 = .ok (.iconst 5, 1) := by decide +kernel
theorem d_M_findWays_175 : decode b_M_findWays 175 = .ok (.if_icmp .ge 61, 3) := by decide +kernel
theorem d_M_findWays_178 : decode b_M_findWays 178 = .ok (.aload_n 0, 1) := by decide +kernel
theorem d_M_findWays_179 : decode b_M_findWays 179 = .ok (.getfield 31, 3) := by decide +kernel
theorem d_M_findWays_182 : decode b_M_findWays 182 = .ok (.aload_n 0, 1) := by decide +kernel
theorem d_M_findWays_183 : decode b_M_findWays 183 = .ok (.getfield 77, 3) := by decide +kernel
theorem d_M_findWays_186 : decode b_M_findWays 186 = .ok (.iload_n 3, 1) := by decide +kernel
theorem d_M_findWays_187 : decode b_M_findWays 187 = .ok (.iaload, 1) := by decide +kernel
theorem d_M_findWays_188 : decode b_M_findWays 188 = .ok (.iaload, 1) := by decide +kernel
theorem d_M_findWays_189 : decode b_M_findWays 189 = .ok (.aload_n 0, 1) := by decide +kernel
theorem d_M_findWays_190 : decode b_M_findWays 190 = .ok (.getfield 65, 3) := by decide +kernel
theorem d_M_findWays_193 : decode b_M_findWays 193 = .ok (.aload_n 0, 1) := by decide +kernel
theorem d_M_findWays_194 : decode b_M_findWays 194 = .ok (.getfield 74, 3) := by decide +kernel
theorem d_M_findWays_197 : decode b_M_findWays 197 = .ok (.iload_n 3, 1) := by decide +kernel
theorem d_M_findWays_198 : decode b_M_findWays 198 = .ok (.iaload, 1) := by decide +kernel
theorem d_M_findWays_199 : decode b_M_findWays 199 = .ok (.iaload, 1) := by decide +kernel
theorem d_M_findWays_200 : decode b_M_findWays 200 = .ok (.if_icmp .ne 23, 3) := by decide +kernel
theorem d_M_findWays_203 : decode b_M_findWays 203 = .ok (.aload_n 0, 1) := by decide +kernel
theorem d_M_findWays_204 : decode b_M_findWays 204 = .ok (.getfield 71, 3) := by decide +kernel
theorem d_M_findWays_207 : decode b_M_findWays 207 = .ok (.aload_n 0, 1) := by decide +kernel
theorem d_M_findWays_208 : decode b_M_findWays 208 = .ok (.getfield 77, 3) := by decide +kernel
theorem d_M_findWays_211 : decode b_M_findWays 211 = .ok (.iload_n 3, 1) := by decide +kernel
theorem d_M_findWays_212 : decode b_M_findWays 212 = .ok (.iaload, 1) := by decide +kernel
theorem d_M_findWays_213 : decode b_M_findWays 213 = .ok (.iaload, 1) := by decide +kernel
theorem d_M_findWays_214 : decode b_M_findWays 214 = .ok (.aload_n 0, 1) := by decide +kernel
theorem d_M_findWays_215 : decode b_M_findWays 215 = .ok (.getfield 46, 3) := by decide +kernel
theorem d_M_findWays_218 : decode b_M_findWays 218 = .ok (.iconst 2, 1) := by decide +kernel
theorem d_M_findWays_219 : decode b_M_findWays 219 = .ok (.iaload, 1) := by decide +kernel
theorem d_M_findWays_220 : decode b_M_findWays 220 = .ok (.if_icmp .ne 16, 3) := by decide +kernel
theorem d_M_findWays_223 : decode b_M_findWays 223 = .ok (.aload_n 0, 1) := by decide +kernel
theorem d_M_findWays_224 : decode b_M_findWays 224 = .ok (.getfield 77, 3) := by decide +kernel
theorem d_M_findWays_227 : decode b_M_findWays 227 = .ok (.iload_n 3, 1) := by decide +kernel
theorem d_M_findWays_228 : decode b_M_findWays 228 = .ok (.dup2, 1) := by decide +kernel
theorem d_M_findWays_229 : decode b_M_findWays 229 = .ok (.iaload, 1) := by decide +kernel
theorem d_M_findWays_230 : decode b_M_findWays 230 = .ok (.iconst 1, 1) := by decide +kernel
theorem d_M_findWays_231 : decode b_M_findWays 231 = .ok (.iadd, 1) := by decide +kernel
theorem d_M_findWays_232 : decode b_M_findWays 232 = .ok (.iastore, 1) := by decide +kernel
theorem d_M_findWays_233 : decode b_M_findWays 233 = .ok (.goto (-65), 3) := by decide +kernel
theorem d_M_findWays_236 : decode b_M_findWays 236 = .ok (.aload_n 0, 1) := by decide +kernel
theorem d_M_findWays_237 : decode b_M_findWays 237 = .ok (.getfield 77, 3) := by decide +kernel
theorem d_M_findWays_240 : decode b_M_findWays 240 = .ok (.iload_n 3, 1) := by decide +kernel
theorem d_M_findWays_241 : decode b_M_findWays 241 = .ok (.iaload, 1) := by decide +kernel
theorem d_M_findWays_242 : decode b_M_findWays 242 = .ok (.iconst 5, 1) := by decide +kernel
theorem d_M_findWays_243 : decode b_M_findWays 243 = .ok (.if_icmp .ge 31, 3) := by decide +kernel
theorem d_M_findWays_246 : decode b_M_findWays 246 = .ok (.aload_n 0, 1) := by decide +kernel
theorem d_M_findWays_247 : decode b_M_findWays 247 = .ok (.getfield 71, 3) := by decide +kernel
theorem d_M_findWays_250 : decode b_M_findWays 250 = .ok (.aload_n 0, 1) := by decide +kernel
theorem d_M_findWays_251 : decode b_M_findWays 251 = .ok (.getfield 77, 3) := by decide +kernel
theorem d_M_findWays_254 : decode b_M_findWays 254 = .ok (.iload_n 3, 1) := by decide +kernel
theorem d_M_findWays_255 : decode b_M_findWays 255 = .ok (.iaload, 1) := by decide +kernel
theorem d_M_findWays_256 : decode b_M_findWays 256 = .ok (.dup2, 1) := by decide +kernel
theorem d_M_findWays_257 : decode b_M_findWays 257 = .ok (.iaload, 1) := by decide +kernel
theorem d_M_findWays_258 : decode b_M_findWays 258 = .ok (.iconst 1, 1) := by decide +kernel
theorem d_M_findWays_259 : decode b_M_findWays 259 = .ok (.iadd, 1) := by decide +kernel
theorem d_M_findWays_260 : decode b_M_findWays 260 = .ok (.iastore, 1) := by decide +kernel
theorem d_M_findWays_261 : decode b_M_findWays 261 = .ok (.iinc 3 1, 3) := by decide +kernel
theorem d_M_findWays_264 : decode b_M_findWays 264 = .ok (.aload_n 0, 1) := by decide +kernel
theorem d_M_findWays_265 : decode b_M_findWays 265 = .ok (.getfield 77, 3) := by decide +kernel
theorem d_M_findWays_268 : decode b_M_findWays 268 = .ok (.iload_n 3, 1) := by decide +kernel
theorem d_M_findWays_269 : decode b_M_findWays 269 = .ok (.iconst (-1), 1) := by decide +kernel
theorem d_M_findWays_270 : decode b_M_findWays 270 = .ok (.iastore, 1) := by decide +kernel
theorem d_M_findWays_271 : decode b_M_findWays 271 = .ok (.goto (-195), 3) := by decide +kernel
theorem d_M_findWays_274 : decode b_M_findWays 274 = .ok (.iinc 3 (-1), 3) := by decide +kernel
theorem d_M_findWays_277 : decode b_M_findWays 277 = .ok (.goto (-201), 3) := by decide +kernel
theorem d_M_findWays_280 : decode b_M_findWays 280 = .ok (.iload_n 2, 1) := by decide +kernel
theorem d_M_findWays_281 : decode b_M_findWays 281 = .ok (.ireturn, 1) := by decide +kernel
noncomputable def M_findWays_L11 (S : St) (x1 : Int32) : Option ((Int32 × St) × Nat) :=
  if 5 ≤ x1 then
      some ((x1, S), 1)
    else
      chk (inb x1 5) <|
      some ((x1 + 1, up S 70 (ix x1) 0), 0)
noncomputable def M_findWays_L33 (S : St) (x1 : Int32) (x2 : Int32) : Option ((Int32 × Int32 × St) × Nat) :=
  if 10 ≤ x2 then
      some ((x1, x2, S), 1)
    else
      chk (inb x2 10) <|
      if (S 68 (ix x2)) = (-1) then
        some ((x1, x2 + 1, S), 0)
      else
        chk (inb x1 10) <|
        some ((x1 + 1, x2 + 1, up S 71 (ix x1) x2), 0)
noncomputable def M_findWays_L91 (S : St) (x1 : Int32) (x2 : Int32) (x3 : Int32) (x4 : Int32) : Option ((Int32 × St) × Nat) :=
  if x1 ≤ x4 then
      some ((x4, S), 1)
    else
      chk (inb x4 10) <|
      chk (inb (S 71 (ix x4)) 10) <|
      chk (inb x4 11) <|
      chk (inb (S 71 (ix x4)) 10) <|
      some ((x4 + 1, up S 69 (ix (S 71 (ix x4))) ((S 69 (ix (S 71 (ix x4)))) ||| ((1 : Int32) <<< ((S 72 (ix x4)) &&& 31)))), 0)
noncomputable def M_findWays_J223 (S : St) (x1 : Int32) (x2 : Int32) (x3 : Int32) : Option ((St) × Nat) :=
  chk (inb x3 11) <|
    chk (inb x3 11) <|
    some ((up S 72 (ix x3) ((S 72 (ix x3)) + 1)), 0)
noncomputable def M_findWays_L168 (S : St) (x1 : Int32) (x2 : Int32) (x3 : Int32) : Option ((St) × Nat) :=
  chk (inb x3 11) <|
    if 5 ≤ (S 72 (ix x3)) then
      some (S, 1)
    else
      chk (inb x3 11) <|
      chk (inb (S 72 (ix x3)) 5) <|
      chk (inb x3 10) <|
      chk (inb (S 71 (ix x3)) 10) <|
      if (S 57 (ix (S 72 (ix x3)))) = (S 68 (ix (S 71 (ix x3)))) then
        chk (inb x3 11) <|
        chk (inb (S 72 (ix x3)) 5) <|
        if (S 70 (ix (S 72 (ix x3)))) = (S 62 2) then
          M_findWays_J223 S x1 x2 x3
        else
          some (S, 1)
      else
        M_findWays_J223 S x1 x2 x3
noncomputable def M_findWays_J236 (S : St) (x1 : Int32) (x2 : Int32) (x3 : Int32) : Option ((Int32 × Int32 × St) × Nat) :=
  chk (inb x3 11) <|
    if 5 ≤ (S 72 (ix x3)) then
      some ((x2, x3 + (-1), S), 0)
    else
      chk (inb x3 11) <|
      chk (inb (S 72 (ix x3)) 5) <|
      chk (inb (S 72 (ix x3)) 5) <|
      chk (inb (x3 + 1) 11) <|
      some ((x2, x3 + 1, up (up S 70 (ix (S 72 (ix x3))) ((S 70 (ix (S 72 (ix x3)))) + 1)) 72 (ix (x3 + 1)) (-1)), 0)
noncomputable def M_findWays_J158 (S : St) (x1 : Int32) (x2 : Int32) (x3 : Int32) : Option ((Int32 × Int32 × St) × Nat) :=
  chk (inb x3 11) <|
    chk (inb x3 11) <|
    bnd (lp (σ := St) (fun q => M_findWays_L168 q x1 x2 x3) FZ (up S 72 (ix x3) ((S 72 (ix x3)) + 1))) fun z1 =>
    M_findWays_J236 z1.1 x1 x2 x3
noncomputable def M_findWays_J127 (S : St) (x1 : Int32) (x2 : Int32) (x3 : Int32) : Option ((Int32 × Int32 × St) × Nat) :=
  some ((x2, x3 + (-1), S), 0)
noncomputable def M_findWays_L76 (S : St) (x1 : Int32) (x2 : Int32) (x3 : Int32) : Option ((Int32 × Int32 × St) × Nat) :=
  if x3 < 0 then
      some ((x2, x3, S), 1)
    else
      if x3 = x1 then
        bnd (lp (σ := Int32 × St) (fun q => M_findWays_L91 q.2 x1 (x2 + 1) x3 q.1) FZ (0, S)) fun z2 =>
        M_findWays_J127 z2.1.2 x1 (x2 + 1) x3
      else
        chk (inb x3 11) <|
        if (S 72 (ix x3)) = (-1) then
          M_findWays_J158 S x1 x2 x3
        else
          chk (inb x3 11) <|
          chk (inb (S 72 (ix x3)) 5) <|
          chk (inb (S 72 (ix x3)) 5) <|
          M_findWays_J158 (up S 70 (ix (S 72 (ix x3))) ((S 70 (ix (S 72 (ix x3)))) - 1)) x1 x2 x3
noncomputable def M_findWays_J280 (S : St) (x2 : Int32) : Option (Int32 × St) :=
  some (x2, S)
noncomputable def M_findWays_J65 (S : St) (x1 : Int32) : Option (Int32 × St) :=
  bnd (lp (σ := Int32 × Int32 × St) (fun q => M_findWays_L76 q.2.2 x1 q.1 q.2.1) FZ (0, 0, up S 72 0 (-1))) fun z3 =>
    M_findWays_J280 z3.1.2.2 z3.1.1
noncomputable def M_findWays_J29 (S : St) : Option (Int32 × St) :=
  bnd (lp (σ := Int32 × Int32 × St) (fun q => M_findWays_L33 q.2.2 q.1 q.2.1) FZ (0, 0, S)) fun z4 =>
    M_findWays_J65 z4.1.2.2 z4.1.1
noncomputable def M_findWays (S : St) : Option (Int32 × St) :=
  bnd (M_findSeen S) fun z5 =>
    if z5.1 = 0 then
      some (0, z5.2)
    else
      bnd (lp (σ := Int32 × St) (fun q => M_findWays_L11 q.2 q.1) FZ (0, z5.2)) fun z6 =>
      M_findWays_J29 z6.1.2
set_option maxHeartbeats 4000000 in
set_option maxRecDepth 100000 in
theorem L_M_findWays_11 (C : gCx p s m args meth c y_M_findWays.cls b_M_findWays 5 (some .int)) : ∀ (n : Nat) (x1 : Int32) (S : St) (r : (Int32 × St) × Nat), lp (σ := Int32 × St) (fun q => M_findWays_L11 q.2 q.1) n (x1, S) = some r → (∀ (y1 : Int32) (Sy : St), r = ((y1, Sy), 1) → ∀ (ls : Array Slot) (H : Heap) (locs : List Loc), GH w s A Sy H locs → lv_has ls 5 [(0, .ref (gad w 49))] → W p l e (rmm 1 23) s m args below meth c H locs 0 0 Q (F0 m 29 ls [])) → ∀ (ls : Array Slot) (H : Heap) (locs : List Loc), GH w s A S H locs → lv_has ls 5 [(0, .ref (gad w 49)), (1, .int x1)] → W p l e (rmm 1 23) s m args below meth c H locs 0 0 Q (F0 m 11 ls []) := by
  have hx := C.1
  have hb := C.2.1
  intro n
  induction n with
  | zero => intro x1 S r h; cases h
  | succ n ih =>
    intro x1 S r h k1 ls H locs hG hl
    obtain ⟨z, h, hr⟩ := lp_succ h
    have h : M_findWays_L11 S x1 = some z := h
    unfold M_findWays_L11 at h
    refine lv_iload_n hx hb d_M_findWays_11 rfl (lv_at hl 1 rfl) ?_
    refine lv_iconst (v := 5) hx hb d_M_findWays_12 (by decide) ?_
    refine lv_icmp_ge (tgt := 29) hx hb d_M_findWays_13 (by decide) (fun hc => ?_) (fun hc => ?_)
    · replace h := it_t h hc
      exact k1 _ _ (lp_exit h hr) ls _ _ hG (lv_sub hl [0] rfl)
    · replace h := it_f h hc
      refine lv_aload_n hx hb d_M_findWays_16 rfl (lv_at hl 0 rfl) ?_
      refine g_get C hG (hG.lt (Nat.le_of_ble_eq_true rfl)) (ce49 w _) rfl inC8 26 (Nat.le_of_ble_eq_true rfl) qw702 rfl d_M_findWays_17 ?_
      refine lv_iload_n hx hb d_M_findWays_20 rfl (lv_at hl 1 rfl) ?_
      refine lv_iconst (v := 0) hx hb d_M_findWays_21 (by decide) ?_
      obtain ⟨hi1, h⟩ := chk_some h
      refine g_iast (j := ix x1) (x := 0) C hG (hG.lt (Nat.le_of_ble_eq_true rfl)) (ce70 w) (inb_in hi1) rfl d_M_findWays_22 (fun H locs hG => ?_)
      refine lv_iinc (v := x1 + 1) (lv' := [(1, .int (x1 + 1)), (0, .ref (gad w 49))]) hx hb d_M_findWays_23 hl (k := 1) rfl (congrArg (HAdd.hAdd x1) (by decide : Int32.ofInt 1 = 1)) (by decide) rfl (fun ls hl => ?_)
      refine lv_goto (tgt := 11) hx hb d_M_findWays_26 (by decide) ?_
      exact ih _ _ _ (lp_back h hr) k1 ls _ _ hG (lv_sub hl [1, 0] rfl)
set_option maxHeartbeats 4000000 in
set_option maxRecDepth 100000 in
theorem L_M_findWays_33 (C : gCx p s m args meth c y_M_findWays.cls b_M_findWays 5 (some .int)) : ∀ (n : Nat) (x1 : Int32) (x2 : Int32) (S : St) (r : (Int32 × Int32 × St) × Nat), lp (σ := Int32 × Int32 × St) (fun q => M_findWays_L33 q.2.2 q.1 q.2.1) n (x1, x2, S) = some r → (∀ (y1 : Int32) (y2 : Int32) (Sy : St), r = ((y1, y2, Sy), 1) → ∀ (ls : Array Slot) (H : Heap) (locs : List Loc), GH w s A Sy H locs → lv_has ls 5 [(0, .ref (gad w 49)), (1, .int y1)] → W p l e (rmm 1 23) s m args below meth c H locs 0 0 Q (F0 m 65 ls [])) → ∀ (ls : Array Slot) (H : Heap) (locs : List Loc), GH w s A S H locs → lv_has ls 5 [(0, .ref (gad w 49)), (1, .int x1), (2, .int x2)] → W p l e (rmm 1 23) s m args below meth c H locs 0 0 Q (F0 m 33 ls []) := by
  have hx := C.1
  have hb := C.2.1
  intro n
  induction n with
  | zero => intro x1 x2 S r h; cases h
  | succ n ih =>
    intro x1 x2 S r h k1 ls H locs hG hl
    obtain ⟨z, h, hr⟩ := lp_succ h
    have h : M_findWays_L33 S x1 x2 = some z := h
    unfold M_findWays_L33 at h
    refine lv_iload_n hx hb d_M_findWays_33 rfl (lv_at hl 2 rfl) ?_
    refine lv_bipush (v := 10) hx hb d_M_findWays_34 (by decide) ?_
    refine lv_icmp_ge (tgt := 65) hx hb d_M_findWays_36 (by decide) (fun hc => ?_) (fun hc => ?_)
    · replace h := it_t h hc
      exact k1 _ _ _ (lp_exit h hr) ls _ _ hG (lv_sub hl [0, 1] rfl)
    · replace h := it_f h hc
      refine lv_aload_n hx hb d_M_findWays_39 rfl (lv_at hl 0 rfl) ?_
      refine g_get C hG (hG.lt (Nat.le_of_ble_eq_true rfl)) (ce49 w _) rfl inC8 24 (Nat.le_of_ble_eq_true rfl) qw700 rfl d_M_findWays_40 ?_
      refine lv_iload_n hx hb d_M_findWays_43 rfl (lv_at hl 2 rfl) ?_
      obtain ⟨hi2, h⟩ := chk_some h
      refine g_iald (j := ix x2) C hG (hG.lt (Nat.le_of_ble_eq_true rfl)) (ce68 w _) (inb_in hi2) rfl d_M_findWays_44 ?_
      refine lv_iconst (v := (-1)) hx hb d_M_findWays_45 (by decide) ?_
      refine lv_icmp_eq (tgt := 59) hx hb d_M_findWays_46 (by decide) (fun hc => ?_) (fun hc => ?_)
      · replace h := it_t h hc
        refine lv_iinc (v := x2 + 1) (lv' := [(2, .int (x2 + 1)), (0, .ref (gad w 49)), (1, .int x1)]) hx hb d_M_findWays_59 hl (k := 2) rfl (congrArg (HAdd.hAdd x2) (by decide : Int32.ofInt 1 = 1)) (by decide) rfl (fun ls hl => ?_)
        refine lv_goto (tgt := 33) hx hb d_M_findWays_62 (by decide) ?_
        exact ih _ _ _ _ (lp_back h hr) k1 ls _ _ hG (lv_sub hl [1, 2, 0] rfl)
      · replace h := it_f h hc
        refine lv_aload_n hx hb d_M_findWays_49 rfl (lv_at hl 0 rfl) ?_
        refine g_get C hG (hG.lt (Nat.le_of_ble_eq_true rfl)) (ce49 w _) rfl inC8 27 (Nat.le_of_ble_eq_true rfl) qw703 rfl d_M_findWays_50 ?_
        refine lv_iload_n hx hb d_M_findWays_53 rfl (lv_at hl 1 rfl) ?_
        refine lv_iload_n hx hb d_M_findWays_54 rfl (lv_at hl 2 rfl) ?_
        obtain ⟨hi3, h⟩ := chk_some h
        refine g_iast (j := ix x1) (x := x2) C hG (hG.lt (Nat.le_of_ble_eq_true rfl)) (ce71 w) (inb_in hi3) rfl d_M_findWays_55 (fun H locs hG => ?_)
        refine lv_iinc (v := x1 + 1) (lv' := [(1, .int (x1 + 1)), (0, .ref (gad w 49)), (2, .int x2)]) hx hb d_M_findWays_56 hl (k := 1) rfl (congrArg (HAdd.hAdd x1) (by decide : Int32.ofInt 1 = 1)) (by decide) rfl (fun ls hl => ?_)
        refine lv_iinc (v := x2 + 1) (lv' := [(2, .int (x2 + 1)), (1, .int (x1 + 1)), (0, .ref (gad w 49))]) hx hb d_M_findWays_59 hl (k := 2) rfl (congrArg (HAdd.hAdd x2) (by decide : Int32.ofInt 1 = 1)) (by decide) rfl (fun ls hl => ?_)
        refine lv_goto (tgt := 33) hx hb d_M_findWays_62 (by decide) ?_
        exact ih _ _ _ _ (lp_back h hr) k1 ls _ _ hG (lv_sub hl [2, 1, 0] rfl)
set_option maxHeartbeats 4000000 in
set_option maxRecDepth 100000 in
theorem L_M_findWays_91 (C : gCx p s m args meth c y_M_findWays.cls b_M_findWays 5 (some .int)) : ∀ (x1 : Int32) (x2 : Int32) (x3 : Int32) (n : Nat) (x4 : Int32) (S : St) (r : (Int32 × St) × Nat), lp (σ := Int32 × St) (fun q => M_findWays_L91 q.2 x1 x2 x3 q.1) n (x4, S) = some r → (∀ (y4 : Int32) (Sy : St), r = ((y4, Sy), 1) → ∀ (ls : Array Slot) (H : Heap) (locs : List Loc), GH w s A Sy H locs → lv_has ls 5 [(0, .ref (gad w 49)), (1, .int x1), (2, .int x2), (3, .int x3)] → W p l e (rmm 1 23) s m args below meth c H locs 0 0 Q (F0 m 127 ls [])) → ∀ (ls : Array Slot) (H : Heap) (locs : List Loc), GH w s A S H locs → lv_has ls 5 [(0, .ref (gad w 49)), (1, .int x1), (2, .int x2), (3, .int x3), (4, .int x4)] → W p l e (rmm 1 23) s m args below meth c H locs 0 0 Q (F0 m 91 ls []) := by
  have hx := C.1
  have hb := C.2.1
  intro x1 x2 x3 n
  induction n with
  | zero => intro x4 S r h; cases h
  | succ n ih =>
    intro x4 S r h k1 ls H locs hG hl
    obtain ⟨z, h, hr⟩ := lp_succ h
    have h : M_findWays_L91 S x1 x2 x3 x4 = some z := h
    unfold M_findWays_L91 at h
    refine lv_iload hx hb d_M_findWays_91 (lv_at hl 4 rfl) ?_
    refine lv_iload_n hx hb d_M_findWays_93 rfl (lv_at hl 1 rfl) ?_
    refine lv_icmp_ge (tgt := 127) hx hb d_M_findWays_94 (by decide) (fun hc => ?_) (fun hc => ?_)
    · replace h := it_t h hc
      exact k1 _ _ (lp_exit h hr) ls _ _ hG (lv_sub hl [0, 1, 2, 3] rfl)
    · replace h := it_f h hc
      refine lv_aload_n hx hb d_M_findWays_97 rfl (lv_at hl 0 rfl) ?_
      refine g_get C hG (hG.lt (Nat.le_of_ble_eq_true rfl)) (ce49 w _) rfl inC8 25 (Nat.le_of_ble_eq_true rfl) qw701 rfl d_M_findWays_98 ?_
      refine lv_aload_n hx hb d_M_findWays_101 rfl (lv_at hl 0 rfl) ?_
      refine g_get C hG (hG.lt (Nat.le_of_ble_eq_true rfl)) (ce49 w _) rfl inC8 27 (Nat.le_of_ble_eq_true rfl) qw703 rfl d_M_findWays_102 ?_
      refine lv_iload hx hb d_M_findWays_105 (lv_at hl 4 rfl) ?_
      obtain ⟨hi4, h⟩ := chk_some h
      refine g_iald (j := ix x4) C hG (hG.lt (Nat.le_of_ble_eq_true rfl)) (ce71 w _) (inb_in hi4) rfl d_M_findWays_107 ?_
      refine lv_dup2_11 hx hb d_M_findWays_108 rfl rfl ?_
      obtain ⟨hi5, h⟩ := chk_some h
      refine g_iald (j := ix (S 71 (ix x4))) C hG (hG.lt (Nat.le_of_ble_eq_true rfl)) (ce69 w _) (inb_in hi5) rfl d_M_findWays_109 ?_
      refine lv_iconst (v := 1) hx hb d_M_findWays_110 (by decide) ?_
      refine lv_aload_n hx hb d_M_findWays_111 rfl (lv_at hl 0 rfl) ?_
      refine g_get C hG (hG.lt (Nat.le_of_ble_eq_true rfl)) (ce49 w _) rfl inC8 28 (Nat.le_of_ble_eq_true rfl) qw704 rfl d_M_findWays_112 ?_
      refine lv_iload hx hb d_M_findWays_115 (lv_at hl 4 rfl) ?_
      obtain ⟨hi6, h⟩ := chk_some h
      refine g_iald (j := ix x4) C hG (hG.lt (Nat.le_of_ble_eq_true rfl)) (ce72 w _) (inb_in hi6) rfl d_M_findWays_117 ?_
      refine lv_ishl hx hb d_M_findWays_118 ?_
      refine lv_ior hx hb d_M_findWays_119 ?_
      obtain ⟨hi7, h⟩ := chk_some h
      refine g_iast (j := ix (S 71 (ix x4))) (x := (S 69 (ix (S 71 (ix x4)))) ||| ((1 : Int32) <<< ((S 72 (ix x4)) &&& 31))) C hG (hG.lt (Nat.le_of_ble_eq_true rfl)) (ce69 w) (inb_in hi7) rfl d_M_findWays_120 (fun H locs hG => ?_)
      refine lv_iinc (v := x4 + 1) (lv' := [(4, .int (x4 + 1)), (0, .ref (gad w 49)), (1, .int x1), (2, .int x2), (3, .int x3)]) hx hb d_M_findWays_121 hl (k := 4) rfl (congrArg (HAdd.hAdd x4) (by decide : Int32.ofInt 1 = 1)) (by decide) rfl (fun ls hl => ?_)
      refine lv_goto (tgt := 91) hx hb d_M_findWays_124 (by decide) ?_
      exact ih _ _ _ (lp_back h hr) k1 ls _ _ hG (lv_sub hl [1, 2, 3, 4, 0] rfl)
set_option maxHeartbeats 4000000 in
set_option maxRecDepth 100000 in
theorem L_M_findWays_168 (C : gCx p s m args meth c y_M_findWays.cls b_M_findWays 5 (some .int)) : ∀ (x1 : Int32) (x2 : Int32) (x3 : Int32) (n : Nat) (S : St) (r : (St) × Nat), lp (σ := St) (fun q => M_findWays_L168 q x1 x2 x3) n S = some r → (∀ (Sy : St), r = (Sy, 1) → ∀ (ls : Array Slot) (H : Heap) (locs : List Loc), GH w s A Sy H locs → lv_has ls 5 [(0, .ref (gad w 49)), (1, .int x1), (2, .int x2), (3, .int x3)] → W p l e (rmm 1 23) s m args below meth c H locs 0 0 Q (F0 m 236 ls [])) → ∀ (ls : Array Slot) (H : Heap) (locs : List Loc), GH w s A S H locs → lv_has ls 5 [(0, .ref (gad w 49)), (1, .int x1), (2, .int x2), (3, .int x3)] → W p l e (rmm 1 23) s m args below meth c H locs 0 0 Q (F0 m 168 ls []) := by
  have hx := C.1
  have hb := C.2.1
  intro x1 x2 x3 n
  induction n with
  | zero => intro S r h; cases h
  | succ n ih =>
    intro S r h k1 ls H locs hG hl
    obtain ⟨z, h, hr⟩ := lp_succ h
    have h : M_findWays_L168 S x1 x2 x3 = some z := h
    have J223 : ∀ (S : St), M_findWays_J223 S x1 x2 x3 = some z → ∀ (ls : Array Slot) (H : Heap) (locs : List Loc), GH w s A S H locs → lv_has ls 5 [(0, .ref (gad w 49)), (1, .int x1), (2, .int x2), (3, .int x3)] → W p l e (rmm 1 23) s m args below meth c H locs 0 0 Q (F0 m 223 ls []) := by
      intro S h ls H locs hG hl
      unfold M_findWays_J223 at h
      refine lv_aload_n hx hb d_M_findWays_223 rfl (lv_at hl 0 rfl) ?_
      refine g_get C hG (hG.lt (Nat.le_of_ble_eq_true rfl)) (ce49 w _) rfl inC8 28 (Nat.le_of_ble_eq_true rfl) qw704 rfl d_M_findWays_224 ?_
      refine lv_iload_n hx hb d_M_findWays_227 rfl (lv_at hl 3 rfl) ?_
      refine lv_dup2_11 hx hb d_M_findWays_228 rfl rfl ?_
      obtain ⟨hi8, h⟩ := chk_some h
      refine g_iald (j := ix x3) C hG (hG.lt (Nat.le_of_ble_eq_true rfl)) (ce72 w _) (inb_in hi8) rfl d_M_findWays_229 ?_
      refine lv_iconst (v := 1) hx hb d_M_findWays_230 (by decide) ?_
      refine lv_iadd hx hb d_M_findWays_231 ?_
      obtain ⟨hi9, h⟩ := chk_some h
      refine g_iast (j := ix x3) (x := (S 72 (ix x3)) + 1) C hG (hG.lt (Nat.le_of_ble_eq_true rfl)) (ce72 w) (inb_in hi9) rfl d_M_findWays_232 (fun H locs hG => ?_)
      refine lv_goto (tgt := 168) hx hb d_M_findWays_233 (by decide) ?_
      exact ih _ _ (lp_back h hr) k1 ls _ _ hG (lv_sub hl [0, 1, 2, 3] rfl)
    unfold M_findWays_L168 at h
    refine lv_aload_n hx hb d_M_findWays_168 rfl (lv_at hl 0 rfl) ?_
    refine g_get C hG (hG.lt (Nat.le_of_ble_eq_true rfl)) (ce49 w _) rfl inC8 28 (Nat.le_of_ble_eq_true rfl) qw704 rfl d_M_findWays_169 ?_
    refine lv_iload_n hx hb d_M_findWays_172 rfl (lv_at hl 3 rfl) ?_
    obtain ⟨hi10, h⟩ := chk_some h
    refine g_iald (j := ix x3) C hG (hG.lt (Nat.le_of_ble_eq_true rfl)) (ce72 w _) (inb_in hi10) rfl d_M_findWays_173 ?_
    refine lv_iconst (v := 5) hx hb d_M_findWays_174 (by decide) ?_
    refine lv_icmp_ge (tgt := 236) hx hb d_M_findWays_175 (by decide) (fun hc => ?_) (fun hc => ?_)
    · replace h := it_t h hc
      exact k1 _ (lp_exit h hr) ls _ _ hG (lv_sub hl [0, 1, 2, 3] rfl)
    · replace h := it_f h hc
      refine lv_aload_n hx hb d_M_findWays_178 rfl (lv_at hl 0 rfl) ?_
      refine g_get C hG (hG.lt (Nat.le_of_ble_eq_true rfl)) (ce49 w _) rfl inC8 11 (Nat.le_of_ble_eq_true rfl) qw687 rfl d_M_findWays_179 ?_
      refine lv_aload_n hx hb d_M_findWays_182 rfl (lv_at hl 0 rfl) ?_
      refine g_get C hG (hG.lt (Nat.le_of_ble_eq_true rfl)) (ce49 w _) rfl inC8 28 (Nat.le_of_ble_eq_true rfl) qw704 rfl d_M_findWays_183 ?_
      refine lv_iload_n hx hb d_M_findWays_186 rfl (lv_at hl 3 rfl) ?_
      obtain ⟨hi11, h⟩ := chk_some h
      refine g_iald (j := ix x3) C hG (hG.lt (Nat.le_of_ble_eq_true rfl)) (ce72 w _) (inb_in hi11) rfl d_M_findWays_187 ?_
      obtain ⟨hi12, h⟩ := chk_some h
      refine g_iald (j := ix (S 72 (ix x3))) C hG (hG.lt (Nat.le_of_ble_eq_true rfl)) (ce57 w _) (inb_in hi12) rfl d_M_findWays_188 ?_
      refine lv_aload_n hx hb d_M_findWays_189 rfl (lv_at hl 0 rfl) ?_
      refine g_get C hG (hG.lt (Nat.le_of_ble_eq_true rfl)) (ce49 w _) rfl inC8 24 (Nat.le_of_ble_eq_true rfl) qw700 rfl d_M_findWays_190 ?_
      refine lv_aload_n hx hb d_M_findWays_193 rfl (lv_at hl 0 rfl) ?_
      refine g_get C hG (hG.lt (Nat.le_of_ble_eq_true rfl)) (ce49 w _) rfl inC8 27 (Nat.le_of_ble_eq_true rfl) qw703 rfl d_M_findWays_194 ?_
      refine lv_iload_n hx hb d_M_findWays_197 rfl (lv_at hl 3 rfl) ?_
      obtain ⟨hi13, h⟩ := chk_some h
      refine g_iald (j := ix x3) C hG (hG.lt (Nat.le_of_ble_eq_true rfl)) (ce71 w _) (inb_in hi13) rfl d_M_findWays_198 ?_
      obtain ⟨hi14, h⟩ := chk_some h
      refine g_iald (j := ix (S 71 (ix x3))) C hG (hG.lt (Nat.le_of_ble_eq_true rfl)) (ce68 w _) (inb_in hi14) rfl d_M_findWays_199 ?_
      refine lv_icmp_ne (tgt := 223) hx hb d_M_findWays_200 (by decide) (fun hc => ?_) (fun hc => ?_)
      · replace h := it_f h hc
        exact J223 _ h ls _ _ hG (lv_sub hl [0, 1, 2, 3] rfl)
      · replace h := it_t h hc
        refine lv_aload_n hx hb d_M_findWays_203 rfl (lv_at hl 0 rfl) ?_
        refine g_get C hG (hG.lt (Nat.le_of_ble_eq_true rfl)) (ce49 w _) rfl inC8 26 (Nat.le_of_ble_eq_true rfl) qw702 rfl d_M_findWays_204 ?_
        refine lv_aload_n hx hb d_M_findWays_207 rfl (lv_at hl 0 rfl) ?_
        refine g_get C hG (hG.lt (Nat.le_of_ble_eq_true rfl)) (ce49 w _) rfl inC8 28 (Nat.le_of_ble_eq_true rfl) qw704 rfl d_M_findWays_208 ?_
        refine lv_iload_n hx hb d_M_findWays_211 rfl (lv_at hl 3 rfl) ?_
        obtain ⟨hi15, h⟩ := chk_some h
        refine g_iald (j := ix x3) C hG (hG.lt (Nat.le_of_ble_eq_true rfl)) (ce72 w _) (inb_in hi15) rfl d_M_findWays_212 ?_
        obtain ⟨hi16, h⟩ := chk_some h
        refine g_iald (j := ix (S 72 (ix x3))) C hG (hG.lt (Nat.le_of_ble_eq_true rfl)) (ce70 w _) (inb_in hi16) rfl d_M_findWays_213 ?_
        refine lv_aload_n hx hb d_M_findWays_214 rfl (lv_at hl 0 rfl) ?_
        refine g_get C hG (hG.lt (Nat.le_of_ble_eq_true rfl)) (ce49 w _) rfl inC8 16 (Nat.le_of_ble_eq_true rfl) qw692 rfl d_M_findWays_215 ?_
        refine lv_iconst (v := 2) hx hb d_M_findWays_218 (by decide) ?_
        refine g_iald (j := 2) C hG (hG.lt (Nat.le_of_ble_eq_true rfl)) (ce62 w _) (inb_in (by decide)) rfl d_M_findWays_219 ?_
        refine lv_icmp_ne (tgt := 236) hx hb d_M_findWays_220 (by decide) (fun hc => ?_) (fun hc => ?_)
        · replace h := it_f h hc
          exact k1 _ (lp_exit h hr) ls _ _ hG (lv_sub hl [0, 1, 2, 3] rfl)
        · replace h := it_t h hc
          exact J223 _ h ls _ _ hG (lv_sub hl [0, 1, 2, 3] rfl)
set_option maxHeartbeats 4000000 in
set_option maxRecDepth 100000 in
theorem L_M_findWays_76 (C : gCx p s m args meth c y_M_findWays.cls b_M_findWays 5 (some .int)) : ∀ (x1 : Int32) (n : Nat) (x2 : Int32) (x3 : Int32) (S : St) (r : (Int32 × Int32 × St) × Nat), lp (σ := Int32 × Int32 × St) (fun q => M_findWays_L76 q.2.2 x1 q.1 q.2.1) n (x2, x3, S) = some r → (∀ (y2 : Int32) (y3 : Int32) (Sy : St), r = ((y2, y3, Sy), 1) → ∀ (ls : Array Slot) (H : Heap) (locs : List Loc), GH w s A Sy H locs → lv_has ls 5 [(2, .int y2)] → W p l e (rmm 1 23) s m args below meth c H locs 0 0 Q (F0 m 280 ls [])) → ∀ (ls : Array Slot) (H : Heap) (locs : List Loc), GH w s A S H locs → lv_has ls 5 [(0, .ref (gad w 49)), (1, .int x1), (2, .int x2), (3, .int x3)] → W p l e (rmm 1 23) s m args below meth c H locs 0 0 Q (F0 m 76 ls []) := by
  have hx := C.1
  have hb := C.2.1
  intro x1 n
  induction n with
  | zero => intro x2 x3 S r h; cases h
  | succ n ih =>
    intro x2 x3 S r h k1 ls H locs hG hl
    obtain ⟨z, h, hr⟩ := lp_succ h
    have h : M_findWays_L76 S x1 x2 x3 = some z := h
    have J236 : ∀ (S : St) (x2 : Int32) (x3 : Int32), M_findWays_J236 S x1 x2 x3 = some z → ∀ (ls : Array Slot) (H : Heap) (locs : List Loc), GH w s A S H locs → lv_has ls 5 [(0, .ref (gad w 49)), (1, .int x1), (2, .int x2), (3, .int x3)] → W p l e (rmm 1 23) s m args below meth c H locs 0 0 Q (F0 m 236 ls []) := by
      intro S x2 x3 h ls H locs hG hl
      unfold M_findWays_J236 at h
      refine lv_aload_n hx hb d_M_findWays_236 rfl (lv_at hl 0 rfl) ?_
      refine g_get C hG (hG.lt (Nat.le_of_ble_eq_true rfl)) (ce49 w _) rfl inC8 28 (Nat.le_of_ble_eq_true rfl) qw704 rfl d_M_findWays_237 ?_
      refine lv_iload_n hx hb d_M_findWays_240 rfl (lv_at hl 3 rfl) ?_
      obtain ⟨hi17, h⟩ := chk_some h
      refine g_iald (j := ix x3) C hG (hG.lt (Nat.le_of_ble_eq_true rfl)) (ce72 w _) (inb_in hi17) rfl d_M_findWays_241 ?_
      refine lv_iconst (v := 5) hx hb d_M_findWays_242 (by decide) ?_
      refine lv_icmp_ge (tgt := 274) hx hb d_M_findWays_243 (by decide) (fun hc => ?_) (fun hc => ?_)
      · replace h := it_t h hc
        refine lv_iinc (v := x3 + (-1)) (lv' := [(3, .int (x3 + (-1))), (0, .ref (gad w 49)), (1, .int x1), (2, .int x2)]) hx hb d_M_findWays_274 hl (k := 3) rfl (congrArg (HAdd.hAdd x3) (by decide : Int32.ofInt (-1) = (-1))) (by decide) rfl (fun ls hl => ?_)
        refine lv_goto (tgt := 76) hx hb d_M_findWays_277 (by decide) ?_
        exact ih _ _ _ _ (lp_back h hr) k1 ls _ _ hG (lv_sub hl [1, 2, 3, 0] rfl)
      · replace h := it_f h hc
        refine lv_aload_n hx hb d_M_findWays_246 rfl (lv_at hl 0 rfl) ?_
        refine g_get C hG (hG.lt (Nat.le_of_ble_eq_true rfl)) (ce49 w _) rfl inC8 26 (Nat.le_of_ble_eq_true rfl) qw702 rfl d_M_findWays_247 ?_
        refine lv_aload_n hx hb d_M_findWays_250 rfl (lv_at hl 0 rfl) ?_
        refine g_get C hG (hG.lt (Nat.le_of_ble_eq_true rfl)) (ce49 w _) rfl inC8 28 (Nat.le_of_ble_eq_true rfl) qw704 rfl d_M_findWays_251 ?_
        refine lv_iload_n hx hb d_M_findWays_254 rfl (lv_at hl 3 rfl) ?_
        obtain ⟨hi18, h⟩ := chk_some h
        refine g_iald (j := ix x3) C hG (hG.lt (Nat.le_of_ble_eq_true rfl)) (ce72 w _) (inb_in hi18) rfl d_M_findWays_255 ?_
        refine lv_dup2_11 hx hb d_M_findWays_256 rfl rfl ?_
        obtain ⟨hi19, h⟩ := chk_some h
        refine g_iald (j := ix (S 72 (ix x3))) C hG (hG.lt (Nat.le_of_ble_eq_true rfl)) (ce70 w _) (inb_in hi19) rfl d_M_findWays_257 ?_
        refine lv_iconst (v := 1) hx hb d_M_findWays_258 (by decide) ?_
        refine lv_iadd hx hb d_M_findWays_259 ?_
        obtain ⟨hi20, h⟩ := chk_some h
        refine g_iast (j := ix (S 72 (ix x3))) (x := (S 70 (ix (S 72 (ix x3)))) + 1) C hG (hG.lt (Nat.le_of_ble_eq_true rfl)) (ce70 w) (inb_in hi20) rfl d_M_findWays_260 (fun H locs hG => ?_)
        refine lv_iinc (v := x3 + 1) (lv' := [(3, .int (x3 + 1)), (0, .ref (gad w 49)), (1, .int x1), (2, .int x2)]) hx hb d_M_findWays_261 hl (k := 3) rfl (congrArg (HAdd.hAdd x3) (by decide : Int32.ofInt 1 = 1)) (by decide) rfl (fun ls hl => ?_)
        refine lv_aload_n hx hb d_M_findWays_264 rfl (lv_at hl 1 rfl) ?_
        refine g_get C hG (hG.lt (Nat.le_of_ble_eq_true rfl)) (ce49 w _) rfl inC8 28 (Nat.le_of_ble_eq_true rfl) qw704 rfl d_M_findWays_265 ?_
        refine lv_iload_n hx hb d_M_findWays_268 rfl (lv_at hl 0 rfl) ?_
        refine lv_iconst (v := (-1)) hx hb d_M_findWays_269 (by decide) ?_
        obtain ⟨hi21, h⟩ := chk_some h
        refine g_iast (j := ix (x3 + 1)) (x := (-1)) C hG (hG.lt (Nat.le_of_ble_eq_true rfl)) (ce72 w) (inb_in hi21) rfl d_M_findWays_270 (fun H locs hG => ?_)
        refine lv_goto (tgt := 76) hx hb d_M_findWays_271 (by decide) ?_
        exact ih _ _ _ _ (lp_back h hr) k1 ls _ _ hG (lv_sub hl [1, 2, 3, 0] rfl)
    have J158 : ∀ (S : St) (x2 : Int32) (x3 : Int32), M_findWays_J158 S x1 x2 x3 = some z → ∀ (ls : Array Slot) (H : Heap) (locs : List Loc), GH w s A S H locs → lv_has ls 5 [(0, .ref (gad w 49)), (1, .int x1), (2, .int x2), (3, .int x3)] → W p l e (rmm 1 23) s m args below meth c H locs 0 0 Q (F0 m 158 ls []) := by
      intro S x2 x3 h ls H locs hG hl
      unfold M_findWays_J158 at h
      refine lv_aload_n hx hb d_M_findWays_158 rfl (lv_at hl 0 rfl) ?_
      refine g_get C hG (hG.lt (Nat.le_of_ble_eq_true rfl)) (ce49 w _) rfl inC8 28 (Nat.le_of_ble_eq_true rfl) qw704 rfl d_M_findWays_159 ?_
      refine lv_iload_n hx hb d_M_findWays_162 rfl (lv_at hl 3 rfl) ?_
      refine lv_dup2_11 hx hb d_M_findWays_163 rfl rfl ?_
      obtain ⟨hi22, h⟩ := chk_some h
      refine g_iald (j := ix x3) C hG (hG.lt (Nat.le_of_ble_eq_true rfl)) (ce72 w _) (inb_in hi22) rfl d_M_findWays_164 ?_
      refine lv_iconst (v := 1) hx hb d_M_findWays_165 (by decide) ?_
      refine lv_iadd hx hb d_M_findWays_166 ?_
      obtain ⟨hi23, h⟩ := chk_some h
      refine g_iast (j := ix x3) (x := (S 72 (ix x3)) + 1) C hG (hG.lt (Nat.le_of_ble_eq_true rfl)) (ce72 w) (inb_in hi23) rfl d_M_findWays_167 (fun H locs hG => ?_)
      obtain ⟨z1, hz1, h⟩ := bnd_some h
      refine L_M_findWays_168 C _ _ _ FZ _ _ hz1 ?_ ls _ _ hG (lv_sub hl [0, 1, 2, 3] rfl)
      intro Sy e9 ls H locs hG hl
      subst e9
      exact J236 _ _ _ h ls _ _ hG (lv_sub hl [0, 1, 2, 3] rfl)
    have J127 : ∀ (S : St) (x2 : Int32) (x3 : Int32), M_findWays_J127 S x1 x2 x3 = some z → ∀ (ls : Array Slot) (H : Heap) (locs : List Loc), GH w s A S H locs → lv_has ls 5 [(0, .ref (gad w 49)), (1, .int x1), (2, .int x2), (3, .int x3)] → W p l e (rmm 1 23) s m args below meth c H locs 0 0 Q (F0 m 127 ls []) := by
      intro S x2 x3 h ls H locs hG hl
      unfold M_findWays_J127 at h
      refine lv_iinc (v := x3 + (-1)) (lv' := [(3, .int (x3 + (-1))), (0, .ref (gad w 49)), (1, .int x1), (2, .int x2)]) hx hb d_M_findWays_127 hl (k := 3) rfl (congrArg (HAdd.hAdd x3) (by decide : Int32.ofInt (-1) = (-1))) (by decide) rfl (fun ls hl => ?_)
      refine lv_goto (tgt := 76) hx hb d_M_findWays_130 (by decide) ?_
      exact ih _ _ _ _ (lp_back h hr) k1 ls _ _ hG (lv_sub hl [1, 2, 3, 0] rfl)
    unfold M_findWays_L76 at h
    refine lv_iload_n hx hb d_M_findWays_76 rfl (lv_at hl 3 rfl) ?_
    refine lv_if_lt (tgt := 280) hx hb d_M_findWays_77 (by decide) (fun hc => ?_) (fun hc => ?_)
    · replace h := it_t h hc
      exact k1 _ _ _ (lp_exit h hr) ls _ _ hG (lv_sub hl [2] rfl)
    · replace h := it_f h hc
      refine lv_iload_n hx hb d_M_findWays_80 rfl (lv_at hl 3 rfl) ?_
      refine lv_iload_n hx hb d_M_findWays_81 rfl (lv_at hl 1 rfl) ?_
      refine lv_icmp_ne (tgt := 133) hx hb d_M_findWays_82 (by decide) (fun hc => ?_) (fun hc => ?_)
      · replace h := it_f h hc
        refine lv_aload_n hx hb d_M_findWays_133 rfl (lv_at hl 0 rfl) ?_
        refine g_get C hG (hG.lt (Nat.le_of_ble_eq_true rfl)) (ce49 w _) rfl inC8 28 (Nat.le_of_ble_eq_true rfl) qw704 rfl d_M_findWays_134 ?_
        refine lv_iload_n hx hb d_M_findWays_137 rfl (lv_at hl 3 rfl) ?_
        obtain ⟨hi24, h⟩ := chk_some h
        refine g_iald (j := ix x3) C hG (hG.lt (Nat.le_of_ble_eq_true rfl)) (ce72 w _) (inb_in hi24) rfl d_M_findWays_138 ?_
        refine lv_iconst (v := (-1)) hx hb d_M_findWays_139 (by decide) ?_
        refine lv_icmp_eq (tgt := 158) hx hb d_M_findWays_140 (by decide) (fun hc => ?_) (fun hc => ?_)
        · replace h := it_t h hc
          exact J158 _ _ _ h ls _ _ hG (lv_sub hl [0, 1, 2, 3] rfl)
        · replace h := it_f h hc
          refine lv_aload_n hx hb d_M_findWays_143 rfl (lv_at hl 0 rfl) ?_
          refine g_get C hG (hG.lt (Nat.le_of_ble_eq_true rfl)) (ce49 w _) rfl inC8 26 (Nat.le_of_ble_eq_true rfl) qw702 rfl d_M_findWays_144 ?_
          refine lv_aload_n hx hb d_M_findWays_147 rfl (lv_at hl 0 rfl) ?_
          refine g_get C hG (hG.lt (Nat.le_of_ble_eq_true rfl)) (ce49 w _) rfl inC8 28 (Nat.le_of_ble_eq_true rfl) qw704 rfl d_M_findWays_148 ?_
          refine lv_iload_n hx hb d_M_findWays_151 rfl (lv_at hl 3 rfl) ?_
          obtain ⟨hi25, h⟩ := chk_some h
          refine g_iald (j := ix x3) C hG (hG.lt (Nat.le_of_ble_eq_true rfl)) (ce72 w _) (inb_in hi25) rfl d_M_findWays_152 ?_
          refine lv_dup2_11 hx hb d_M_findWays_153 rfl rfl ?_
          obtain ⟨hi26, h⟩ := chk_some h
          refine g_iald (j := ix (S 72 (ix x3))) C hG (hG.lt (Nat.le_of_ble_eq_true rfl)) (ce70 w _) (inb_in hi26) rfl d_M_findWays_154 ?_
          refine lv_iconst (v := 1) hx hb d_M_findWays_155 (by decide) ?_
          refine lv_isub hx hb d_M_findWays_156 ?_
          obtain ⟨hi27, h⟩ := chk_some h
          refine g_iast (j := ix (S 72 (ix x3))) (x := (S 70 (ix (S 72 (ix x3)))) - 1) C hG (hG.lt (Nat.le_of_ble_eq_true rfl)) (ce70 w) (inb_in hi27) rfl d_M_findWays_157 (fun H locs hG => ?_)
          exact J158 _ _ _ h ls _ _ hG (lv_sub hl [0, 1, 2, 3] rfl)
      · replace h := it_t h hc
        refine lv_iinc (v := x2 + 1) (lv' := [(2, .int (x2 + 1)), (0, .ref (gad w 49)), (1, .int x1), (3, .int x3)]) hx hb d_M_findWays_85 hl (k := 2) rfl (congrArg (HAdd.hAdd x2) (by decide : Int32.ofInt 1 = 1)) (by decide) rfl (fun ls hl => ?_)
        refine lv_iconst (v := 0) hx hb d_M_findWays_88 (by decide) ?_
        refine lv_istore (lv' := [(4, .int 0), (2, .int (x2 + 1)), (0, .ref (gad w 49)), (1, .int x1), (3, .int x3)]) hx hb d_M_findWays_89 hl (by decide) rfl (fun ls hl => ?_)
        obtain ⟨z2, hz2, h⟩ := bnd_some h
        refine L_M_findWays_91 C _ _ _ FZ _ _ _ hz2 ?_ ls _ _ hG (lv_sub hl [2, 3, 1, 4, 0] rfl)
        intro y4 Sy e9 ls H locs hG hl
        subst e9
        exact J127 _ _ _ h ls _ _ hG (lv_sub hl [0, 1, 2, 3] rfl)
set_option maxHeartbeats 4000000 in
set_option maxRecDepth 100000 in
theorem c_M_findWays (l : Launch) (w : gw) (S : St)   {z : Int32 × St} (h : (M_findWays S) = some z) : gMi l w y_M_findWays b_M_findWays 5 (some .int) (rmm 1 23) [.ref (gad w 49)] S z.1 z.2 := by
  unfold M_findWays at h
  refine g_met (Qc := gQi w z.1 z.2) (by decide +kernel) (Nat.le_of_ble_eq_true rfl) ?_
  intro p e s m args below meth c A Q ls hQ C hG hl
  have hx := C.1
  have hb := C.2.1
  have hl : lv_has ls 5 [(0, .ref (gad w 49))] := hl
  have J280 : ∀ (S : St) (x2 : Int32), M_findWays_J280 S x2 = some z → ∀ (ls : Array Slot) (H : Heap) (locs : List Loc), GH w s A S H locs → lv_has ls 5 [(2, .int x2)] → W p l e (rmm 1 23) s m args below meth c H locs 0 0 Q (F0 m 280 ls []) := by
    intro S x2 h ls H locs hG hl
    unfold M_findWays_J280 at h
    refine lv_iload_n hx hb d_M_findWays_280 rfl (lv_at hl 0 rfl) ?_
    exact g_iret C hG (sm_fst h) (sm_snd h) hQ d_M_findWays_281
  have J65 : ∀ (S : St) (x1 : Int32), M_findWays_J65 S x1 = some z → ∀ (ls : Array Slot) (H : Heap) (locs : List Loc), GH w s A S H locs → lv_has ls 5 [(0, .ref (gad w 49)), (1, .int x1)] → W p l e (rmm 1 23) s m args below meth c H locs 0 0 Q (F0 m 65 ls []) := by
    intro S x1 h ls H locs hG hl
    unfold M_findWays_J65 at h
    refine lv_iconst (v := 0) hx hb d_M_findWays_65 (by decide) ?_
    refine lv_istore_n (lv' := [(2, .int 0), (0, .ref (gad w 49)), (1, .int x1)]) hx hb d_M_findWays_66 rfl hl (by decide) rfl (fun ls hl => ?_)
    refine lv_iconst (v := 0) hx hb d_M_findWays_67 (by decide) ?_
    refine lv_istore_n (lv' := [(3, .int 0), (2, .int 0), (0, .ref (gad w 49)), (1, .int x1)]) hx hb d_M_findWays_68 rfl hl (by decide) rfl (fun ls hl => ?_)
    refine lv_aload_n hx hb d_M_findWays_69 rfl (lv_at hl 2 rfl) ?_
    refine g_get C hG (hG.lt (Nat.le_of_ble_eq_true rfl)) (ce49 w _) rfl inC8 28 (Nat.le_of_ble_eq_true rfl) qw704 rfl d_M_findWays_70 ?_
    refine lv_iconst (v := 0) hx hb d_M_findWays_73 (by decide) ?_
    refine lv_iconst (v := (-1)) hx hb d_M_findWays_74 (by decide) ?_
    refine g_iast (j := 0) (x := (-1)) C hG (hG.lt (Nat.le_of_ble_eq_true rfl)) (ce72 w) (inb_in (by decide)) rfl d_M_findWays_75 (fun H locs hG => ?_)
    obtain ⟨z3, hz3, h⟩ := bnd_some h
    refine L_M_findWays_76 C _ FZ _ _ _ _ hz3 ?_ ls _ _ hG (lv_sub hl [2, 3, 1, 0] rfl)
    intro y2 y3 Sy e9 ls H locs hG hl
    subst e9
    exact J280 _ _ h ls _ _ hG (lv_sub hl [0] rfl)
  have J29 : ∀ (S : St), M_findWays_J29 S = some z → ∀ (ls : Array Slot) (H : Heap) (locs : List Loc), GH w s A S H locs → lv_has ls 5 [(0, .ref (gad w 49))] → W p l e (rmm 1 23) s m args below meth c H locs 0 0 Q (F0 m 29 ls []) := by
    intro S h ls H locs hG hl
    unfold M_findWays_J29 at h
    refine lv_iconst (v := 0) hx hb d_M_findWays_29 (by decide) ?_
    refine lv_istore_n (lv' := [(1, .int 0), (0, .ref (gad w 49))]) hx hb d_M_findWays_30 rfl hl (by decide) rfl (fun ls hl => ?_)
    refine lv_iconst (v := 0) hx hb d_M_findWays_31 (by decide) ?_
    refine lv_istore_n (lv' := [(2, .int 0), (1, .int 0), (0, .ref (gad w 49))]) hx hb d_M_findWays_32 rfl hl (by decide) rfl (fun ls hl => ?_)
    obtain ⟨z4, hz4, h⟩ := bnd_some h
    refine L_M_findWays_33 C FZ _ _ _ _ hz4 ?_ ls _ _ hG (lv_sub hl [2, 1, 0] rfl)
    intro y1 y2 Sy e9 ls H locs hG hl
    subst e9
    exact J65 _ _ h ls _ _ hG (lv_sub hl [0, 1] rfl)
  refine lv_aload_n hx hb d_M_findWays_0 rfl (lv_at hl 0 rfl) ?_
  obtain ⟨z5, hz5, h⟩ := bnd_some h
  refine g_goi hG (g_runV (As := []) (rest := []) C hG (c_M_findSeen l w S hz5 _) (hG.lt (Nat.le_of_ble_eq_true rfl)) (ce49 w _) rfl vw_M_255 rfl rfl ⟨by decide, by decide⟩ rfl hl.1 rfl (Nat.le_of_ble_eq_true rfl) d_M_findWays_1 ⟨Nat.zero_le _, Nat.zero_le _⟩) (fun H locs hG => ?_)
  refine lv_if_ne (tgt := 9) hx hb d_M_findWays_4 (by decide) (fun hc => ?_) (fun hc => ?_)
  · replace h := it_f h hc
    refine lv_iconst (v := 0) hx hb d_M_findWays_9 (by decide) ?_
    refine lv_istore_n (lv' := [(1, .int 0), (0, .ref (gad w 49))]) hx hb d_M_findWays_10 rfl hl (by decide) rfl (fun ls hl => ?_)
    obtain ⟨z6, hz6, h⟩ := bnd_some h
    refine L_M_findWays_11 C FZ _ _ _ hz6 ?_ ls _ _ hG (lv_sub hl [1, 0] rfl)
    intro y1 Sy e9 ls H locs hG hl
    subst e9
    exact J29 _ h ls _ _ hG (lv_sub hl [0] rfl)
  · replace h := it_t h hc
    refine lv_iconst (v := 0) hx hb d_M_findWays_7 (by decide) ?_
    exact g_iret C hG (sm_fst h) (sm_snd h) hQ d_M_findWays_8
theorem d_M_ownersOf_0 : decode b_M_ownersOf 0 = .ok (.aload_n 0, 1) := by decide +kernel
theorem d_M_ownersOf_1 : decode b_M_ownersOf 1 = .ok (.invokevirtual 258, 3) := by decide +kernel
theorem d_M_ownersOf_4 : decode b_M_ownersOf 4 = .ok (.istore_n 2, 1) := by decide +kernel
theorem d_M_ownersOf_5 : decode b_M_ownersOf 5 = .ok (.iload_n 1, 1) := by decide +kernel
theorem d_M_ownersOf_6 : decode b_M_ownersOf 6 = .ok (.iconst (-1), 1) := by decide +kernel
theorem d_M_ownersOf_7 : decode b_M_ownersOf 7 = .ok (.if_icmp .ne 7, 3) := by decide +kernel
theorem d_M_ownersOf_10 : decode b_M_ownersOf 10 = .ok (.iload_n 2, 1) := by decide +kernel
theorem d_M_ownersOf_11 : decode b_M_ownersOf 11 = .ok (.goto 9, 3) := by decide +kernel
theorem d_M_ownersOf_14 : decode b_M_ownersOf 14 = .ok (.aload_n 0, 1) := by decide +kernel
theorem d_M_ownersOf_15 : decode b_M_ownersOf 15 = .ok (.getfield 68, 3) := by decide +kernel
theorem d_M_ownersOf_18 : decode b_M_ownersOf 18 = .ok (.iload_n 1, 1) := by decide +kernel
theorem d_M_ownersOf_19 : decode b_M_ownersOf 19 = .ok (.iaload, 1) := by decide +kernel
theorem d_M_ownersOf_20 : decode b_M_ownersOf 20 = .ok (.ireturn, 1) := by decide +kernel
noncomputable def M_ownersOf (S : St) (x1 : Int32) : Option (Int32 × St) :=
  bnd (M_findWays S) fun z1 =>
    if x1 = (-1) then
      some (z1.1, z1.2)
    else
      chk (inb x1 10) <|
      some (z1.2 69 (ix x1), z1.2)
set_option maxHeartbeats 4000000 in
set_option maxRecDepth 100000 in
theorem c_M_ownersOf (l : Launch) (w : gw) (S : St) (x1 : Int32)  {z : Int32 × St} (h : (M_ownersOf S x1) = some z) : gMi l w y_M_ownersOf b_M_ownersOf 3 (some .int) (rmm 2 47) [.ref (gad w 49), .int x1] S z.1 z.2 := by
  unfold M_ownersOf at h
  refine g_met (Qc := gQi w z.1 z.2) (by decide +kernel) (Nat.le_of_ble_eq_true rfl) ?_
  intro p e s m args below meth c A Q ls hQ C hG hl
  have hx := C.1
  have hb := C.2.1
  have hl : lv_has ls 3 [(0, .ref (gad w 49)), (1, .int x1)] := hl
  refine lv_aload_n hx hb d_M_ownersOf_0 rfl (lv_at hl 0 rfl) ?_
  obtain ⟨z1, hz1, h⟩ := bnd_some h
  refine g_goi hG (g_runV (As := []) (rest := []) C hG (c_M_findWays l w S hz1 _) (hG.lt (Nat.le_of_ble_eq_true rfl)) (ce49 w _) rfl vw_M_258 rfl rfl ⟨by decide, by decide⟩ rfl hl.1 rfl (Nat.le_of_ble_eq_true rfl) d_M_ownersOf_1 ⟨Nat.zero_le _, Nat.zero_le _⟩) (fun H locs hG => ?_)
  refine lv_istore_n (lv' := [(2, .int z1.1), (0, .ref (gad w 49)), (1, .int x1)]) hx hb d_M_ownersOf_4 rfl hl (by decide) rfl (fun ls hl => ?_)
  refine lv_iload_n hx hb d_M_ownersOf_5 rfl (lv_at hl 2 rfl) ?_
  refine lv_iconst (v := (-1)) hx hb d_M_ownersOf_6 (by decide) ?_
  refine lv_icmp_ne (tgt := 14) hx hb d_M_ownersOf_7 (by decide) (fun hc => ?_) (fun hc => ?_)
  · replace h := it_f h hc
    refine lv_aload_n hx hb d_M_ownersOf_14 rfl (lv_at hl 1 rfl) ?_
    refine g_get C hG (hG.lt (Nat.le_of_ble_eq_true rfl)) (ce49 w _) rfl inC8 25 (Nat.le_of_ble_eq_true rfl) qw701 rfl d_M_ownersOf_15 ?_
    refine lv_iload_n hx hb d_M_ownersOf_18 rfl (lv_at hl 2 rfl) ?_
    obtain ⟨hi1, h⟩ := chk_some h
    refine g_iald (j := ix x1) C hG (hG.lt (Nat.le_of_ble_eq_true rfl)) (ce69 w _) (inb_in hi1) rfl d_M_ownersOf_19 ?_
    exact g_iret C hG (sm_fst h) (sm_snd h) hQ d_M_ownersOf_20
  · replace h := it_t h hc
    refine lv_iload_n hx hb d_M_ownersOf_10 rfl (lv_at hl 0 rfl) ?_
    refine lv_goto (tgt := 20) hx hb d_M_ownersOf_11 (by decide) ?_
    exact g_iret C hG (sm_fst h) (sm_snd h) hQ d_M_ownersOf_20
theorem d_M_owners_0 : decode b_M_owners 0 = .ok (.iload_n 1, 1) := by decide +kernel
theorem d_M_owners_1 : decode b_M_owners 1 = .ok (.iconst (-1), 1) := by decide +kernel
theorem d_M_owners_2 : decode b_M_owners 2 = .ok (.if_icmp .eq 10, 3) := by decide +kernel
theorem d_M_owners_5 : decode b_M_owners 5 = .ok (.iload_n 1, 1) := by decide +kernel
theorem d_M_owners_6 : decode b_M_owners 6 = .ok (.invokestatic 152, 3) := by decide +kernel
theorem d_M_owners_9 : decode b_M_owners 9 = .ok (.ifCond .eq 11, 3) := by decide +kernel
theorem d_M_owners_12 : decode b_M_owners 12 = .ok (.aload_n 0, 1) := by decide +kernel
theorem d_M_owners_13 : decode b_M_owners 13 = .ok (.iload_n 1, 1) := by decide +kernel
theorem d_M_owners_14 : decode b_M_owners 14 = .ok (.invokevirtual 261, 3) := by decide +kernel
theorem d_M_owners_17 : decode b_M_owners 17 = .ok (.goto 5, 3) := by decide +kernel
theorem d_M_owners_20 : decode b_M_owners 20 = .ok (.bipush (-2), 2) := by decide +kernel
theorem d_M_owners_22 : decode b_M_owners 22 = .ok (.ireturn, 1) := by decide +kernel
noncomputable def M_owners_J12 (S : St) (x1 : Int32) : Option (Int32 × St) :=
  bnd (M_ownersOf S x1) fun z1 =>
    some (z1.1, z1.2)
noncomputable def M_owners (S : St) (x1 : Int32) : Option (Int32 × St) :=
  if x1 = (-1) then
      M_owners_J12 S x1
    else
      if (M_isEvening x1) = 0 then
        some ((-2), S)
      else
        M_owners_J12 S x1
set_option maxHeartbeats 4000000 in
set_option maxRecDepth 100000 in
theorem c_M_owners (l : Launch) (w : gw) (S : St) (x1 : Int32)  {z : Int32 × St} (h : (M_owners S x1) = some z) : gMi l w y_M_owners b_M_owners 2 (some .int) (rmm 3 69) [.ref (gad w 49), .int x1] S z.1 z.2 := by
  unfold M_owners at h
  refine g_met (Qc := gQi w z.1 z.2) (by decide +kernel) (Nat.le_of_ble_eq_true rfl) ?_
  intro p e s m args below meth c A Q ls hQ C hG hl
  have hx := C.1
  have hb := C.2.1
  have hl : lv_has ls 2 [(0, .ref (gad w 49)), (1, .int x1)] := hl
  have J12 : ∀ (S : St), M_owners_J12 S x1 = some z → ∀ (ls : Array Slot) (H : Heap) (locs : List Loc), GH w s A S H locs → lv_has ls 2 [(0, .ref (gad w 49)), (1, .int x1)] → W p l e (rmm 3 69) s m args below meth c H locs 0 0 Q (F0 m 12 ls []) := by
    intro S h ls H locs hG hl
    unfold M_owners_J12 at h
    refine lv_aload_n hx hb d_M_owners_12 rfl (lv_at hl 0 rfl) ?_
    refine lv_iload_n hx hb d_M_owners_13 rfl (lv_at hl 1 rfl) ?_
    obtain ⟨z1, hz1, h⟩ := bnd_some h
    refine g_goi hG (g_runV (As := [.int x1]) (rest := []) C hG (c_M_ownersOf l w S x1 hz1 _) (hG.lt (Nat.le_of_ble_eq_true rfl)) (ce49 w _) rfl vw_M_261 rfl rfl ⟨by decide, by decide⟩ rfl hl.1 rfl (Nat.le_of_ble_eq_true rfl) d_M_owners_14 ⟨Nat.zero_le _, Nat.zero_le _⟩) (fun H locs hG => ?_)
    refine lv_goto (tgt := 22) hx hb d_M_owners_17 (by decide) ?_
    exact g_iret C hG (sm_fst h) (sm_snd h) hQ d_M_owners_22
  refine lv_iload_n hx hb d_M_owners_0 rfl (lv_at hl 1 rfl) ?_
  refine lv_iconst (v := (-1)) hx hb d_M_owners_1 (by decide) ?_
  refine lv_icmp_eq (tgt := 12) hx hb d_M_owners_2 (by decide) (fun hc => ?_) (fun hc => ?_)
  · replace h := it_t h hc
    exact J12 _ h ls _ _ hG (lv_sub hl [0, 1] rfl)
  · replace h := it_f h hc
    refine lv_iload_n hx hb d_M_owners_5 rfl (lv_at hl 1 rfl) ?_
    refine g_goi hG (g_runS (As := [.int x1]) (rest := []) C hG (c_M_isEvening l w S x1 _) sw_M_152 rfl rfl ⟨by decide, by decide⟩ rfl hl.1 rfl (Nat.le_of_ble_eq_true rfl) d_M_owners_6 ⟨Nat.zero_le _, Nat.zero_le _⟩) (fun H locs hG => ?_)
    refine lv_if_eq (tgt := 20) hx hb d_M_owners_9 (by decide) (fun hc => ?_) (fun hc => ?_)
    · replace h := it_t h hc
      refine lv_bipush (v := (-2)) hx hb d_M_owners_20 (by decide) ?_
      exact g_iret C hG (sm_fst h) (sm_snd h) hQ d_M_owners_22
    · replace h := it_f h hc
      exact J12 _ h ls _ _ hG (lv_sub hl [0, 1] rfl)
theorem d_M_worthOf_0 : decode b_M_worthOf 0 = .ok (.aload_n 0, 1) := by decide +kernel
theorem d_M_worthOf_1 : decode b_M_worthOf 1 = .ok (.getfield 34, 3) := by decide +kernel
theorem d_M_worthOf_4 : decode b_M_worthOf 4 = .ok (.bipush 10, 2) := by decide +kernel
theorem d_M_worthOf_6 : decode b_M_worthOf 6 = .ok (.iload_n 1, 1) := by decide +kernel
theorem d_M_worthOf_7 : decode b_M_worthOf 7 = .ok (.imul, 1) := by decide +kernel
theorem d_M_worthOf_8 : decode b_M_worthOf 8 = .ok (.iload_n 2, 1) := by decide +kernel
theorem d_M_worthOf_9 : decode b_M_worthOf 9 = .ok (.iadd, 1) := by decide +kernel
theorem d_M_worthOf_10 : decode b_M_worthOf 10 = .ok (.iaload, 1) := by decide +kernel
theorem d_M_worthOf_11 : decode b_M_worthOf 11 = .ok (.i2l, 1) := by decide +kernel
theorem d_M_worthOf_12 : decode b_M_worthOf 12 = .ok (.bipush 16, 2) := by decide +kernel
theorem d_M_worthOf_14 : decode b_M_worthOf 14 = .ok (.aload_n 0, 1) := by decide +kernel
theorem d_M_worthOf_15 : decode b_M_worthOf 15 = .ok (.getfield 43, 3) := by decide +kernel
theorem d_M_worthOf_18 : decode b_M_worthOf 18 = .ok (.iload_n 2, 1) := by decide +kernel
theorem d_M_worthOf_19 : decode b_M_worthOf 19 = .ok (.iaload, 1) := by decide +kernel
theorem d_M_worthOf_20 : decode b_M_worthOf 20 = .ok (.isub, 1) := by decide +kernel
theorem d_M_worthOf_21 : decode b_M_worthOf 21 = .ok (.i2l, 1) := by decide +kernel
theorem d_M_worthOf_22 : decode b_M_worthOf 22 = .ok (.lmul, 1) := by decide +kernel
theorem d_M_worthOf_23 : decode b_M_worthOf 23 = .ok (.ldc2_w 157, 3) := by decide +kernel
theorem d_M_worthOf_26 : decode b_M_worthOf 26 = .ok (.iload_n 3, 1) := by decide +kernel
theorem d_M_worthOf_27 : decode b_M_worthOf 27 = .ok (.invokestatic 240, 3) := by decide +kernel
theorem d_M_worthOf_30 : decode b_M_worthOf 30 = .ok (.lreturn, 1) := by decide +kernel
noncomputable def M_worthOf (S : St) (x1 : Int32) (x2 : Int32) (x3 : Int32) : Option (Int64) :=
  chk (inb ((10 * x1) + x2) 50) <|
    chk (inb x2 10) <|
    bnd (M_part (((S 58 (ix ((10 * x1) + x2))).toInt64) * ((16 - (S 61 (ix x2))).toInt64)) 16 x3) fun z1 =>
    some z1
set_option maxHeartbeats 4000000 in
set_option maxRecDepth 100000 in
theorem c_M_worthOf (l : Launch) (w : gw) (S : St) (x1 : Int32) (x2 : Int32) (x3 : Int32)  {z : Int64} (h : (M_worthOf S x1 x2 x3) = some z) : gMl l w y_M_worthOf b_M_worthOf 4 (some .long) (rmm 1 30) [.ref (gad w 49), .int x1, .int x2, .int x3] S z S := by
  unfold M_worthOf at h
  refine g_met (Qc := gQl w z S) (by decide +kernel) (Nat.le_of_ble_eq_true rfl) ?_
  intro p e s m args below meth c A Q ls hQ C hG hl
  have hx := C.1
  have hb := C.2.1
  have hl : lv_has ls 4 [(0, .ref (gad w 49)), (1, .int x1), (2, .int x2), (3, .int x3)] := hl
  refine lv_aload_n hx hb d_M_worthOf_0 rfl (lv_at hl 0 rfl) ?_
  refine g_get C hG (hG.lt (Nat.le_of_ble_eq_true rfl)) (ce49 w _) rfl inC8 12 (Nat.le_of_ble_eq_true rfl) qw688 rfl d_M_worthOf_1 ?_
  refine lv_bipush (v := 10) hx hb d_M_worthOf_4 (by decide) ?_
  refine lv_iload_n hx hb d_M_worthOf_6 rfl (lv_at hl 1 rfl) ?_
  refine lv_imul hx hb d_M_worthOf_7 ?_
  refine lv_iload_n hx hb d_M_worthOf_8 rfl (lv_at hl 2 rfl) ?_
  refine lv_iadd hx hb d_M_worthOf_9 ?_
  obtain ⟨hi1, h⟩ := chk_some h
  refine g_iald (j := ix ((10 * x1) + x2)) C hG (hG.lt (Nat.le_of_ble_eq_true rfl)) (ce58 w _) (inb_in hi1) rfl d_M_worthOf_10 ?_
  refine lv_i2l (v := (S 58 (ix ((10 * x1) + x2))).toInt64) hx hb d_M_worthOf_11 rfl ?_
  refine lv_bipush (v := 16) hx hb d_M_worthOf_12 (by decide) ?_
  refine lv_aload_n hx hb d_M_worthOf_14 rfl (lv_at hl 0 rfl) ?_
  refine g_get C hG (hG.lt (Nat.le_of_ble_eq_true rfl)) (ce49 w _) rfl inC8 15 (Nat.le_of_ble_eq_true rfl) qw691 rfl d_M_worthOf_15 ?_
  refine lv_iload_n hx hb d_M_worthOf_18 rfl (lv_at hl 2 rfl) ?_
  obtain ⟨hi2, h⟩ := chk_some h
  refine g_iald (j := ix x2) C hG (hG.lt (Nat.le_of_ble_eq_true rfl)) (ce61 w _) (inb_in hi2) rfl d_M_worthOf_19 ?_
  refine lv_isub hx hb d_M_worthOf_20 ?_
  refine lv_i2l (v := (16 - (S 61 (ix x2))).toInt64) hx hb d_M_worthOf_21 rfl ?_
  refine lv_lmul hx hb d_M_worthOf_22 ?_
  refine lv_ldc2 (v := 16) hx hb C.2.2.2.1 (C.2.2.2.2.1 _ qw869) d_M_worthOf_23 ?_
  refine lv_iload_n hx hb d_M_worthOf_26 rfl (lv_at hl 3 rfl) ?_
  obtain ⟨z1, hz1, h⟩ := bnd_some h
  refine g_gol hG (g_runS (As := [.long (((S 58 (ix ((10 * x1) + x2))).toInt64) * ((16 - (S 61 (ix x2))).toInt64)), .long 16, .int x3]) (rest := []) C hG (c_M_part l w S (((S 58 (ix ((10 * x1) + x2))).toInt64) * ((16 - (S 61 (ix x2))).toInt64)) 16 x3 hz1 _) sw_M_240 rfl rfl ⟨by decide, by decide⟩ rfl hl.1 rfl (Nat.le_of_ble_eq_true rfl) d_M_worthOf_27 ⟨Nat.zero_le _, Nat.zero_le _⟩) (fun H locs hG => ?_)
  exact g_lret C hG (Option.some.inj h) rfl hQ d_M_worthOf_30
theorem d_M_worth_0 : decode b_M_worth 0 = .ok (.iload_n 1, 1) := by decide +kernel
theorem d_M_worth_1 : decode b_M_worth 1 = .ok (.invokestatic 140, 3) := by decide +kernel
theorem d_M_worth_4 : decode b_M_worth 4 = .ok (.ifCond .eq 27, 3) := by decide +kernel
theorem d_M_worth_7 : decode b_M_worth 7 = .ok (.iload_n 2, 1) := by decide +kernel
theorem d_M_worth_8 : decode b_M_worth 8 = .ok (.invokestatic 152, 3) := by decide +kernel
theorem d_M_worth_11 : decode b_M_worth 11 = .ok (.ifCond .eq 20, 3) := by decide +kernel
theorem d_M_worth_14 : decode b_M_worth 14 = .ok (.iload_n 3, 1) := by decide +kernel
theorem d_M_worth_15 : decode b_M_worth 15 = .ok (.invokestatic 143, 3) := by decide +kernel
theorem d_M_worth_18 : decode b_M_worth 18 = .ok (.ifCond .eq 13, 3) := by decide +kernel
theorem d_M_worth_21 : decode b_M_worth 21 = .ok (.aload_n 0, 1) := by decide +kernel
theorem d_M_worth_22 : decode b_M_worth 22 = .ok (.iload_n 1, 1) := by decide +kernel
theorem d_M_worth_23 : decode b_M_worth 23 = .ok (.iload_n 2, 1) := by decide +kernel
theorem d_M_worth_24 : decode b_M_worth 24 = .ok (.iload_n 3, 1) := by decide +kernel
theorem d_M_worth_25 : decode b_M_worth 25 = .ok (.invokevirtual 264, 3) := by decide +kernel
theorem d_M_worth_28 : decode b_M_worth 28 = .ok (.goto 8, 3) := by decide +kernel
theorem d_M_worth_31 : decode b_M_worth 31 = .ok (.bipush (-2), 2) := by decide +kernel
theorem d_M_worth_33 : decode b_M_worth 33 = .ok (.invokestatic 248, 3) := by decide +kernel
theorem d_M_worth_36 : decode b_M_worth 36 = .ok (.lreturn, 1) := by decide +kernel
noncomputable def M_worth_J31 (S : St) : Option (Int64) :=
  some (M_no (-2))
noncomputable def M_worth (S : St) (x1 : Int32) (x2 : Int32) (x3 : Int32) : Option (Int64) :=
  if (M_isBidder x1) = 0 then
      M_worth_J31 S
    else
      if (M_isEvening x2) = 0 then
        M_worth_J31 S
      else
        if (M_isTwo x3) = 0 then
          M_worth_J31 S
        else
          bnd (M_worthOf S x1 x2 x3) fun z1 =>
          some z1
set_option maxHeartbeats 4000000 in
set_option maxRecDepth 100000 in
theorem c_M_worth (l : Launch) (w : gw) (S : St) (x1 : Int32) (x2 : Int32) (x3 : Int32)  {z : Int64} (h : (M_worth S x1 x2 x3) = some z) : gMl l w y_M_worth b_M_worth 4 (some .long) (rmm 2 53) [.ref (gad w 49), .int x1, .int x2, .int x3] S z S := by
  unfold M_worth at h
  refine g_met (Qc := gQl w z S) (by decide +kernel) (Nat.le_of_ble_eq_true rfl) ?_
  intro p e s m args below meth c A Q ls hQ C hG hl
  have hx := C.1
  have hb := C.2.1
  have hl : lv_has ls 4 [(0, .ref (gad w 49)), (1, .int x1), (2, .int x2), (3, .int x3)] := hl
  have J31 : M_worth_J31 S = some z → ∀ (ls : Array Slot) (H : Heap) (locs : List Loc), GH w s A S H locs → lv_has ls 4 [] → W p l e (rmm 2 53) s m args below meth c H locs 0 0 Q (F0 m 31 ls []) := by
    intro  h ls H locs hG hl
    unfold M_worth_J31 at h
    refine lv_bipush (v := (-2)) hx hb d_M_worth_31 (by decide) ?_
    refine g_gol hG (g_runS (As := [.int (-2)]) (rest := []) C hG (c_M_no l w S (-2) _) sw_M_248 rfl rfl ⟨by decide, by decide⟩ rfl hl.1 rfl (Nat.le_of_ble_eq_true rfl) d_M_worth_33 ⟨Nat.zero_le _, Nat.zero_le _⟩) (fun H locs hG => ?_)
    exact g_lret C hG (Option.some.inj h) rfl hQ d_M_worth_36
  refine lv_iload_n hx hb d_M_worth_0 rfl (lv_at hl 1 rfl) ?_
  refine g_goi hG (g_runS (As := [.int x1]) (rest := []) C hG (c_M_isBidder l w S x1 _) sw_M_140 rfl rfl ⟨by decide, by decide⟩ rfl hl.1 rfl (Nat.le_of_ble_eq_true rfl) d_M_worth_1 ⟨Nat.zero_le _, Nat.zero_le _⟩) (fun H locs hG => ?_)
  refine lv_if_eq (tgt := 31) hx hb d_M_worth_4 (by decide) (fun hc => ?_) (fun hc => ?_)
  · replace h := it_t h hc
    exact J31 h ls _ _ hG (lv_sub hl [] rfl)
  · replace h := it_f h hc
    refine lv_iload_n hx hb d_M_worth_7 rfl (lv_at hl 2 rfl) ?_
    refine g_goi hG (g_runS (As := [.int x2]) (rest := []) C hG (c_M_isEvening l w S x2 _) sw_M_152 rfl rfl ⟨by decide, by decide⟩ rfl hl.1 rfl (Nat.le_of_ble_eq_true rfl) d_M_worth_8 ⟨Nat.zero_le _, Nat.zero_le _⟩) (fun H locs hG => ?_)
    refine lv_if_eq (tgt := 31) hx hb d_M_worth_11 (by decide) (fun hc => ?_) (fun hc => ?_)
    · replace h := it_t h hc
      exact J31 h ls _ _ hG (lv_sub hl [] rfl)
    · replace h := it_f h hc
      refine lv_iload_n hx hb d_M_worth_14 rfl (lv_at hl 3 rfl) ?_
      refine g_goi hG (g_runS (As := [.int x3]) (rest := []) C hG (c_M_isTwo l w S x3 _) sw_M_143 rfl rfl ⟨by decide, by decide⟩ rfl hl.1 rfl (Nat.le_of_ble_eq_true rfl) d_M_worth_15 ⟨Nat.zero_le _, Nat.zero_le _⟩) (fun H locs hG => ?_)
      refine lv_if_eq (tgt := 31) hx hb d_M_worth_18 (by decide) (fun hc => ?_) (fun hc => ?_)
      · replace h := it_t h hc
        exact J31 h ls _ _ hG (lv_sub hl [] rfl)
      · replace h := it_f h hc
        refine lv_aload_n hx hb d_M_worth_21 rfl (lv_at hl 0 rfl) ?_
        refine lv_iload_n hx hb d_M_worth_22 rfl (lv_at hl 1 rfl) ?_
        refine lv_iload_n hx hb d_M_worth_23 rfl (lv_at hl 2 rfl) ?_
        refine lv_iload_n hx hb d_M_worth_24 rfl (lv_at hl 3 rfl) ?_
        obtain ⟨z1, hz1, h⟩ := bnd_some h
        refine g_gol hG (g_runV (As := [.int x1, .int x2, .int x3]) (rest := []) C hG (c_M_worthOf l w S x1 x2 x3 hz1 _) (hG.lt (Nat.le_of_ble_eq_true rfl)) (ce49 w _) rfl vw_M_264 rfl rfl ⟨by decide, by decide⟩ rfl hl.1 rfl (Nat.le_of_ble_eq_true rfl) d_M_worth_25 ⟨Nat.zero_le _, Nat.zero_le _⟩) (fun H locs hG => ?_)
        refine lv_goto (tgt := 36) hx hb d_M_worth_28 (by decide) ?_
        exact g_lret C hG (Option.some.inj h) rfl hQ d_M_worth_36
theorem d_M_swapOf_0 : decode b_M_swapOf 0 = .ok (.aload_n 0, 1) := by decide +kernel
theorem d_M_swapOf_1 : decode b_M_swapOf 1 = .ok (.iload_n 1, 1) := by decide +kernel
theorem d_M_swapOf_2 : decode b_M_swapOf 2 = .ok (.invokevirtual 162, 3) := by decide +kernel
theorem d_M_swapOf_5 : decode b_M_swapOf 5 = .ok (.istore_n 3, 1) := by decide +kernel
theorem d_M_swapOf_6 : decode b_M_swapOf 6 = .ok (.aload_n 0, 1) := by decide +kernel
theorem d_M_swapOf_7 : decode b_M_swapOf 7 = .ok (.iload_n 2, 1) := by decide +kernel
theorem d_M_swapOf_8 : decode b_M_swapOf 8 = .ok (.invokevirtual 162, 3) := by decide +kernel
theorem d_M_swapOf_11 : decode b_M_swapOf 11 = .ok (.istore 4, 2) := by decide +kernel
theorem d_M_swapOf_13 : decode b_M_swapOf 13 = .ok (.iload_n 3, 1) := by decide +kernel
theorem d_M_swapOf_14 : decode b_M_swapOf 14 = .ok (.iconst (-1), 1) := by decide +kernel
theorem d_M_swapOf_15 : decode b_M_swapOf 15 = .ok (.if_icmp .eq 15, 3) := by decide +kernel
theorem d_M_swapOf_18 : decode b_M_swapOf 18 = .ok (.iload 4, 2) := by decide +kernel
theorem d_M_swapOf_20 : decode b_M_swapOf 20 = .ok (.iconst (-1), 1) := by decide +kernel
theorem d_M_swapOf_21 : decode b_M_swapOf 21 = .ok (.if_icmp .eq 9, 3) := by decide +kernel
theorem d_M_swapOf_24 : decode b_M_swapOf 24 = .ok (.iload_n 3, 1) := by decide +kernel
theorem d_M_swapOf_25 : decode b_M_swapOf 25 = .ok (.iload 4, 2) := by decide +kernel
theorem d_M_swapOf_27 : decode b_M_swapOf 27 = .ok (.if_icmp .ne 6, 3) := by decide +kernel
theorem d_M_swapOf_30 : decode b_M_swapOf 30 = .ok (.bipush (-3), 2) := by decide +kernel
theorem d_M_swapOf_32 : decode b_M_swapOf 32 = .ok (.ireturn, 1) := by decide +kernel
theorem d_M_swapOf_33 : decode b_M_swapOf 33 = .ok (.aload_n 0, 1) := by decide +kernel
theorem d_M_swapOf_34 : decode b_M_swapOf 34 = .ok (.getfield 34, 3) := by decide +kernel
theorem d_M_swapOf_37 : decode b_M_swapOf 37 = .ok (.bipush 10, 2) := by decide +kernel
theorem d_M_swapOf_39 : decode b_M_swapOf 39 = .ok (.iload_n 3, 1) := by decide +kernel
theorem d_M_swapOf_40 : decode b_M_swapOf 40 = .ok (.imul, 1) := by decide +kernel
theorem d_M_swapOf_41 : decode b_M_swapOf 41 = .ok (.iload_n 2, 1) := by decide +kernel
theorem d_M_swapOf_42 : decode b_M_swapOf 42 = .ok (.iadd, 1) := by decide +kernel
theorem d_M_swapOf_43 : decode b_M_swapOf 43 = .ok (.iaload, 1) := by decide +kernel
theorem d_M_swapOf_44 : decode b_M_swapOf 44 = .ok (.aload_n 0, 1) := by decide +kernel
theorem d_M_swapOf_45 : decode b_M_swapOf 45 = .ok (.getfield 34, 3) := by decide +kernel
theorem d_M_swapOf_48 : decode b_M_swapOf 48 = .ok (.bipush 10, 2) := by decide +kernel
theorem d_M_swapOf_50 : decode b_M_swapOf 50 = .ok (.iload_n 3, 1) := by decide +kernel
theorem d_M_swapOf_51 : decode b_M_swapOf 51 = .ok (.imul, 1) := by decide +kernel
theorem d_M_swapOf_52 : decode b_M_swapOf 52 = .ok (.iload_n 1, 1) := by decide +kernel
theorem d_M_swapOf_53 : decode b_M_swapOf 53 = .ok (.iadd, 1) := by decide +kernel
theorem d_M_swapOf_54 : decode b_M_swapOf 54 = .ok (.iaload, 1) := by decide +kernel
theorem d_M_swapOf_55 : decode b_M_swapOf 55 = .ok (.if_icmp .le 34, 3) := by decide +kernel
theorem d_M_swapOf_58 : decode b_M_swapOf 58 = .ok (.aload_n 0, 1) := by decide +kernel
theorem d_M_swapOf_59 : decode b_M_swapOf 59 = .ok (.getfield 34, 3) := by decide +kernel
theorem d_M_swapOf_62 : decode b_M_swapOf 62 = .ok (.bipush 10, 2) := by decide +kernel
theorem d_M_swapOf_64 : decode b_M_swapOf 64 = .ok (.iload 4, 2) := by decide +kernel
theorem d_M_swapOf_66 : decode b_M_swapOf 66 = .ok (.imul, 1) := by decide +kernel
theorem d_M_swapOf_67 : decode b_M_swapOf 67 = .ok (.iload_n 1, 1) := by decide +kernel
theorem d_M_swapOf_68 : decode b_M_swapOf 68 = .ok (.iadd, 1) := by decide +kernel
theorem d_M_swapOf_69 : decode b_M_swapOf 69 = .ok (.iaload, 1) := by decide +kernel
theorem d_M_swapOf_70 : decode b_M_swapOf 70 = .ok (.aload_n 0, 1) := by decide +kernel
theorem d_M_swapOf_71 : decode b_M_swapOf 71 = .ok (.getfield 34, 3) := by decide +kernel
theorem d_M_swapOf_74 : decode b_M_swapOf 74 = .ok (.bipush 10, 2) := by decide +kernel
theorem d_M_swapOf_76 : decode b_M_swapOf 76 = .ok (.iload 4, 2) := by decide +kernel
theorem d_M_swapOf_78 : decode b_M_swapOf 78 = .ok (.imul, 1) := by decide +kernel
theorem d_M_swapOf_79 : decode b_M_swapOf 79 = .ok (.iload_n 2, 1) := by decide +kernel
theorem d_M_swapOf_80 : decode b_M_swapOf 80 = .ok (.iadd, 1) := by decide +kernel
theorem d_M_swapOf_81 : decode b_M_swapOf 81 = .ok (.iaload, 1) := by decide +kernel
theorem d_M_swapOf_82 : decode b_M_swapOf 82 = .ok (.if_icmp .le 7, 3) := by decide +kernel
theorem d_M_swapOf_85 : decode b_M_swapOf 85 = .ok (.iconst 1, 1) := by decide +kernel
theorem d_M_swapOf_86 : decode b_M_swapOf 86 = .ok (.goto 4, 3) := by decide +kernel
theorem d_M_swapOf_89 : decode b_M_swapOf 89 = .ok (.iconst 0, 1) := by decide +kernel
theorem d_M_swapOf_90 : decode b_M_swapOf 90 = .ok (.ireturn, 1) := by decide +kernel
noncomputable def M_swapOf (S : St) (x1 : Int32) (x2 : Int32) : Option (Int32) :=
  bnd (M_ownerOf S x1) fun z1 =>
    bnd (M_ownerOf S x2) fun z2 =>
    if z1 = (-1) then
      some (-3)
    else
      if z2 = (-1) then
        some (-3)
      else
        if z1 = z2 then
          some (-3)
        else
          chk (inb ((10 * z1) + x2) 50) <|
          chk (inb ((10 * z1) + x1) 50) <|
          if (S 58 (ix ((10 * z1) + x2))) ≤ (S 58 (ix ((10 * z1) + x1))) then
            some 0
          else
            chk (inb ((10 * z2) + x1) 50) <|
            chk (inb ((10 * z2) + x2) 50) <|
            if (S 58 (ix ((10 * z2) + x1))) ≤ (S 58 (ix ((10 * z2) + x2))) then
              some 0
            else
              some 1
set_option maxHeartbeats 4000000 in
set_option maxRecDepth 100000 in
theorem c_M_swapOf (l : Launch) (w : gw) (S : St) (x1 : Int32) (x2 : Int32)  {z : Int32} (h : (M_swapOf S x1 x2) = some z) : gMi l w y_M_swapOf b_M_swapOf 5 (some .int) (rmm 1 21) [.ref (gad w 49), .int x1, .int x2] S z S := by
  unfold M_swapOf at h
  refine g_met (Qc := gQi w z S) (by decide +kernel) (Nat.le_of_ble_eq_true rfl) ?_
  intro p e s m args below meth c A Q ls hQ C hG hl
  have hx := C.1
  have hb := C.2.1
  have hl : lv_has ls 5 [(0, .ref (gad w 49)), (1, .int x1), (2, .int x2)] := hl
  refine lv_aload_n hx hb d_M_swapOf_0 rfl (lv_at hl 0 rfl) ?_
  refine lv_iload_n hx hb d_M_swapOf_1 rfl (lv_at hl 1 rfl) ?_
  obtain ⟨z1, hz1, h⟩ := bnd_some h
  refine g_goi hG (g_runV (As := [.int x1]) (rest := []) C hG (c_M_ownerOf l w S x1 hz1 _) (hG.lt (Nat.le_of_ble_eq_true rfl)) (ce49 w _) rfl vw_M_162 rfl rfl ⟨by decide, by decide⟩ rfl hl.1 rfl (Nat.le_of_ble_eq_true rfl) d_M_swapOf_2 ⟨Nat.zero_le _, Nat.zero_le _⟩) (fun H locs hG => ?_)
  refine lv_istore_n (lv' := [(3, .int z1), (0, .ref (gad w 49)), (1, .int x1), (2, .int x2)]) hx hb d_M_swapOf_5 rfl hl (by decide) rfl (fun ls hl => ?_)
  refine lv_aload_n hx hb d_M_swapOf_6 rfl (lv_at hl 1 rfl) ?_
  refine lv_iload_n hx hb d_M_swapOf_7 rfl (lv_at hl 3 rfl) ?_
  obtain ⟨z2, hz2, h⟩ := bnd_some h
  refine g_goi hG (g_runV (As := [.int x2]) (rest := []) C hG (c_M_ownerOf l w S x2 hz2 _) (hG.lt (Nat.le_of_ble_eq_true rfl)) (ce49 w _) rfl vw_M_162 rfl rfl ⟨by decide, by decide⟩ rfl hl.1 rfl (Nat.le_of_ble_eq_true rfl) d_M_swapOf_8 ⟨Nat.zero_le _, Nat.zero_le _⟩) (fun H locs hG => ?_)
  refine lv_istore (lv' := [(4, .int z2), (3, .int z1), (0, .ref (gad w 49)), (1, .int x1), (2, .int x2)]) hx hb d_M_swapOf_11 hl (by decide) rfl (fun ls hl => ?_)
  refine lv_iload_n hx hb d_M_swapOf_13 rfl (lv_at hl 1 rfl) ?_
  refine lv_iconst (v := (-1)) hx hb d_M_swapOf_14 (by decide) ?_
  refine lv_icmp_eq (tgt := 30) hx hb d_M_swapOf_15 (by decide) (fun hc => ?_) (fun hc => ?_)
  · replace h := it_t h hc
    refine lv_bipush (v := (-3)) hx hb d_M_swapOf_30 (by decide) ?_
    exact g_iret C hG (Option.some.inj h) rfl hQ d_M_swapOf_32
  · replace h := it_f h hc
    refine lv_iload hx hb d_M_swapOf_18 (lv_at hl 0 rfl) ?_
    refine lv_iconst (v := (-1)) hx hb d_M_swapOf_20 (by decide) ?_
    refine lv_icmp_eq (tgt := 30) hx hb d_M_swapOf_21 (by decide) (fun hc => ?_) (fun hc => ?_)
    · replace h := it_t h hc
      refine lv_bipush (v := (-3)) hx hb d_M_swapOf_30 (by decide) ?_
      exact g_iret C hG (Option.some.inj h) rfl hQ d_M_swapOf_32
    · replace h := it_f h hc
      refine lv_iload_n hx hb d_M_swapOf_24 rfl (lv_at hl 1 rfl) ?_
      refine lv_iload hx hb d_M_swapOf_25 (lv_at hl 0 rfl) ?_
      refine lv_icmp_ne (tgt := 33) hx hb d_M_swapOf_27 (by decide) (fun hc => ?_) (fun hc => ?_)
      · replace h := it_f h hc
        refine lv_aload_n hx hb d_M_swapOf_33 rfl (lv_at hl 2 rfl) ?_
        refine g_get C hG (hG.lt (Nat.le_of_ble_eq_true rfl)) (ce49 w _) rfl inC8 12 (Nat.le_of_ble_eq_true rfl) qw688 rfl d_M_swapOf_34 ?_
        refine lv_bipush (v := 10) hx hb d_M_swapOf_37 (by decide) ?_
        refine lv_iload_n hx hb d_M_swapOf_39 rfl (lv_at hl 1 rfl) ?_
        refine lv_imul hx hb d_M_swapOf_40 ?_
        refine lv_iload_n hx hb d_M_swapOf_41 rfl (lv_at hl 4 rfl) ?_
        refine lv_iadd hx hb d_M_swapOf_42 ?_
        obtain ⟨hi1, h⟩ := chk_some h
        refine g_iald (j := ix ((10 * z1) + x2)) C hG (hG.lt (Nat.le_of_ble_eq_true rfl)) (ce58 w _) (inb_in hi1) rfl d_M_swapOf_43 ?_
        refine lv_aload_n hx hb d_M_swapOf_44 rfl (lv_at hl 2 rfl) ?_
        refine g_get C hG (hG.lt (Nat.le_of_ble_eq_true rfl)) (ce49 w _) rfl inC8 12 (Nat.le_of_ble_eq_true rfl) qw688 rfl d_M_swapOf_45 ?_
        refine lv_bipush (v := 10) hx hb d_M_swapOf_48 (by decide) ?_
        refine lv_iload_n hx hb d_M_swapOf_50 rfl (lv_at hl 1 rfl) ?_
        refine lv_imul hx hb d_M_swapOf_51 ?_
        refine lv_iload_n hx hb d_M_swapOf_52 rfl (lv_at hl 3 rfl) ?_
        refine lv_iadd hx hb d_M_swapOf_53 ?_
        obtain ⟨hi2, h⟩ := chk_some h
        refine g_iald (j := ix ((10 * z1) + x1)) C hG (hG.lt (Nat.le_of_ble_eq_true rfl)) (ce58 w _) (inb_in hi2) rfl d_M_swapOf_54 ?_
        refine lv_icmp_le (tgt := 89) hx hb d_M_swapOf_55 (by decide) (fun hc => ?_) (fun hc => ?_)
        · replace h := it_t h hc
          refine lv_iconst (v := 0) hx hb d_M_swapOf_89 (by decide) ?_
          exact g_iret C hG (Option.some.inj h) rfl hQ d_M_swapOf_90
        · replace h := it_f h hc
          refine lv_aload_n hx hb d_M_swapOf_58 rfl (lv_at hl 2 rfl) ?_
          refine g_get C hG (hG.lt (Nat.le_of_ble_eq_true rfl)) (ce49 w _) rfl inC8 12 (Nat.le_of_ble_eq_true rfl) qw688 rfl d_M_swapOf_59 ?_
          refine lv_bipush (v := 10) hx hb d_M_swapOf_62 (by decide) ?_
          refine lv_iload hx hb d_M_swapOf_64 (lv_at hl 0 rfl) ?_
          refine lv_imul hx hb d_M_swapOf_66 ?_
          refine lv_iload_n hx hb d_M_swapOf_67 rfl (lv_at hl 3 rfl) ?_
          refine lv_iadd hx hb d_M_swapOf_68 ?_
          obtain ⟨hi3, h⟩ := chk_some h
          refine g_iald (j := ix ((10 * z2) + x1)) C hG (hG.lt (Nat.le_of_ble_eq_true rfl)) (ce58 w _) (inb_in hi3) rfl d_M_swapOf_69 ?_
          refine lv_aload_n hx hb d_M_swapOf_70 rfl (lv_at hl 2 rfl) ?_
          refine g_get C hG (hG.lt (Nat.le_of_ble_eq_true rfl)) (ce49 w _) rfl inC8 12 (Nat.le_of_ble_eq_true rfl) qw688 rfl d_M_swapOf_71 ?_
          refine lv_bipush (v := 10) hx hb d_M_swapOf_74 (by decide) ?_
          refine lv_iload hx hb d_M_swapOf_76 (lv_at hl 0 rfl) ?_
          refine lv_imul hx hb d_M_swapOf_78 ?_
          refine lv_iload_n hx hb d_M_swapOf_79 rfl (lv_at hl 4 rfl) ?_
          refine lv_iadd hx hb d_M_swapOf_80 ?_
          obtain ⟨hi4, h⟩ := chk_some h
          refine g_iald (j := ix ((10 * z2) + x2)) C hG (hG.lt (Nat.le_of_ble_eq_true rfl)) (ce58 w _) (inb_in hi4) rfl d_M_swapOf_81 ?_
          refine lv_icmp_le (tgt := 89) hx hb d_M_swapOf_82 (by decide) (fun hc => ?_) (fun hc => ?_)
          · replace h := it_t h hc
            refine lv_iconst (v := 0) hx hb d_M_swapOf_89 (by decide) ?_
            exact g_iret C hG (Option.some.inj h) rfl hQ d_M_swapOf_90
          · replace h := it_f h hc
            refine lv_iconst (v := 1) hx hb d_M_swapOf_85 (by decide) ?_
            refine lv_goto (tgt := 90) hx hb d_M_swapOf_86 (by decide) ?_
            exact g_iret C hG (Option.some.inj h) rfl hQ d_M_swapOf_90
      · replace h := it_t h hc
        refine lv_bipush (v := (-3)) hx hb d_M_swapOf_30 (by decide) ?_
        exact g_iret C hG (Option.some.inj h) rfl hQ d_M_swapOf_32
theorem d_M_swap_0 : decode b_M_swap 0 = .ok (.aload_n 0, 1) := by decide +kernel
theorem d_M_swap_1 : decode b_M_swap 1 = .ok (.invokevirtual 181, 3) := by decide +kernel
theorem d_M_swap_4 : decode b_M_swap 4 = .ok (.iload_n 1, 1) := by decide +kernel
theorem d_M_swap_5 : decode b_M_swap 5 = .ok (.invokestatic 152, 3) := by decide +kernel
theorem d_M_swap_8 : decode b_M_swap 8 = .ok (.ifCond .eq 24, 3) := by decide +kernel
theorem d_M_swap_11 : decode b_M_swap 11 = .ok (.iload_n 2, 1) := by decide +kernel
theorem d_M_swap_12 : decode b_M_swap 12 = .ok (.invokestatic 152, 3) := by decide +kernel
theorem d_M_swap_15 : decode b_M_swap 15 = .ok (.ifCond .eq 17, 3) := by decide +kernel
theorem d_M_swap_18 : decode b_M_swap 18 = .ok (.iload_n 1, 1) := by decide +kernel
theorem d_M_swap_19 : decode b_M_swap 19 = .ok (.iload_n 2, 1) := by decide +kernel
theorem d_M_swap_20 : decode b_M_swap 20 = .ok (.if_icmp .eq 12, 3) := by decide +kernel
theorem d_M_swap_23 : decode b_M_swap 23 = .ok (.aload_n 0, 1) := by decide +kernel
theorem d_M_swap_24 : decode b_M_swap 24 = .ok (.iload_n 1, 1) := by decide +kernel
theorem d_M_swap_25 : decode b_M_swap 25 = .ok (.iload_n 2, 1) := by decide +kernel
theorem d_M_swap_26 : decode b_M_swap 26 = .ok (.invokevirtual 268, 3) := by decide +kernel
theorem d_M_swap_29 : decode b_M_swap 29 = .ok (.goto 5, 3) := by decide +kernel
theorem d_M_swap_32 : decode b_M_swap 32 = .ok (.bipush (-2), 2) := by decide +kernel
theorem d_M_swap_34 : decode b_M_swap 34 = .ok (.ireturn, 1) := by decide +kernel
noncomputable def M_swap (S : St) (x1 : Int32) (x2 : Int32) : Option (Int32 × St) :=
  bnd (M_find S) fun z1 =>
    if (M_isEvening x1) = 0 then
      some ((-2), z1)
    else
      if (M_isEvening x2) = 0 then
        some ((-2), z1)
      else
        if x1 = x2 then
          some ((-2), z1)
        else
          bnd (M_swapOf z1 x1 x2) fun z2 =>
          some (z2, z1)
set_option maxHeartbeats 4000000 in
set_option maxRecDepth 100000 in
theorem c_M_swap (l : Launch) (w : gw) (S : St) (x1 : Int32) (x2 : Int32)  {z : Int32 × St} (h : (M_swap S x1 x2) = some z) : gMi l w y_M_swap b_M_swap 3 (some .int) (rmm 5 112) [.ref (gad w 49), .int x1, .int x2] S z.1 z.2 := by
  unfold M_swap at h
  refine g_met (Qc := gQi w z.1 z.2) (by decide +kernel) (Nat.le_of_ble_eq_true rfl) ?_
  intro p e s m args below meth c A Q ls hQ C hG hl
  have hx := C.1
  have hb := C.2.1
  have hl : lv_has ls 3 [(0, .ref (gad w 49)), (1, .int x1), (2, .int x2)] := hl
  refine lv_aload_n hx hb d_M_swap_0 rfl (lv_at hl 0 rfl) ?_
  obtain ⟨z1, hz1, h⟩ := bnd_some h
  refine g_gov hG (g_runV (As := []) (rest := []) C hG (c_M_find l w S hz1 _) (hG.lt (Nat.le_of_ble_eq_true rfl)) (ce49 w _) rfl vw_M_181 rfl rfl ⟨by decide, by decide⟩ rfl hl.1 rfl (Nat.le_of_ble_eq_true rfl) d_M_swap_1 ⟨Nat.zero_le _, Nat.zero_le _⟩) (fun H locs hG => ?_)
  refine lv_iload_n hx hb d_M_swap_4 rfl (lv_at hl 1 rfl) ?_
  refine g_goi hG (g_runS (As := [.int x1]) (rest := []) C hG (c_M_isEvening l w z1 x1 _) sw_M_152 rfl rfl ⟨by decide, by decide⟩ rfl hl.1 rfl (Nat.le_of_ble_eq_true rfl) d_M_swap_5 ⟨Nat.zero_le _, Nat.zero_le _⟩) (fun H locs hG => ?_)
  refine lv_if_eq (tgt := 32) hx hb d_M_swap_8 (by decide) (fun hc => ?_) (fun hc => ?_)
  · replace h := it_t h hc
    refine lv_bipush (v := (-2)) hx hb d_M_swap_32 (by decide) ?_
    exact g_iret C hG (sm_fst h) (sm_snd h) hQ d_M_swap_34
  · replace h := it_f h hc
    refine lv_iload_n hx hb d_M_swap_11 rfl (lv_at hl 2 rfl) ?_
    refine g_goi hG (g_runS (As := [.int x2]) (rest := []) C hG (c_M_isEvening l w z1 x2 _) sw_M_152 rfl rfl ⟨by decide, by decide⟩ rfl hl.1 rfl (Nat.le_of_ble_eq_true rfl) d_M_swap_12 ⟨Nat.zero_le _, Nat.zero_le _⟩) (fun H locs hG => ?_)
    refine lv_if_eq (tgt := 32) hx hb d_M_swap_15 (by decide) (fun hc => ?_) (fun hc => ?_)
    · replace h := it_t h hc
      refine lv_bipush (v := (-2)) hx hb d_M_swap_32 (by decide) ?_
      exact g_iret C hG (sm_fst h) (sm_snd h) hQ d_M_swap_34
    · replace h := it_f h hc
      refine lv_iload_n hx hb d_M_swap_18 rfl (lv_at hl 1 rfl) ?_
      refine lv_iload_n hx hb d_M_swap_19 rfl (lv_at hl 2 rfl) ?_
      refine lv_icmp_eq (tgt := 32) hx hb d_M_swap_20 (by decide) (fun hc => ?_) (fun hc => ?_)
      · replace h := it_t h hc
        refine lv_bipush (v := (-2)) hx hb d_M_swap_32 (by decide) ?_
        exact g_iret C hG (sm_fst h) (sm_snd h) hQ d_M_swap_34
      · replace h := it_f h hc
        refine lv_aload_n hx hb d_M_swap_23 rfl (lv_at hl 0 rfl) ?_
        refine lv_iload_n hx hb d_M_swap_24 rfl (lv_at hl 1 rfl) ?_
        refine lv_iload_n hx hb d_M_swap_25 rfl (lv_at hl 2 rfl) ?_
        obtain ⟨z2, hz2, h⟩ := bnd_some h
        refine g_goi hG (g_runV (As := [.int x1, .int x2]) (rest := []) C hG (c_M_swapOf l w z1 x1 x2 hz2 _) (hG.lt (Nat.le_of_ble_eq_true rfl)) (ce49 w _) rfl vw_M_268 rfl rfl ⟨by decide, by decide⟩ rfl hl.1 rfl (Nat.le_of_ble_eq_true rfl) d_M_swap_26 ⟨Nat.zero_le _, Nat.zero_le _⟩) (fun H locs hG => ?_)
        refine lv_goto (tgt := 34) hx hb d_M_swap_29 (by decide) ?_
        exact g_iret C hG (sm_fst h) (sm_snd h) hQ d_M_swap_34
theorem d_M_write_0 : decode b_M_write 0 = .ok (.iload_n 1, 1) := by decide +kernel
theorem d_M_write_1 : decode b_M_write 1 = .ok (.invokestatic 92, 3) := by decide +kernel
theorem d_M_write_4 : decode b_M_write 4 = .ok (.ifCond .ne 6, 3) := by decide +kernel
theorem d_M_write_7 : decode b_M_write 7 = .ok (.bipush (-2), 2) := by decide +kernel
theorem d_M_write_9 : decode b_M_write 9 = .ok (.ireturn, 1) := by decide +kernel
theorem d_M_write_10 : decode b_M_write 10 = .ok (.aload_n 0, 1) := by decide +kernel
theorem d_M_write_11 : decode b_M_write 11 = .ok (.getfield 7, 3) := by decide +kernel
theorem d_M_write_14 : decode b_M_write 14 = .ok (.iload_n 1, 1) := by decide +kernel
theorem d_M_write_15 : decode b_M_write 15 = .ok (.iaload, 1) := by decide +kernel
theorem d_M_write_16 : decode b_M_write 16 = .ok (.ifCond .ge 9, 3) := by decide +kernel
theorem d_M_write_19 : decode b_M_write 19 = .ok (.aload_n 0, 1) := by decide +kernel
theorem d_M_write_20 : decode b_M_write 20 = .ok (.iconst 1, 1) := by decide +kernel
theorem d_M_write_21 : decode b_M_write 21 = .ok (.invokevirtual 98, 3) := by decide +kernel
theorem d_M_write_24 : decode b_M_write 24 = .ok (.ireturn, 1) := by decide +kernel
theorem d_M_write_25 : decode b_M_write 25 = .ok (.aload_n 0, 1) := by decide +kernel
theorem d_M_write_26 : decode b_M_write 26 = .ok (.invokevirtual 181, 3) := by decide +kernel
theorem d_M_write_29 : decode b_M_write 29 = .ok (.aload_n 0, 1) := by decide +kernel
theorem d_M_write_30 : decode b_M_write 30 = .ok (.getfield 13, 3) := by decide +kernel
theorem d_M_write_33 : decode b_M_write 33 = .ok (.iload_n 1, 1) := by decide +kernel
theorem d_M_write_34 : decode b_M_write 34 = .ok (.iaload, 1) := by decide +kernel
theorem d_M_write_35 : decode b_M_write 35 = .ok (.bipush 10, 2) := by decide +kernel
theorem d_M_write_37 : decode b_M_write 37 = .ok (.if_icmp .ge 12, 3) := by decide +kernel
theorem d_M_write_40 : decode b_M_write 40 = .ok (.aload_n 0, 1) := by decide +kernel
theorem d_M_write_41 : decode b_M_write 41 = .ok (.getfield 13, 3) := by decide +kernel
theorem d_M_write_44 : decode b_M_write 44 = .ok (.iload_n 1, 1) := by decide +kernel
theorem d_M_write_45 : decode b_M_write 45 = .ok (.iaload, 1) := by decide +kernel
theorem d_M_write_46 : decode b_M_write 46 = .ok (.goto 5, 3) := by decide +kernel
theorem d_M_write_49 : decode b_M_write 49 = .ok (.bipush 10, 2) := by decide +kernel
theorem d_M_write_51 : decode b_M_write 51 = .ok (.istore_n 2, 1) := by decide +kernel
theorem d_M_write_52 : decode b_M_write 52 = .ok (.iconst 0, 1) := by decide +kernel
theorem d_M_write_53 : decode b_M_write 53 = .ok (.istore_n 3, 1) := by decide +kernel
theorem d_M_write_54 : decode b_M_write 54 = .ok (.iload_n 3, 1) := by decide +kernel
theorem d_M_write_55 : decode b_M_write 55 = .ok (.iload_n 2, 1) := by decide +kernel
theorem d_M_write_56 : decode b_M_write 56 = .ok (.if_icmp .ge 34, 3) := by decide +kernel
theorem d_M_write_59 : decode b_M_write 59 = .ok (.aload_n 0, 1) := by decide +kernel
theorem d_M_write_60 : decode b_M_write 60 = .ok (.getfield 16, 3) := by decide +kernel
theorem d_M_write_63 : decode b_M_write 63 = .ok (.bipush 60, 2) := by decide +kernel
theorem d_M_write_65 : decode b_M_write 65 = .ok (.iload_n 1, 1) := by decide +kernel
theorem d_M_write_66 : decode b_M_write 66 = .ok (.imul, 1) := by decide +kernel
theorem d_M_write_67 : decode b_M_write 67 = .ok (.iload_n 3, 1) := by decide +kernel
theorem d_M_write_68 : decode b_M_write 68 = .ok (.iadd, 1) := by decide +kernel
theorem d_M_write_69 : decode b_M_write 69 = .ok (.aload_n 0, 1) := by decide +kernel
theorem d_M_write_70 : decode b_M_write 70 = .ok (.getfield 7, 3) := by decide +kernel
theorem d_M_write_73 : decode b_M_write 73 = .ok (.iload_n 1, 1) := by decide +kernel
theorem d_M_write_74 : decode b_M_write 74 = .ok (.iaload, 1) := by decide +kernel
theorem d_M_write_75 : decode b_M_write 75 = .ok (.aload_n 0, 1) := by decide +kernel
theorem d_M_write_76 : decode b_M_write 76 = .ok (.iload_n 3, 1) := by decide +kernel
theorem d_M_write_77 : decode b_M_write 77 = .ok (.invokevirtual 162, 3) := by decide +kernel
theorem d_M_write_80 : decode b_M_write 80 = .ok (.invokestatic 106, 3) := by decide +kernel
theorem d_M_write_83 : decode b_M_write 83 = .ok (.iastore, 1) := by decide +kernel
theorem d_M_write_84 : decode b_M_write 84 = .ok (.iinc 3 1, 3) := by decide +kernel
theorem d_M_write_87 : decode b_M_write 87 = .ok (.goto (-33), 3) := by decide +kernel
theorem d_M_write_90 : decode b_M_write 90 = .ok (.iload_n 2, 1) := by decide +kernel
theorem d_M_write_91 : decode b_M_write 91 = .ok (.ireturn, 1) := by decide +kernel
noncomputable def M_write_L54 (S : St) (x1 : Int32) (x2 : Int32) (x3 : Int32) : Option ((Int32 × St) × Nat) :=
  if x2 ≤ x3 then
      some ((x3, S), 1)
    else
      chk (inb x1 4) <|
      bnd (M_ownerOf S x3) fun z1 =>
      chk (inb ((60 * x1) + x3) 240) <|
      some ((x3 + 1, up S 52 (ix ((60 * x1) + x3)) (M_cut (S 50 (ix x1)) z1)), 0)
noncomputable def M_write_J90 (S : St) (x2 : Int32) : Option (Int32 × St) :=
  some (x2, S)
noncomputable def M_write_J51 (S : St) (x1 : Int32) (t0 : Int32) : Option (Int32 × St) :=
  bnd (lp (σ := Int32 × St) (fun q => M_write_L54 q.2 x1 t0 q.1) FZ (0, S)) fun z2 =>
    M_write_J90 z2.1.2 t0
noncomputable def M_write (S : St) (x1 : Int32) : Option (Int32 × St) :=
  if (M_isSheet x1) = 0 then
      some ((-2), S)
    else
      chk (inb x1 4) <|
      if 0 ≤ (S 50 (ix x1)) then
        bnd (M_find S) fun z3 =>
        chk (inb x1 4) <|
        if 10 ≤ (z3 51 (ix x1)) then
          M_write_J51 z3 x1 10
        else
          chk (inb x1 4) <|
          M_write_J51 z3 x1 (z3 51 (ix x1))
      else
        bnd (M_met S 1) fun z4 =>
        some (z4.1, z4.2)
set_option maxHeartbeats 4000000 in
set_option maxRecDepth 100000 in
theorem L_M_write_54 (C : gCx p s m args meth c y_M_write.cls b_M_write 4 (some .int)) : ∀ (x1 : Int32) (x2 : Int32) (n : Nat) (x3 : Int32) (S : St) (r : (Int32 × St) × Nat), lp (σ := Int32 × St) (fun q => M_write_L54 q.2 x1 x2 q.1) n (x3, S) = some r → (∀ (y3 : Int32) (Sy : St), r = ((y3, Sy), 1) → ∀ (ls : Array Slot) (H : Heap) (locs : List Loc), GH w s A Sy H locs → lv_has ls 4 [(2, .int x2)] → W p l e (rmm 5 112) s m args below meth c H locs 0 0 Q (F0 m 90 ls [])) → ∀ (ls : Array Slot) (H : Heap) (locs : List Loc), GH w s A S H locs → lv_has ls 4 [(0, .ref (gad w 49)), (1, .int x1), (2, .int x2), (3, .int x3)] → W p l e (rmm 5 112) s m args below meth c H locs 0 0 Q (F0 m 54 ls []) := by
  have hx := C.1
  have hb := C.2.1
  intro x1 x2 n
  induction n with
  | zero => intro x3 S r h; cases h
  | succ n ih =>
    intro x3 S r h k1 ls H locs hG hl
    obtain ⟨z, h, hr⟩ := lp_succ h
    have h : M_write_L54 S x1 x2 x3 = some z := h
    unfold M_write_L54 at h
    refine lv_iload_n hx hb d_M_write_54 rfl (lv_at hl 3 rfl) ?_
    refine lv_iload_n hx hb d_M_write_55 rfl (lv_at hl 2 rfl) ?_
    refine lv_icmp_ge (tgt := 90) hx hb d_M_write_56 (by decide) (fun hc => ?_) (fun hc => ?_)
    · replace h := it_t h hc
      exact k1 _ _ (lp_exit h hr) ls _ _ hG (lv_sub hl [2] rfl)
    · replace h := it_f h hc
      refine lv_aload_n hx hb d_M_write_59 rfl (lv_at hl 0 rfl) ?_
      refine g_get C hG (hG.lt (Nat.le_of_ble_eq_true rfl)) (ce49 w _) rfl inC8 2 (Nat.le_of_ble_eq_true rfl) qw678 rfl d_M_write_60 ?_
      refine lv_bipush (v := 60) hx hb d_M_write_63 (by decide) ?_
      refine lv_iload_n hx hb d_M_write_65 rfl (lv_at hl 1 rfl) ?_
      refine lv_imul hx hb d_M_write_66 ?_
      refine lv_iload_n hx hb d_M_write_67 rfl (lv_at hl 3 rfl) ?_
      refine lv_iadd hx hb d_M_write_68 ?_
      refine lv_aload_n hx hb d_M_write_69 rfl (lv_at hl 0 rfl) ?_
      refine g_get C hG (hG.lt (Nat.le_of_ble_eq_true rfl)) (ce49 w _) rfl inC8 0 (Nat.le_of_ble_eq_true rfl) qw676 rfl d_M_write_70 ?_
      refine lv_iload_n hx hb d_M_write_73 rfl (lv_at hl 1 rfl) ?_
      obtain ⟨hi1, h⟩ := chk_some h
      refine g_iald (j := ix x1) C hG (hG.lt (Nat.le_of_ble_eq_true rfl)) (ce50 w _) (inb_in hi1) rfl d_M_write_74 ?_
      refine lv_aload_n hx hb d_M_write_75 rfl (lv_at hl 0 rfl) ?_
      refine lv_iload_n hx hb d_M_write_76 rfl (lv_at hl 3 rfl) ?_
      obtain ⟨z1, hz1, h⟩ := bnd_some h
      refine g_goi hG (g_runV (As := [.int x3]) (rest := [.int (S 50 (ix x1)), .int ((60 * x1) + x3), .ref (gad w 52)]) C hG (c_M_ownerOf l w S x3 hz1 _) (hG.lt (Nat.le_of_ble_eq_true rfl)) (ce49 w _) rfl vw_M_162 rfl rfl ⟨by decide, by decide⟩ rfl hl.1 rfl (Nat.le_of_ble_eq_true rfl) d_M_write_77 ⟨Nat.zero_le _, Nat.zero_le _⟩) (fun H locs hG => ?_)
      refine g_goi hG (g_runS (As := [.int (S 50 (ix x1)), .int z1]) (rest := [.int ((60 * x1) + x3), .ref (gad w 52)]) C hG (c_M_cut l w S (S 50 (ix x1)) z1 _) sw_M_106 rfl rfl ⟨by decide, by decide⟩ rfl hl.1 rfl (Nat.le_of_ble_eq_true rfl) d_M_write_80 ⟨Nat.zero_le _, Nat.zero_le _⟩) (fun H locs hG => ?_)
      obtain ⟨hi2, h⟩ := chk_some h
      refine g_iast (j := ix ((60 * x1) + x3)) (x := M_cut (S 50 (ix x1)) z1) C hG (hG.lt (Nat.le_of_ble_eq_true rfl)) (ce52 w) (inb_in hi2) rfl d_M_write_83 (fun H locs hG => ?_)
      refine lv_iinc (v := x3 + 1) (lv' := [(3, .int (x3 + 1)), (0, .ref (gad w 49)), (1, .int x1), (2, .int x2)]) hx hb d_M_write_84 hl (k := 3) rfl (congrArg (HAdd.hAdd x3) (by decide : Int32.ofInt 1 = 1)) (by decide) rfl (fun ls hl => ?_)
      refine lv_goto (tgt := 54) hx hb d_M_write_87 (by decide) ?_
      exact ih _ _ _ (lp_back h hr) k1 ls _ _ hG (lv_sub hl [1, 2, 3, 0] rfl)
set_option maxHeartbeats 4000000 in
set_option maxRecDepth 100000 in
theorem c_M_write (l : Launch) (w : gw) (S : St) (x1 : Int32)  {z : Int32 × St} (h : (M_write S x1) = some z) : gMi l w y_M_write b_M_write 4 (some .int) (rmm 5 112) [.ref (gad w 49), .int x1] S z.1 z.2 := by
  unfold M_write at h
  refine g_met (Qc := gQi w z.1 z.2) (by decide +kernel) (Nat.le_of_ble_eq_true rfl) ?_
  intro p e s m args below meth c A Q ls hQ C hG hl
  have hx := C.1
  have hb := C.2.1
  have hl : lv_has ls 4 [(0, .ref (gad w 49)), (1, .int x1)] := hl
  have J90 : ∀ (S : St) (x2 : Int32), M_write_J90 S x2 = some z → ∀ (ls : Array Slot) (H : Heap) (locs : List Loc), GH w s A S H locs → lv_has ls 4 [(2, .int x2)] → W p l e (rmm 5 112) s m args below meth c H locs 0 0 Q (F0 m 90 ls []) := by
    intro S x2 h ls H locs hG hl
    unfold M_write_J90 at h
    refine lv_iload_n hx hb d_M_write_90 rfl (lv_at hl 0 rfl) ?_
    exact g_iret C hG (sm_fst h) (sm_snd h) hQ d_M_write_91
  have J51 : ∀ (S : St) (t0 : Int32), M_write_J51 S x1 t0 = some z → ∀ (ls : Array Slot) (H : Heap) (locs : List Loc), GH w s A S H locs → lv_has ls 4 [(0, .ref (gad w 49)), (1, .int x1)] → W p l e (rmm 5 112) s m args below meth c H locs 0 0 Q (F0 m 51 ls [.int t0]) := by
    intro S t0 h ls H locs hG hl
    unfold M_write_J51 at h
    refine lv_istore_n (lv' := [(2, .int t0), (0, .ref (gad w 49)), (1, .int x1)]) hx hb d_M_write_51 rfl hl (by decide) rfl (fun ls hl => ?_)
    refine lv_iconst (v := 0) hx hb d_M_write_52 (by decide) ?_
    refine lv_istore_n (lv' := [(3, .int 0), (2, .int t0), (0, .ref (gad w 49)), (1, .int x1)]) hx hb d_M_write_53 rfl hl (by decide) rfl (fun ls hl => ?_)
    obtain ⟨z2, hz2, h⟩ := bnd_some h
    refine L_M_write_54 C _ _ FZ _ _ _ hz2 ?_ ls _ _ hG (lv_sub hl [2, 3, 1, 0] rfl)
    intro y3 Sy e9 ls H locs hG hl
    subst e9
    exact J90 _ _ h ls _ _ hG (lv_sub hl [0] rfl)
  refine lv_iload_n hx hb d_M_write_0 rfl (lv_at hl 1 rfl) ?_
  refine g_goi hG (g_runS (As := [.int x1]) (rest := []) C hG (c_M_isSheet l w S x1 _) sw_M_92 rfl rfl ⟨by decide, by decide⟩ rfl hl.1 rfl (Nat.le_of_ble_eq_true rfl) d_M_write_1 ⟨Nat.zero_le _, Nat.zero_le _⟩) (fun H locs hG => ?_)
  refine lv_if_ne (tgt := 10) hx hb d_M_write_4 (by decide) (fun hc => ?_) (fun hc => ?_)
  · replace h := it_f h hc
    refine lv_aload_n hx hb d_M_write_10 rfl (lv_at hl 0 rfl) ?_
    refine g_get C hG (hG.lt (Nat.le_of_ble_eq_true rfl)) (ce49 w _) rfl inC8 0 (Nat.le_of_ble_eq_true rfl) qw676 rfl d_M_write_11 ?_
    refine lv_iload_n hx hb d_M_write_14 rfl (lv_at hl 1 rfl) ?_
    obtain ⟨hi3, h⟩ := chk_some h
    refine g_iald (j := ix x1) C hG (hG.lt (Nat.le_of_ble_eq_true rfl)) (ce50 w _) (inb_in hi3) rfl d_M_write_15 ?_
    refine lv_if_ge (tgt := 25) hx hb d_M_write_16 (by decide) (fun hc => ?_) (fun hc => ?_)
    · replace h := it_t h hc
      refine lv_aload_n hx hb d_M_write_25 rfl (lv_at hl 0 rfl) ?_
      obtain ⟨z3, hz3, h⟩ := bnd_some h
      refine g_gov hG (g_runV (As := []) (rest := []) C hG (c_M_find l w S hz3 _) (hG.lt (Nat.le_of_ble_eq_true rfl)) (ce49 w _) rfl vw_M_181 rfl rfl ⟨by decide, by decide⟩ rfl hl.1 rfl (Nat.le_of_ble_eq_true rfl) d_M_write_26 ⟨Nat.zero_le _, Nat.zero_le _⟩) (fun H locs hG => ?_)
      refine lv_aload_n hx hb d_M_write_29 rfl (lv_at hl 0 rfl) ?_
      refine g_get C hG (hG.lt (Nat.le_of_ble_eq_true rfl)) (ce49 w _) rfl inC8 1 (Nat.le_of_ble_eq_true rfl) qw677 rfl d_M_write_30 ?_
      refine lv_iload_n hx hb d_M_write_33 rfl (lv_at hl 1 rfl) ?_
      obtain ⟨hi4, h⟩ := chk_some h
      refine g_iald (j := ix x1) C hG (hG.lt (Nat.le_of_ble_eq_true rfl)) (ce51 w _) (inb_in hi4) rfl d_M_write_34 ?_
      refine lv_bipush (v := 10) hx hb d_M_write_35 (by decide) ?_
      refine lv_icmp_ge (tgt := 49) hx hb d_M_write_37 (by decide) (fun hc => ?_) (fun hc => ?_)
      · replace h := it_t h hc
        refine lv_bipush (v := 10) hx hb d_M_write_49 (by decide) ?_
        exact J51 _ _ h ls _ _ hG (lv_sub hl [0, 1] rfl)
      · replace h := it_f h hc
        refine lv_aload_n hx hb d_M_write_40 rfl (lv_at hl 0 rfl) ?_
        refine g_get C hG (hG.lt (Nat.le_of_ble_eq_true rfl)) (ce49 w _) rfl inC8 1 (Nat.le_of_ble_eq_true rfl) qw677 rfl d_M_write_41 ?_
        refine lv_iload_n hx hb d_M_write_44 rfl (lv_at hl 1 rfl) ?_
        obtain ⟨hi5, h⟩ := chk_some h
        refine g_iald (j := ix x1) C hG (hG.lt (Nat.le_of_ble_eq_true rfl)) (ce51 w _) (inb_in hi5) rfl d_M_write_45 ?_
        refine lv_goto (tgt := 51) hx hb d_M_write_46 (by decide) ?_
        exact J51 _ _ h ls _ _ hG (lv_sub hl [0, 1] rfl)
    · replace h := it_f h hc
      refine lv_aload_n hx hb d_M_write_19 rfl (lv_at hl 0 rfl) ?_
      refine lv_iconst (v := 1) hx hb d_M_write_20 (by decide) ?_
      obtain ⟨z4, hz4, h⟩ := bnd_some h
      refine g_goi hG (g_runV (As := [.int 1]) (rest := []) C hG (c_M_met l w S 1 hz4 _) (hG.lt (Nat.le_of_ble_eq_true rfl)) (ce49 w _) rfl vw_M_98 rfl rfl ⟨by decide, by decide⟩ rfl hl.1 rfl (Nat.le_of_ble_eq_true rfl) d_M_write_21 ⟨Nat.zero_le _, Nat.zero_le _⟩) (fun H locs hG => ?_)
      exact g_iret C hG (sm_fst h) (sm_snd h) hQ d_M_write_24
  · replace h := it_t h hc
    refine lv_bipush (v := (-2)) hx hb d_M_write_7 (by decide) ?_
    exact g_iret C hG (sm_fst h) (sm_snd h) hQ d_M_write_9
theorem d_M_count_0 : decode b_M_count 0 = .ok (.iconst 0, 1) := by decide +kernel
theorem d_M_count_1 : decode b_M_count 1 = .ok (.istore_n 2, 1) := by decide +kernel
theorem d_M_count_2 : decode b_M_count 2 = .ok (.aload_n 0, 1) := by decide +kernel
theorem d_M_count_3 : decode b_M_count 3 = .ok (.invokevirtual 181, 3) := by decide +kernel
theorem d_M_count_6 : decode b_M_count 6 = .ok (.iload_n 1, 1) := by decide +kernel
theorem d_M_count_7 : decode b_M_count 7 = .ok (.tableswitch 186 0 8 #[49, 54, 59, 94, 128, 166, 171, 171, 181], 49) := by decide +kernel
theorem d_M_count_56 : decode b_M_count 56 = .ok (.aload_n 0, 1) := by decide +kernel
theorem d_M_count_57 : decode b_M_count 57 = .ok (.getfield 119, 3) := by decide +kernel
theorem d_M_count_60 : decode b_M_count 60 = .ok (.ireturn, 1) := by decide +kernel
theorem d_M_count_61 : decode b_M_count 61 = .ok (.aload_n 0, 1) := by decide +kernel
theorem d_M_count_62 : decode b_M_count 62 = .ok (.getfield 113, 3) := by decide +kernel
theorem d_M_count_65 : decode b_M_count 65 = .ok (.ireturn, 1) := by decide +kernel
theorem d_M_count_66 : decode b_M_count 66 = .ok (.iconst 0, 1) := by decide +kernel
theorem d_M_count_67 : decode b_M_count 67 = .ok (.istore_n 3, 1) := by decide +kernel
theorem d_M_count_68 : decode b_M_count 68 = .ok (.iload_n 3, 1) := by decide +kernel
theorem d_M_count_69 : decode b_M_count 69 = .ok (.aload_n 0, 1) := by decide +kernel
theorem d_M_count_70 : decode b_M_count 70 = .ok (.getfield 119, 3) := by decide +kernel
theorem d_M_count_73 : decode b_M_count 73 = .ok (.if_icmp .ge 26, 3) := by decide +kernel
theorem d_M_count_76 : decode b_M_count 76 = .ok (.iload_n 2, 1) := by decide +kernel
theorem d_M_count_77 : decode b_M_count 77 = .ok (.aload_n 0, 1) := by decide +kernel
theorem d_M_count_78 : decode b_M_count 78 = .ok (.getfield 55, 3) := by decide +kernel
theorem d_M_count_81 : decode b_M_count 81 = .ok (.iload_n 3, 1) := by decide +kernel
theorem d_M_count_82 : decode b_M_count 82 = .ok (.baload, 1) := by decide +kernel
theorem d_M_count_83 : decode b_M_count 83 = .ok (.ifCond .eq 7, 3) := by decide +kernel
theorem d_M_count_86 : decode b_M_count 86 = .ok (.iconst 1, 1) := by decide +kernel
theorem d_M_count_87 : decode b_M_count 87 = .ok (.goto 4, 3) := by decide +kernel
theorem d_M_count_90 : decode b_M_count 90 = .ok (.iconst 0, 1) := by decide +kernel
theorem d_M_count_91 : decode b_M_count 91 = .ok (.iadd, 1) := by decide +kernel
theorem d_M_count_92 : decode b_M_count 92 = .ok (.istore_n 2, 1) := by decide +kernel
theorem d_M_count_93 : decode b_M_count 93 = .ok (.iinc 3 1, 3) := by decide +kernel
theorem d_M_count_96 : decode b_M_count 96 = .ok (.goto (-28), 3) := by decide +kernel
theorem d_M_count_99 : decode b_M_count 99 = .ok (.iload_n 2, 1) := by decide +kernel
theorem d_M_count_100 : decode b_M_count 100 = .ok (.ireturn, 1) := by decide +kernel
theorem d_M_count_101 : decode b_M_count 101 = .ok (.iconst 0, 1) := by decide +kernel
theorem d_M_count_102 : decode b_M_count 102 = .ok (.istore_n 3, 1) := by decide +kernel
theorem d_M_count_103 : decode b_M_count 103 = .ok (.iload_n 3, 1) := by decide +kernel
theorem d_M_count_104 : decode b_M_count 104 = .ok (.bipush 10, 2) := by decide +kernel
theorem d_M_count_106 : decode b_M_count 106 = .ok (.if_icmp .ge 27, 3) := by decide +kernel
theorem d_M_count_109 : decode b_M_count 109 = .ok (.iload_n 2, 1) := by decide +kernel
theorem d_M_count_110 : decode b_M_count 110 = .ok (.aload_n 0, 1) := by decide +kernel
theorem d_M_count_111 : decode b_M_count 111 = .ok (.getfield 52, 3) := by decide +kernel
theorem d_M_count_114 : decode b_M_count 114 = .ok (.iload_n 3, 1) := by decide +kernel
theorem d_M_count_115 : decode b_M_count 115 = .ok (.iaload, 1) := by decide +kernel
theorem d_M_count_116 : decode b_M_count 116 = .ok (.iconst (-1), 1) := by decide +kernel
theorem d_M_count_117 : decode b_M_count 117 = .ok (.if_icmp .ne 7, 3) := by decide +kernel
theorem d_M_count_120 : decode b_M_count 120 = .ok (.iconst 0, 1) := by decide +kernel
theorem d_M_count_121 : decode b_M_count 121 = .ok (.goto 4, 3) := by decide +kernel
theorem d_M_count_124 : decode b_M_count 124 = .ok (.iconst 1, 1) := by decide +kernel
theorem d_M_count_125 : decode b_M_count 125 = .ok (.iadd, 1) := by decide +kernel
theorem d_M_count_126 : decode b_M_count 126 = .ok (.istore_n 2, 1) := by decide +kernel
theorem d_M_count_127 : decode b_M_count 127 = .ok (.iinc 3 1, 3) := by decide +kernel
theorem d_M_count_130 : decode b_M_count 130 = .ok (.goto (-27), 3) := by decide +kernel
theorem d_M_count_133 : decode b_M_count 133 = .ok (.iload_n 2, 1) := by decide +kernel
theorem d_M_count_134 : decode b_M_count 134 = .ok (.ireturn, 1) := by decide +kernel
theorem d_M_count_135 : decode b_M_count 135 = .ok (.iconst 0, 1) := by decide +kernel
theorem d_M_count_136 : decode b_M_count 136 = .ok (.istore_n 3, 1) := by decide +kernel
theorem d_M_count_137 : decode b_M_count 137 = .ok (.iload_n 3, 1) := by decide +kernel
theorem d_M_count_138 : decode b_M_count 138 = .ok (.bipush 10, 2) := by decide +kernel
theorem d_M_count_140 : decode b_M_count 140 = .ok (.if_icmp .ge 31, 3) := by decide +kernel
theorem d_M_count_143 : decode b_M_count 143 = .ok (.iload_n 2, 1) := by decide +kernel
theorem d_M_count_144 : decode b_M_count 144 = .ok (.aload_n 0, 1) := by decide +kernel
theorem d_M_count_145 : decode b_M_count 145 = .ok (.getfield 52, 3) := by decide +kernel
theorem d_M_count_148 : decode b_M_count 148 = .ok (.iload_n 3, 1) := by decide +kernel
theorem d_M_count_149 : decode b_M_count 149 = .ok (.iaload, 1) := by decide +kernel
theorem d_M_count_150 : decode b_M_count 150 = .ok (.iconst (-1), 1) := by decide +kernel
theorem d_M_count_151 : decode b_M_count 151 = .ok (.if_icmp .ne 7, 3) := by decide +kernel
theorem d_M_count_154 : decode b_M_count 154 = .ok (.iconst 0, 1) := by decide +kernel
theorem d_M_count_155 : decode b_M_count 155 = .ok (.goto 8, 3) := by decide +kernel
theorem d_M_count_158 : decode b_M_count 158 = .ok (.aload_n 0, 1) := by decide +kernel
theorem d_M_count_159 : decode b_M_count 159 = .ok (.iload_n 3, 1) := by decide +kernel
theorem d_M_count_160 : decode b_M_count 160 = .ok (.invokevirtual 184, 3) := by decide +kernel
theorem d_M_count_163 : decode b_M_count 163 = .ok (.iadd, 1) := by decide +kernel
theorem d_M_count_164 : decode b_M_count 164 = .ok (.istore_n 2, 1) := by decide +kernel
theorem d_M_count_165 : decode b_M_count 165 = .ok (.iinc 3 1, 3) := by decide +kernel
theorem d_M_count_168 : decode b_M_count 168 = .ok (.goto (-31), 3) := by decide +kernel
theorem d_M_count_171 : decode b_M_count 171 = .ok (.iload_n 2, 1) := by decide +kernel
theorem d_M_count_172 : decode b_M_count 172 = .ok (.ireturn, 1) := by decide +kernel
theorem d_M_count_173 : decode b_M_count 173 = .ok (.aload_n 0, 1) := by decide +kernel
theorem d_M_count_174 : decode b_M_count 174 = .ok (.getfield 252, 3) := by decide +kernel
theorem d_M_count_177 : decode b_M_count 177 = .ok (.ireturn, 1) := by decide +kernel
theorem d_M_count_178 : decode b_M_count 178 = .ok (.aload_n 0, 1) := by decide +kernel
theorem d_M_count_179 : decode b_M_count 179 = .ok (.getfield 46, 3) := by decide +kernel
theorem d_M_count_182 : decode b_M_count 182 = .ok (.iload_n 1, 1) := by decide +kernel
theorem d_M_count_183 : decode b_M_count 183 = .ok (.bipush 6, 2) := by decide +kernel
theorem d_M_count_185 : decode b_M_count 185 = .ok (.isub, 1) := by decide +kernel
theorem d_M_count_186 : decode b_M_count 186 = .ok (.iaload, 1) := by decide +kernel
theorem d_M_count_187 : decode b_M_count 187 = .ok (.ireturn, 1) := by decide +kernel
theorem d_M_count_188 : decode b_M_count 188 = .ok (.aload_n 0, 1) := by decide +kernel
theorem d_M_count_189 : decode b_M_count 189 = .ok (.getfield 86, 3) := by decide +kernel
theorem d_M_count_192 : decode b_M_count 192 = .ok (.ireturn, 1) := by decide +kernel
theorem d_M_count_193 : decode b_M_count 193 = .ok (.bipush (-2), 2) := by decide +kernel
theorem d_M_count_195 : decode b_M_count 195 = .ok (.ireturn, 1) := by decide +kernel
noncomputable def M_count_L137 (S : St) (x2 : Int32) (x3 : Int32) : Option ((Int32 × Int32) × Nat) :=
  if 10 ≤ x3 then
      some ((x2, x3), 1)
    else
      chk (inb x3 10) <|
      if (S 64 (ix x3)) = (-1) then
        some ((x2 + 0, x3 + 1), 0)
      else
        bnd (M_priceOf S x3) fun z1 =>
        some ((x2 + z1, x3 + 1), 0)
noncomputable def M_count_L103 (S : St) (x2 : Int32) (x3 : Int32) : Option ((Int32 × Int32) × Nat) :=
  if 10 ≤ x3 then
      some ((x2, x3), 1)
    else
      chk (inb x3 10) <|
      if (S 64 (ix x3)) = (-1) then
        some ((x2 + 0, x3 + 1), 0)
      else
        some ((x2 + 1, x3 + 1), 0)
noncomputable def M_count_L68 (S : St) (x2 : Int32) (x3 : Int32) : Option ((Int32 × Int32) × Nat) :=
  if (S 49 8) ≤ x3 then
      some ((x2, x3), 1)
    else
      chk (inb x3 20) <|
      if (S 65 (ix x3)) = 0 then
        some ((x2 + 0, x3 + 1), 0)
      else
        some ((x2 + 1, x3 + 1), 0)
noncomputable def M_count_J99 (S : St) (x2 : Int32) : Option (Int32 × St) :=
  some (x2, S)
noncomputable def M_count_J133 (S : St) (x2 : Int32) : Option (Int32 × St) :=
  some (x2, S)
noncomputable def M_count_J171 (S : St) (x2 : Int32) : Option (Int32 × St) :=
  some (x2, S)
noncomputable def M_count (S : St) (x1 : Int32) : Option (Int32 × St) :=
  bnd (M_find S) fun z2 =>
    if x1 = 0 then
      some (z2 49 8, z2)
    else if x1 = 1 then
      some (z2 49 6, z2)
    else if x1 = 2 then
      bnd (lp (σ := Int32 × Int32) (fun q => M_count_L68 z2 q.1 q.2) FZ (0, 0)) fun z3 =>
      M_count_J99 z2 z3.1.1
    else if x1 = 3 then
      bnd (lp (σ := Int32 × Int32) (fun q => M_count_L103 z2 q.1 q.2) FZ (0, 0)) fun z4 =>
      M_count_J133 z2 z4.1.1
    else if x1 = 4 then
      bnd (lp (σ := Int32 × Int32) (fun q => M_count_L137 z2 q.1 q.2) FZ (0, 0)) fun z5 =>
      M_count_J171 z2 z5.1.1
    else if x1 = 5 then
      some (z2 49 22, z2)
    else if x1 = 6 then
      chk (inb (x1 - 6) 3) <|
      some (z2 62 (ix (x1 - 6)), z2)
    else if x1 = 7 then
      chk (inb (x1 - 6) 3) <|
      some (z2 62 (ix (x1 - 6)), z2)
    else if x1 = 8 then
      some (z2 49 4, z2)
    else some ((-2), z2)
set_option maxHeartbeats 4000000 in
set_option maxRecDepth 100000 in
theorem L_M_count_137 (C : gCx p s m args meth c y_M_count.cls b_M_count 4 (some .int)) : ∀ (S : St) (n : Nat) (x2 : Int32) (x3 : Int32) (r : (Int32 × Int32) × Nat), lp (σ := Int32 × Int32) (fun q => M_count_L137 S q.1 q.2) n (x2, x3) = some r → (∀ (y2 : Int32) (y3 : Int32), r = ((y2, y3), 1) → ∀ (ls : Array Slot) (H : Heap) (locs : List Loc), GH w s A S H locs → lv_has ls 4 [(2, .int y2)] → W p l e (rmm 5 112) s m args below meth c H locs 0 0 Q (F0 m 171 ls [])) → ∀ (ls : Array Slot) (H : Heap) (locs : List Loc), GH w s A S H locs → lv_has ls 4 [(0, .ref (gad w 49)), (2, .int x2), (3, .int x3)] → W p l e (rmm 5 112) s m args below meth c H locs 0 0 Q (F0 m 137 ls []) := by
  have hx := C.1
  have hb := C.2.1
  intro S n
  induction n with
  | zero => intro x2 x3 r h; cases h
  | succ n ih =>
    intro x2 x3 r h k1 ls H locs hG hl
    obtain ⟨z, h, hr⟩ := lp_succ h
    have h : M_count_L137 S x2 x3 = some z := h
    unfold M_count_L137 at h
    refine lv_iload_n hx hb d_M_count_137 rfl (lv_at hl 2 rfl) ?_
    refine lv_bipush (v := 10) hx hb d_M_count_138 (by decide) ?_
    refine lv_icmp_ge (tgt := 171) hx hb d_M_count_140 (by decide) (fun hc => ?_) (fun hc => ?_)
    · replace h := it_t h hc
      exact k1 _ _ (lp_exit h hr) ls _ _ hG (lv_sub hl [1] rfl)
    · replace h := it_f h hc
      refine lv_iload_n hx hb d_M_count_143 rfl (lv_at hl 1 rfl) ?_
      refine lv_aload_n hx hb d_M_count_144 rfl (lv_at hl 0 rfl) ?_
      refine g_get C hG (hG.lt (Nat.le_of_ble_eq_true rfl)) (ce49 w _) rfl inC8 18 (Nat.le_of_ble_eq_true rfl) qw694 rfl d_M_count_145 ?_
      refine lv_iload_n hx hb d_M_count_148 rfl (lv_at hl 2 rfl) ?_
      obtain ⟨hi1, h⟩ := chk_some h
      refine g_iald (j := ix x3) C hG (hG.lt (Nat.le_of_ble_eq_true rfl)) (ce64 w _) (inb_in hi1) rfl d_M_count_149 ?_
      refine lv_iconst (v := (-1)) hx hb d_M_count_150 (by decide) ?_
      refine lv_icmp_ne (tgt := 158) hx hb d_M_count_151 (by decide) (fun hc => ?_) (fun hc => ?_)
      · replace h := it_f h hc
        refine lv_aload_n hx hb d_M_count_158 rfl (lv_at hl 0 rfl) ?_
        refine lv_iload_n hx hb d_M_count_159 rfl (lv_at hl 2 rfl) ?_
        obtain ⟨z1, hz1, h⟩ := bnd_some h
        refine g_goi hG (g_runV (As := [.int x3]) (rest := [.int x2]) C hG (c_M_priceOf l w S x3 hz1 _) (hG.lt (Nat.le_of_ble_eq_true rfl)) (ce49 w _) rfl vw_M_184 rfl rfl ⟨by decide, by decide⟩ rfl hl.1 rfl (Nat.le_of_ble_eq_true rfl) d_M_count_160 ⟨Nat.zero_le _, Nat.zero_le _⟩) (fun H locs hG => ?_)
        refine lv_iadd hx hb d_M_count_163 ?_
        refine lv_istore_n (lv' := [(2, .int (x2 + z1)), (0, .ref (gad w 49)), (3, .int x3)]) hx hb d_M_count_164 rfl hl (by decide) rfl (fun ls hl => ?_)
        refine lv_iinc (v := x3 + 1) (lv' := [(3, .int (x3 + 1)), (2, .int (x2 + z1)), (0, .ref (gad w 49))]) hx hb d_M_count_165 hl (k := 2) rfl (congrArg (HAdd.hAdd x3) (by decide : Int32.ofInt 1 = 1)) (by decide) rfl (fun ls hl => ?_)
        refine lv_goto (tgt := 137) hx hb d_M_count_168 (by decide) ?_
        exact ih _ _ _ (lp_back h hr) k1 ls _ _ hG (lv_sub hl [2, 1, 0] rfl)
      · replace h := it_t h hc
        refine lv_iconst (v := 0) hx hb d_M_count_154 (by decide) ?_
        refine lv_goto (tgt := 163) hx hb d_M_count_155 (by decide) ?_
        refine lv_iadd hx hb d_M_count_163 ?_
        refine lv_istore_n (lv' := [(2, .int (x2 + 0)), (0, .ref (gad w 49)), (3, .int x3)]) hx hb d_M_count_164 rfl hl (by decide) rfl (fun ls hl => ?_)
        refine lv_iinc (v := x3 + 1) (lv' := [(3, .int (x3 + 1)), (2, .int (x2 + 0)), (0, .ref (gad w 49))]) hx hb d_M_count_165 hl (k := 2) rfl (congrArg (HAdd.hAdd x3) (by decide : Int32.ofInt 1 = 1)) (by decide) rfl (fun ls hl => ?_)
        refine lv_goto (tgt := 137) hx hb d_M_count_168 (by decide) ?_
        exact ih _ _ _ (lp_back h hr) k1 ls _ _ hG (lv_sub hl [2, 1, 0] rfl)
set_option maxHeartbeats 4000000 in
set_option maxRecDepth 100000 in
theorem L_M_count_103 (C : gCx p s m args meth c y_M_count.cls b_M_count 4 (some .int)) : ∀ (S : St) (n : Nat) (x2 : Int32) (x3 : Int32) (r : (Int32 × Int32) × Nat), lp (σ := Int32 × Int32) (fun q => M_count_L103 S q.1 q.2) n (x2, x3) = some r → (∀ (y2 : Int32) (y3 : Int32), r = ((y2, y3), 1) → ∀ (ls : Array Slot) (H : Heap) (locs : List Loc), GH w s A S H locs → lv_has ls 4 [(2, .int y2)] → W p l e (rmm 5 112) s m args below meth c H locs 0 0 Q (F0 m 133 ls [])) → ∀ (ls : Array Slot) (H : Heap) (locs : List Loc), GH w s A S H locs → lv_has ls 4 [(0, .ref (gad w 49)), (2, .int x2), (3, .int x3)] → W p l e (rmm 5 112) s m args below meth c H locs 0 0 Q (F0 m 103 ls []) := by
  have hx := C.1
  have hb := C.2.1
  intro S n
  induction n with
  | zero => intro x2 x3 r h; cases h
  | succ n ih =>
    intro x2 x3 r h k1 ls H locs hG hl
    obtain ⟨z, h, hr⟩ := lp_succ h
    have h : M_count_L103 S x2 x3 = some z := h
    unfold M_count_L103 at h
    refine lv_iload_n hx hb d_M_count_103 rfl (lv_at hl 2 rfl) ?_
    refine lv_bipush (v := 10) hx hb d_M_count_104 (by decide) ?_
    refine lv_icmp_ge (tgt := 133) hx hb d_M_count_106 (by decide) (fun hc => ?_) (fun hc => ?_)
    · replace h := it_t h hc
      exact k1 _ _ (lp_exit h hr) ls _ _ hG (lv_sub hl [1] rfl)
    · replace h := it_f h hc
      refine lv_iload_n hx hb d_M_count_109 rfl (lv_at hl 1 rfl) ?_
      refine lv_aload_n hx hb d_M_count_110 rfl (lv_at hl 0 rfl) ?_
      refine g_get C hG (hG.lt (Nat.le_of_ble_eq_true rfl)) (ce49 w _) rfl inC8 18 (Nat.le_of_ble_eq_true rfl) qw694 rfl d_M_count_111 ?_
      refine lv_iload_n hx hb d_M_count_114 rfl (lv_at hl 2 rfl) ?_
      obtain ⟨hi2, h⟩ := chk_some h
      refine g_iald (j := ix x3) C hG (hG.lt (Nat.le_of_ble_eq_true rfl)) (ce64 w _) (inb_in hi2) rfl d_M_count_115 ?_
      refine lv_iconst (v := (-1)) hx hb d_M_count_116 (by decide) ?_
      refine lv_icmp_ne (tgt := 124) hx hb d_M_count_117 (by decide) (fun hc => ?_) (fun hc => ?_)
      · replace h := it_f h hc
        refine lv_iconst (v := 1) hx hb d_M_count_124 (by decide) ?_
        refine lv_iadd hx hb d_M_count_125 ?_
        refine lv_istore_n (lv' := [(2, .int (x2 + 1)), (0, .ref (gad w 49)), (3, .int x3)]) hx hb d_M_count_126 rfl hl (by decide) rfl (fun ls hl => ?_)
        refine lv_iinc (v := x3 + 1) (lv' := [(3, .int (x3 + 1)), (2, .int (x2 + 1)), (0, .ref (gad w 49))]) hx hb d_M_count_127 hl (k := 2) rfl (congrArg (HAdd.hAdd x3) (by decide : Int32.ofInt 1 = 1)) (by decide) rfl (fun ls hl => ?_)
        refine lv_goto (tgt := 103) hx hb d_M_count_130 (by decide) ?_
        exact ih _ _ _ (lp_back h hr) k1 ls _ _ hG (lv_sub hl [2, 1, 0] rfl)
      · replace h := it_t h hc
        refine lv_iconst (v := 0) hx hb d_M_count_120 (by decide) ?_
        refine lv_goto (tgt := 125) hx hb d_M_count_121 (by decide) ?_
        refine lv_iadd hx hb d_M_count_125 ?_
        refine lv_istore_n (lv' := [(2, .int (x2 + 0)), (0, .ref (gad w 49)), (3, .int x3)]) hx hb d_M_count_126 rfl hl (by decide) rfl (fun ls hl => ?_)
        refine lv_iinc (v := x3 + 1) (lv' := [(3, .int (x3 + 1)), (2, .int (x2 + 0)), (0, .ref (gad w 49))]) hx hb d_M_count_127 hl (k := 2) rfl (congrArg (HAdd.hAdd x3) (by decide : Int32.ofInt 1 = 1)) (by decide) rfl (fun ls hl => ?_)
        refine lv_goto (tgt := 103) hx hb d_M_count_130 (by decide) ?_
        exact ih _ _ _ (lp_back h hr) k1 ls _ _ hG (lv_sub hl [2, 1, 0] rfl)
set_option maxHeartbeats 4000000 in
set_option maxRecDepth 100000 in
theorem L_M_count_68 (C : gCx p s m args meth c y_M_count.cls b_M_count 4 (some .int)) : ∀ (S : St) (n : Nat) (x2 : Int32) (x3 : Int32) (r : (Int32 × Int32) × Nat), lp (σ := Int32 × Int32) (fun q => M_count_L68 S q.1 q.2) n (x2, x3) = some r → (∀ (y2 : Int32) (y3 : Int32), r = ((y2, y3), 1) → ∀ (ls : Array Slot) (H : Heap) (locs : List Loc), GH w s A S H locs → lv_has ls 4 [(2, .int y2)] → W p l e (rmm 5 112) s m args below meth c H locs 0 0 Q (F0 m 99 ls [])) → ∀ (ls : Array Slot) (H : Heap) (locs : List Loc), GH w s A S H locs → lv_has ls 4 [(0, .ref (gad w 49)), (2, .int x2), (3, .int x3)] → W p l e (rmm 5 112) s m args below meth c H locs 0 0 Q (F0 m 68 ls []) := by
  have hx := C.1
  have hb := C.2.1
  intro S n
  induction n with
  | zero => intro x2 x3 r h; cases h
  | succ n ih =>
    intro x2 x3 r h k1 ls H locs hG hl
    obtain ⟨z, h, hr⟩ := lp_succ h
    have h : M_count_L68 S x2 x3 = some z := h
    unfold M_count_L68 at h
    refine lv_iload_n hx hb d_M_count_68 rfl (lv_at hl 2 rfl) ?_
    refine lv_aload_n hx hb d_M_count_69 rfl (lv_at hl 0 rfl) ?_
    refine g_get C hG (hG.lt (Nat.le_of_ble_eq_true rfl)) (ce49 w _) rfl inC8 8 (Nat.le_of_ble_eq_true rfl) qw684 rfl d_M_count_70 ?_
    refine lv_icmp_ge (tgt := 99) hx hb d_M_count_73 (by decide) (fun hc => ?_) (fun hc => ?_)
    · replace h := it_t h hc
      exact k1 _ _ (lp_exit h hr) ls _ _ hG (lv_sub hl [1] rfl)
    · replace h := it_f h hc
      refine lv_iload_n hx hb d_M_count_76 rfl (lv_at hl 1 rfl) ?_
      refine lv_aload_n hx hb d_M_count_77 rfl (lv_at hl 0 rfl) ?_
      refine g_get C hG (hG.lt (Nat.le_of_ble_eq_true rfl)) (ce49 w _) rfl inC8 19 (Nat.le_of_ble_eq_true rfl) qw695 rfl d_M_count_78 ?_
      refine lv_iload_n hx hb d_M_count_81 rfl (lv_at hl 2 rfl) ?_
      obtain ⟨hi3, h⟩ := chk_some h
      refine g_zald (j := ix x3) C hG (hG.lt (Nat.le_of_ble_eq_true rfl)) (ce65 w _) (inb_in hi3) rfl d_M_count_82 ?_
      refine lv_if_eq (tgt := 90) hx hb d_M_count_83 (by decide) (fun hc => ?_) (fun hc => ?_)
      · replace h := it_t h hc
        refine lv_iconst (v := 0) hx hb d_M_count_90 (by decide) ?_
        refine lv_iadd hx hb d_M_count_91 ?_
        refine lv_istore_n (lv' := [(2, .int (x2 + 0)), (0, .ref (gad w 49)), (3, .int x3)]) hx hb d_M_count_92 rfl hl (by decide) rfl (fun ls hl => ?_)
        refine lv_iinc (v := x3 + 1) (lv' := [(3, .int (x3 + 1)), (2, .int (x2 + 0)), (0, .ref (gad w 49))]) hx hb d_M_count_93 hl (k := 2) rfl (congrArg (HAdd.hAdd x3) (by decide : Int32.ofInt 1 = 1)) (by decide) rfl (fun ls hl => ?_)
        refine lv_goto (tgt := 68) hx hb d_M_count_96 (by decide) ?_
        exact ih _ _ _ (lp_back h hr) k1 ls _ _ hG (lv_sub hl [2, 1, 0] rfl)
      · replace h := it_f h hc
        refine lv_iconst (v := 1) hx hb d_M_count_86 (by decide) ?_
        refine lv_goto (tgt := 91) hx hb d_M_count_87 (by decide) ?_
        refine lv_iadd hx hb d_M_count_91 ?_
        refine lv_istore_n (lv' := [(2, .int (x2 + 1)), (0, .ref (gad w 49)), (3, .int x3)]) hx hb d_M_count_92 rfl hl (by decide) rfl (fun ls hl => ?_)
        refine lv_iinc (v := x3 + 1) (lv' := [(3, .int (x3 + 1)), (2, .int (x2 + 1)), (0, .ref (gad w 49))]) hx hb d_M_count_93 hl (k := 2) rfl (congrArg (HAdd.hAdd x3) (by decide : Int32.ofInt 1 = 1)) (by decide) rfl (fun ls hl => ?_)
        refine lv_goto (tgt := 68) hx hb d_M_count_96 (by decide) ?_
        exact ih _ _ _ (lp_back h hr) k1 ls _ _ hG (lv_sub hl [2, 1, 0] rfl)
set_option maxHeartbeats 4000000 in
set_option maxRecDepth 100000 in
theorem c_M_count (l : Launch) (w : gw) (S : St) (x1 : Int32)  {z : Int32 × St} (h : (M_count S x1) = some z) : gMi l w y_M_count b_M_count 4 (some .int) (rmm 5 112) [.ref (gad w 49), .int x1] S z.1 z.2 := by
  unfold M_count at h
  refine g_met (Qc := gQi w z.1 z.2) (by decide +kernel) (Nat.le_of_ble_eq_true rfl) ?_
  intro p e s m args below meth c A Q ls hQ C hG hl
  have hx := C.1
  have hb := C.2.1
  have hl : lv_has ls 4 [(0, .ref (gad w 49)), (1, .int x1)] := hl
  have J99 : ∀ (S : St) (x2 : Int32), M_count_J99 S x2 = some z → ∀ (ls : Array Slot) (H : Heap) (locs : List Loc), GH w s A S H locs → lv_has ls 4 [(2, .int x2)] → W p l e (rmm 5 112) s m args below meth c H locs 0 0 Q (F0 m 99 ls []) := by
    intro S x2 h ls H locs hG hl
    unfold M_count_J99 at h
    refine lv_iload_n hx hb d_M_count_99 rfl (lv_at hl 0 rfl) ?_
    exact g_iret C hG (sm_fst h) (sm_snd h) hQ d_M_count_100
  have J133 : ∀ (S : St) (x2 : Int32), M_count_J133 S x2 = some z → ∀ (ls : Array Slot) (H : Heap) (locs : List Loc), GH w s A S H locs → lv_has ls 4 [(2, .int x2)] → W p l e (rmm 5 112) s m args below meth c H locs 0 0 Q (F0 m 133 ls []) := by
    intro S x2 h ls H locs hG hl
    unfold M_count_J133 at h
    refine lv_iload_n hx hb d_M_count_133 rfl (lv_at hl 0 rfl) ?_
    exact g_iret C hG (sm_fst h) (sm_snd h) hQ d_M_count_134
  have J171 : ∀ (S : St) (x2 : Int32), M_count_J171 S x2 = some z → ∀ (ls : Array Slot) (H : Heap) (locs : List Loc), GH w s A S H locs → lv_has ls 4 [(2, .int x2)] → W p l e (rmm 5 112) s m args below meth c H locs 0 0 Q (F0 m 171 ls []) := by
    intro S x2 h ls H locs hG hl
    unfold M_count_J171 at h
    refine lv_iload_n hx hb d_M_count_171 rfl (lv_at hl 0 rfl) ?_
    exact g_iret C hG (sm_fst h) (sm_snd h) hQ d_M_count_172
  refine lv_iconst (v := 0) hx hb d_M_count_0 (by decide) ?_
  refine lv_istore_n (lv' := [(2, .int 0), (0, .ref (gad w 49)), (1, .int x1)]) hx hb d_M_count_1 rfl hl (by decide) rfl (fun ls hl => ?_)
  refine lv_aload_n hx hb d_M_count_2 rfl (lv_at hl 1 rfl) ?_
  obtain ⟨z2, hz2, h⟩ := bnd_some h
  refine g_gov hG (g_runV (As := []) (rest := []) C hG (c_M_find l w S hz2 _) (hG.lt (Nat.le_of_ble_eq_true rfl)) (ce49 w _) rfl vw_M_181 rfl rfl ⟨by decide, by decide⟩ rfl hl.1 rfl (Nat.le_of_ble_eq_true rfl) d_M_count_3 ⟨Nat.zero_le _, Nat.zero_le _⟩) (fun H locs hG => ?_)
  refine lv_iload_n hx hb d_M_count_6 rfl (lv_at hl 2 rfl) ?_
  by_cases hc0 : x1 = 0
  · replace h := it_t h hc0
    refine lv_tableIn (off := 49) (tgt := 56) hx hb d_M_count_7 (by rw [hc0]; decide) (by rw [hc0]; decide) (by rw [hc0]; rfl) (by decide) ?_
    refine lv_aload_n hx hb d_M_count_56 rfl (lv_at hl 1 rfl) ?_
    refine g_get C hG (hG.lt (Nat.le_of_ble_eq_true rfl)) (ce49 w _) rfl inC8 8 (Nat.le_of_ble_eq_true rfl) qw684 rfl d_M_count_57 ?_
    exact g_iret C hG (sm_fst h) (sm_snd h) hQ d_M_count_60
  replace h := it_f h hc0
  by_cases hc1 : x1 = 1
  · replace h := it_t h hc1
    refine lv_tableIn (off := 54) (tgt := 61) hx hb d_M_count_7 (by rw [hc1]; decide) (by rw [hc1]; decide) (by rw [hc1]; rfl) (by decide) ?_
    refine lv_aload_n hx hb d_M_count_61 rfl (lv_at hl 1 rfl) ?_
    refine g_get C hG (hG.lt (Nat.le_of_ble_eq_true rfl)) (ce49 w _) rfl inC8 6 (Nat.le_of_ble_eq_true rfl) qw682 rfl d_M_count_62 ?_
    exact g_iret C hG (sm_fst h) (sm_snd h) hQ d_M_count_65
  replace h := it_f h hc1
  by_cases hc2 : x1 = 2
  · replace h := it_t h hc2
    refine lv_tableIn (off := 59) (tgt := 66) hx hb d_M_count_7 (by rw [hc2]; decide) (by rw [hc2]; decide) (by rw [hc2]; rfl) (by decide) ?_
    refine lv_iconst (v := 0) hx hb d_M_count_66 (by decide) ?_
    refine lv_istore_n (lv' := [(3, .int 0), (2, .int 0), (0, .ref (gad w 49)), (1, .int x1)]) hx hb d_M_count_67 rfl hl (by decide) rfl (fun ls hl => ?_)
    obtain ⟨z3, hz3, h⟩ := bnd_some h
    refine L_M_count_68 C _ FZ _ _ _ hz3 ?_ ls _ _ hG (lv_sub hl [2, 1, 0] rfl)
    intro y2 y3 e9 ls H locs hG hl
    subst e9
    exact J99 _ _ h ls _ _ hG (lv_sub hl [0] rfl)
  replace h := it_f h hc2
  by_cases hc3 : x1 = 3
  · replace h := it_t h hc3
    refine lv_tableIn (off := 94) (tgt := 101) hx hb d_M_count_7 (by rw [hc3]; decide) (by rw [hc3]; decide) (by rw [hc3]; rfl) (by decide) ?_
    refine lv_iconst (v := 0) hx hb d_M_count_101 (by decide) ?_
    refine lv_istore_n (lv' := [(3, .int 0), (2, .int 0), (0, .ref (gad w 49)), (1, .int x1)]) hx hb d_M_count_102 rfl hl (by decide) rfl (fun ls hl => ?_)
    obtain ⟨z4, hz4, h⟩ := bnd_some h
    refine L_M_count_103 C _ FZ _ _ _ hz4 ?_ ls _ _ hG (lv_sub hl [2, 1, 0] rfl)
    intro y2 y3 e9 ls H locs hG hl
    subst e9
    exact J133 _ _ h ls _ _ hG (lv_sub hl [0] rfl)
  replace h := it_f h hc3
  by_cases hc4 : x1 = 4
  · replace h := it_t h hc4
    refine lv_tableIn (off := 128) (tgt := 135) hx hb d_M_count_7 (by rw [hc4]; decide) (by rw [hc4]; decide) (by rw [hc4]; rfl) (by decide) ?_
    refine lv_iconst (v := 0) hx hb d_M_count_135 (by decide) ?_
    refine lv_istore_n (lv' := [(3, .int 0), (2, .int 0), (0, .ref (gad w 49)), (1, .int x1)]) hx hb d_M_count_136 rfl hl (by decide) rfl (fun ls hl => ?_)
    obtain ⟨z5, hz5, h⟩ := bnd_some h
    refine L_M_count_137 C _ FZ _ _ _ hz5 ?_ ls _ _ hG (lv_sub hl [2, 1, 0] rfl)
    intro y2 y3 e9 ls H locs hG hl
    subst e9
    exact J171 _ _ h ls _ _ hG (lv_sub hl [0] rfl)
  replace h := it_f h hc4
  by_cases hc5 : x1 = 5
  · replace h := it_t h hc5
    refine lv_tableIn (off := 166) (tgt := 173) hx hb d_M_count_7 (by rw [hc5]; decide) (by rw [hc5]; decide) (by rw [hc5]; rfl) (by decide) ?_
    refine lv_aload_n hx hb d_M_count_173 rfl (lv_at hl 1 rfl) ?_
    refine g_get C hG (hG.lt (Nat.le_of_ble_eq_true rfl)) (ce49 w _) rfl inC8 22 (Nat.le_of_ble_eq_true rfl) qw698 rfl d_M_count_174 ?_
    exact g_iret C hG (sm_fst h) (sm_snd h) hQ d_M_count_177
  replace h := it_f h hc5
  by_cases hc6 : x1 = 6
  · replace h := it_t h hc6
    refine lv_tableIn (off := 171) (tgt := 178) hx hb d_M_count_7 (by rw [hc6]; decide) (by rw [hc6]; decide) (by rw [hc6]; rfl) (by decide) ?_
    refine lv_aload_n hx hb d_M_count_178 rfl (lv_at hl 1 rfl) ?_
    refine g_get C hG (hG.lt (Nat.le_of_ble_eq_true rfl)) (ce49 w _) rfl inC8 16 (Nat.le_of_ble_eq_true rfl) qw692 rfl d_M_count_179 ?_
    refine lv_iload_n hx hb d_M_count_182 rfl (lv_at hl 2 rfl) ?_
    refine lv_bipush (v := 6) hx hb d_M_count_183 (by decide) ?_
    refine lv_isub hx hb d_M_count_185 ?_
    obtain ⟨hi4, h⟩ := chk_some h
    refine g_iald (j := ix (x1 - 6)) C hG (hG.lt (Nat.le_of_ble_eq_true rfl)) (ce62 w _) (inb_in hi4) rfl d_M_count_186 ?_
    exact g_iret C hG (sm_fst h) (sm_snd h) hQ d_M_count_187
  replace h := it_f h hc6
  by_cases hc7 : x1 = 7
  · replace h := it_t h hc7
    refine lv_tableIn (off := 171) (tgt := 178) hx hb d_M_count_7 (by rw [hc7]; decide) (by rw [hc7]; decide) (by rw [hc7]; rfl) (by decide) ?_
    refine lv_aload_n hx hb d_M_count_178 rfl (lv_at hl 1 rfl) ?_
    refine g_get C hG (hG.lt (Nat.le_of_ble_eq_true rfl)) (ce49 w _) rfl inC8 16 (Nat.le_of_ble_eq_true rfl) qw692 rfl d_M_count_179 ?_
    refine lv_iload_n hx hb d_M_count_182 rfl (lv_at hl 2 rfl) ?_
    refine lv_bipush (v := 6) hx hb d_M_count_183 (by decide) ?_
    refine lv_isub hx hb d_M_count_185 ?_
    obtain ⟨hi5, h⟩ := chk_some h
    refine g_iald (j := ix (x1 - 6)) C hG (hG.lt (Nat.le_of_ble_eq_true rfl)) (ce62 w _) (inb_in hi5) rfl d_M_count_186 ?_
    exact g_iret C hG (sm_fst h) (sm_snd h) hQ d_M_count_187
  replace h := it_f h hc7
  by_cases hc8 : x1 = 8
  · replace h := it_t h hc8
    refine lv_tableIn (off := 181) (tgt := 188) hx hb d_M_count_7 (by rw [hc8]; decide) (by rw [hc8]; decide) (by rw [hc8]; rfl) (by decide) ?_
    refine lv_aload_n hx hb d_M_count_188 rfl (lv_at hl 1 rfl) ?_
    refine g_get C hG (hG.lt (Nat.le_of_ble_eq_true rfl)) (ce49 w _) rfl inC8 4 (Nat.le_of_ble_eq_true rfl) qw680 rfl d_M_count_189 ?_
    exact g_iret C hG (sm_fst h) (sm_snd h) hQ d_M_count_192
  replace h := it_f h hc8
  refine lv_tableOut (tgt := 193) hx hb d_M_count_7 (by have g0 := lv_neT hc0 (a := 0) (by decide); have g1 := lv_neT hc1 (a := 1) (by decide); have g2 := lv_neT hc2 (a := 2) (by decide); have g3 := lv_neT hc3 (a := 3) (by decide); have g4 := lv_neT hc4 (a := 4) (by decide); have g5 := lv_neT hc5 (a := 5) (by decide); have g6 := lv_neT hc6 (a := 6) (by decide); have g7 := lv_neT hc7 (a := 7) (by decide); have g8 := lv_neT hc8 (a := 8) (by decide); omega) (by decide) ?_
  refine lv_bipush (v := (-2)) hx hb d_M_count_193 (by decide) ?_
  exact g_iret C hG (sm_fst h) (sm_snd h) hQ d_M_count_195
theorem d_M_digest_0 : decode b_M_digest 0 = .ok (.ldc2_w 271, 3) := by decide +kernel
theorem d_M_digest_3 : decode b_M_digest 3 = .ok (.lstore_n 1, 1) := by decide +kernel
theorem d_M_digest_4 : decode b_M_digest 4 = .ok (.iconst 0, 1) := by decide +kernel
theorem d_M_digest_5 : decode b_M_digest 5 = .ok (.istore_n 3, 1) := by decide +kernel
theorem d_M_digest_6 : decode b_M_digest 6 = .ok (.iload_n 3, 1) := by decide +kernel
theorem d_M_digest_7 : decode b_M_digest 7 = .ok (.bipush 8, 2) := by decide +kernel
theorem d_M_digest_9 : decode b_M_digest 9 = .ok (.if_icmp .ge 22, 3) := by decide +kernel
theorem d_M_digest_12 : decode b_M_digest 12 = .ok (.ldc2_w 219, 3) := by decide +kernel
theorem d_M_digest_15 : decode b_M_digest 15 = .ok (.lload_n 1, 1) := by decide +kernel
theorem d_M_digest_16 : decode b_M_digest 16 = .ok (.lmul, 1) := by decide +kernel
theorem d_M_digest_17 : decode b_M_digest 17 = .ok (.aload_n 0, 1) := by decide +kernel
theorem d_M_digest_18 : decode b_M_digest 18 = .ok (.iload_n 3, 1) := by decide +kernel
theorem d_M_digest_19 : decode b_M_digest 19 = .ok (.invokevirtual 273, 3) := by decide +kernel
theorem d_M_digest_22 : decode b_M_digest 22 = .ok (.i2l, 1) := by decide +kernel
theorem d_M_digest_23 : decode b_M_digest 23 = .ok (.ladd, 1) := by decide +kernel
theorem d_M_digest_24 : decode b_M_digest 24 = .ok (.lstore_n 1, 1) := by decide +kernel
theorem d_M_digest_25 : decode b_M_digest 25 = .ok (.iinc 3 1, 3) := by decide +kernel
theorem d_M_digest_28 : decode b_M_digest 28 = .ok (.goto (-22), 3) := by decide +kernel
theorem d_M_digest_31 : decode b_M_digest 31 = .ok (.ldc2_w 219, 3) := by decide +kernel
theorem d_M_digest_34 : decode b_M_digest 34 = .ok (.lload_n 1, 1) := by decide +kernel
theorem d_M_digest_35 : decode b_M_digest 35 = .ok (.lmul, 1) := by decide +kernel
theorem d_M_digest_36 : decode b_M_digest 36 = .ok (.aload_n 0, 1) := by decide +kernel
theorem d_M_digest_37 : decode b_M_digest 37 = .ok (.invokevirtual 137, 3) := by decide +kernel
theorem d_M_digest_40 : decode b_M_digest 40 = .ok (.i2l, 1) := by decide +kernel
theorem d_M_digest_41 : decode b_M_digest 41 = .ok (.ladd, 1) := by decide +kernel
theorem d_M_digest_42 : decode b_M_digest 42 = .ok (.lstore_n 1, 1) := by decide +kernel
theorem d_M_digest_43 : decode b_M_digest 43 = .ok (.ldc2_w 219, 3) := by decide +kernel
theorem d_M_digest_46 : decode b_M_digest 46 = .ok (.lload_n 1, 1) := by decide +kernel
theorem d_M_digest_47 : decode b_M_digest 47 = .ok (.lmul, 1) := by decide +kernel
theorem d_M_digest_48 : decode b_M_digest 48 = .ok (.aload_n 0, 1) := by decide +kernel
theorem d_M_digest_49 : decode b_M_digest 49 = .ok (.getfield 171, 3) := by decide +kernel
theorem d_M_digest_52 : decode b_M_digest 52 = .ok (.i2l, 1) := by decide +kernel
theorem d_M_digest_53 : decode b_M_digest 53 = .ok (.ladd, 1) := by decide +kernel
theorem d_M_digest_54 : decode b_M_digest 54 = .ok (.lstore_n 1, 1) := by decide +kernel
theorem d_M_digest_55 : decode b_M_digest 55 = .ok (.iconst 0, 1) := by decide +kernel
theorem d_M_digest_56 : decode b_M_digest 56 = .ok (.istore_n 3, 1) := by decide +kernel
theorem d_M_digest_57 : decode b_M_digest 57 = .ok (.iload_n 3, 1) := by decide +kernel
theorem d_M_digest_58 : decode b_M_digest 58 = .ok (.aload_n 0, 1) := by decide +kernel
theorem d_M_digest_59 : decode b_M_digest 59 = .ok (.getfield 119, 3) := by decide +kernel
theorem d_M_digest_62 : decode b_M_digest 62 = .ok (.if_icmp .ge 50, 3) := by decide +kernel
theorem d_M_digest_65 : decode b_M_digest 65 = .ok (.aload_n 0, 1) := by decide +kernel
theorem d_M_digest_66 : decode b_M_digest 66 = .ok (.iconst (-1), 1) := by decide +kernel
theorem d_M_digest_67 : decode b_M_digest 67 = .ok (.invokevirtual 177, 3) := by decide +kernel
theorem d_M_digest_70 : decode b_M_digest 70 = .ok (.ldc2_w 219, 3) := by decide +kernel
theorem d_M_digest_73 : decode b_M_digest 73 = .ok (.lload_n 1, 1) := by decide +kernel
theorem d_M_digest_74 : decode b_M_digest 74 = .ok (.lmul, 1) := by decide +kernel
theorem d_M_digest_75 : decode b_M_digest 75 = .ok (.aload_n 0, 1) := by decide +kernel
theorem d_M_digest_76 : decode b_M_digest 76 = .ok (.getfield 55, 3) := by decide +kernel
theorem d_M_digest_79 : decode b_M_digest 79 = .ok (.iload_n 3, 1) := by decide +kernel
theorem d_M_digest_80 : decode b_M_digest 80 = .ok (.baload, 1) := by decide +kernel
theorem d_M_digest_81 : decode b_M_digest 81 = .ok (.ifCond .eq 7, 3) := by decide +kernel
theorem d_M_digest_84 : decode b_M_digest 84 = .ok (.iconst 1, 1) := by decide +kernel
theorem d_M_digest_85 : decode b_M_digest 85 = .ok (.goto 4, 3) := by decide +kernel
theorem d_M_digest_88 : decode b_M_digest 88 = .ok (.iconst 0, 1) := by decide +kernel
theorem d_M_digest_89 : decode b_M_digest 89 = .ok (.i2l, 1) := by decide +kernel
theorem d_M_digest_90 : decode b_M_digest 90 = .ok (.ladd, 1) := by decide +kernel
theorem d_M_digest_91 : decode b_M_digest 91 = .ok (.lstore_n 1, 1) := by decide +kernel
theorem d_M_digest_92 : decode b_M_digest 92 = .ok (.ldc2_w 219, 3) := by decide +kernel
theorem d_M_digest_95 : decode b_M_digest 95 = .ok (.lload_n 1, 1) := by decide +kernel
theorem d_M_digest_96 : decode b_M_digest 96 = .ok (.lmul, 1) := by decide +kernel
theorem d_M_digest_97 : decode b_M_digest 97 = .ok (.aload_n 0, 1) := by decide +kernel
theorem d_M_digest_98 : decode b_M_digest 98 = .ok (.iload_n 3, 1) := by decide +kernel
theorem d_M_digest_99 : decode b_M_digest 99 = .ok (.iconst 0, 1) := by decide +kernel
theorem d_M_digest_100 : decode b_M_digest 100 = .ok (.invokevirtual 210, 3) := by decide +kernel
theorem d_M_digest_103 : decode b_M_digest 103 = .ok (.i2l, 1) := by decide +kernel
theorem d_M_digest_104 : decode b_M_digest 104 = .ok (.ladd, 1) := by decide +kernel
theorem d_M_digest_105 : decode b_M_digest 105 = .ok (.lstore_n 1, 1) := by decide +kernel
theorem d_M_digest_106 : decode b_M_digest 106 = .ok (.iinc 3 1, 3) := by decide +kernel
theorem d_M_digest_109 : decode b_M_digest 109 = .ok (.goto (-52), 3) := by decide +kernel
theorem d_M_digest_112 : decode b_M_digest 112 = .ok (.aload_n 0, 1) := by decide +kernel
theorem d_M_digest_113 : decode b_M_digest 113 = .ok (.invokevirtual 181, 3) := by decide +kernel
theorem d_M_digest_116 : decode b_M_digest 116 = .ok (.aload_n 0, 1) := by decide +kernel
theorem d_M_digest_117 : decode b_M_digest 117 = .ok (.invokevirtual 258, 3) := by decide +kernel
theorem d_M_digest_120 : decode b_M_digest 120 = .ok (.istore_n 3, 1) := by decide +kernel
theorem d_M_digest_121 : decode b_M_digest 121 = .ok (.iconst 0, 1) := by decide +kernel
theorem d_M_digest_122 : decode b_M_digest 122 = .ok (.istore 4, 2) := by decide +kernel
theorem d_M_digest_124 : decode b_M_digest 124 = .ok (.iload 4, 2) := by decide +kernel
theorem d_M_digest_126 : decode b_M_digest 126 = .ok (.bipush 10, 2) := by decide +kernel
theorem d_M_digest_128 : decode b_M_digest 128 = .ok (.if_icmp .ge 97, 3) := by decide +kernel
theorem d_M_digest_131 : decode b_M_digest 131 = .ok (.ldc2_w 219, 3) := by decide +kernel
theorem d_M_digest_134 : decode b_M_digest 134 = .ok (.lload_n 1, 1) := by decide +kernel
theorem d_M_digest_135 : decode b_M_digest 135 = .ok (.lmul, 1) := by decide +kernel
theorem d_M_digest_136 : decode b_M_digest 136 = .ok (.aload_n 0, 1) := by decide +kernel
theorem d_M_digest_137 : decode b_M_digest 137 = .ok (.iload 4, 2) := by decide +kernel
theorem d_M_digest_139 : decode b_M_digest 139 = .ok (.invokevirtual 162, 3) := by decide +kernel
theorem d_M_digest_142 : decode b_M_digest 142 = .ok (.i2l, 1) := by decide +kernel
theorem d_M_digest_143 : decode b_M_digest 143 = .ok (.ladd, 1) := by decide +kernel
theorem d_M_digest_144 : decode b_M_digest 144 = .ok (.lstore_n 1, 1) := by decide +kernel
theorem d_M_digest_145 : decode b_M_digest 145 = .ok (.ldc2_w 219, 3) := by decide +kernel
theorem d_M_digest_148 : decode b_M_digest 148 = .ok (.lload_n 1, 1) := by decide +kernel
theorem d_M_digest_149 : decode b_M_digest 149 = .ok (.lmul, 1) := by decide +kernel
theorem d_M_digest_150 : decode b_M_digest 150 = .ok (.aload_n 0, 1) := by decide +kernel
theorem d_M_digest_151 : decode b_M_digest 151 = .ok (.iload 4, 2) := by decide +kernel
theorem d_M_digest_153 : decode b_M_digest 153 = .ok (.invokevirtual 184, 3) := by decide +kernel
theorem d_M_digest_156 : decode b_M_digest 156 = .ok (.i2l, 1) := by decide +kernel
theorem d_M_digest_157 : decode b_M_digest 157 = .ok (.ladd, 1) := by decide +kernel
theorem d_M_digest_158 : decode b_M_digest 158 = .ok (.lstore_n 1, 1) := by decide +kernel
theorem d_M_digest_159 : decode b_M_digest 159 = .ok (.ldc2_w 219, 3) := by decide +kernel
theorem d_M_digest_162 : decode b_M_digest 162 = .ok (.lload_n 1, 1) := by decide +kernel
theorem d_M_digest_163 : decode b_M_digest 163 = .ok (.lmul, 1) := by decide +kernel
theorem d_M_digest_164 : decode b_M_digest 164 = .ok (.aload_n 0, 1) := by decide +kernel
theorem d_M_digest_165 : decode b_M_digest 165 = .ok (.iload 4, 2) := by decide +kernel
theorem d_M_digest_167 : decode b_M_digest 167 = .ok (.invokevirtual 204, 3) := by decide +kernel
theorem d_M_digest_170 : decode b_M_digest 170 = .ok (.i2l, 1) := by decide +kernel
theorem d_M_digest_171 : decode b_M_digest 171 = .ok (.ladd, 1) := by decide +kernel
theorem d_M_digest_172 : decode b_M_digest 172 = .ok (.lstore_n 1, 1) := by decide +kernel
theorem d_M_digest_173 : decode b_M_digest 173 = .ok (.ldc2_w 219, 3) := by decide +kernel
theorem d_M_digest_176 : decode b_M_digest 176 = .ok (.lload_n 1, 1) := by decide +kernel
theorem d_M_digest_177 : decode b_M_digest 177 = .ok (.lmul, 1) := by decide +kernel
theorem d_M_digest_178 : decode b_M_digest 178 = .ok (.aload_n 0, 1) := by decide +kernel
theorem d_M_digest_179 : decode b_M_digest 179 = .ok (.getfield 68, 3) := by decide +kernel
theorem d_M_digest_182 : decode b_M_digest 182 = .ok (.iload 4, 2) := by decide +kernel
theorem d_M_digest_184 : decode b_M_digest 184 = .ok (.iaload, 1) := by decide +kernel
theorem d_M_digest_185 : decode b_M_digest 185 = .ok (.i2l, 1) := by decide +kernel
theorem d_M_digest_186 : decode b_M_digest 186 = .ok (.ladd, 1) := by decide +kernel
theorem d_M_digest_187 : decode b_M_digest 187 = .ok (.lstore_n 1, 1) := by decide +kernel
theorem d_M_digest_188 : decode b_M_digest 188 = .ok (.iconst 0, 1) := by decide +kernel
theorem d_M_digest_189 : decode b_M_digest 189 = .ok (.istore 5, 2) := by decide +kernel
theorem d_M_digest_191 : decode b_M_digest 191 = .ok (.iload 5, 2) := by decide +kernel
theorem d_M_digest_193 : decode b_M_digest 193 = .ok (.iconst 2, 1) := by decide +kernel
theorem d_M_digest_194 : decode b_M_digest 194 = .ok (.if_icmp .ge 25, 3) := by decide +kernel
theorem d_M_digest_197 : decode b_M_digest 197 = .ok (.ldc2_w 219, 3) := by decide +kernel
theorem d_M_digest_200 : decode b_M_digest 200 = .ok (.lload_n 1, 1) := by decide +kernel
theorem d_M_digest_201 : decode b_M_digest 201 = .ok (.lmul, 1) := by decide +kernel
theorem d_M_digest_202 : decode b_M_digest 202 = .ok (.aload_n 0, 1) := by decide +kernel
theorem d_M_digest_203 : decode b_M_digest 203 = .ok (.iconst 1, 1) := by decide +kernel
theorem d_M_digest_204 : decode b_M_digest 204 = .ok (.iload 4, 2) := by decide +kernel
theorem d_M_digest_206 : decode b_M_digest 206 = .ok (.iload 5, 2) := by decide +kernel
theorem d_M_digest_208 : decode b_M_digest 208 = .ok (.invokevirtual 264, 3) := by decide +kernel
theorem d_M_digest_211 : decode b_M_digest 211 = .ok (.ladd, 1) := by decide +kernel
theorem d_M_digest_212 : decode b_M_digest 212 = .ok (.lstore_n 1, 1) := by decide +kernel
theorem d_M_digest_213 : decode b_M_digest 213 = .ok (.iinc 5 1, 3) := by decide +kernel
theorem d_M_digest_216 : decode b_M_digest 216 = .ok (.goto (-25), 3) := by decide +kernel
theorem d_M_digest_219 : decode b_M_digest 219 = .ok (.iinc 4 1, 3) := by decide +kernel
theorem d_M_digest_222 : decode b_M_digest 222 = .ok (.goto (-98), 3) := by decide +kernel
theorem d_M_digest_225 : decode b_M_digest 225 = .ok (.iconst 0, 1) := by decide +kernel
theorem d_M_digest_226 : decode b_M_digest 226 = .ok (.istore 4, 2) := by decide +kernel
theorem d_M_digest_228 : decode b_M_digest 228 = .ok (.iload 4, 2) := by decide +kernel
theorem d_M_digest_230 : decode b_M_digest 230 = .ok (.iconst 5, 1) := by decide +kernel
theorem d_M_digest_231 : decode b_M_digest 231 = .ok (.if_icmp .ge 147, 3) := by decide +kernel
theorem d_M_digest_234 : decode b_M_digest 234 = .ok (.iconst 0, 1) := by decide +kernel
theorem d_M_digest_235 : decode b_M_digest 235 = .ok (.istore 5, 2) := by decide +kernel
theorem d_M_digest_237 : decode b_M_digest 237 = .ok (.iload 5, 2) := by decide +kernel
theorem d_M_digest_239 : decode b_M_digest 239 = .ok (.iconst 3, 1) := by decide +kernel
theorem d_M_digest_240 : decode b_M_digest 240 = .ok (.if_icmp .ge 25, 3) := by decide +kernel
theorem d_M_digest_243 : decode b_M_digest 243 = .ok (.ldc2_w 219, 3) := by decide +kernel
theorem d_M_digest_246 : decode b_M_digest 246 = .ok (.lload_n 1, 1) := by decide +kernel
theorem d_M_digest_247 : decode b_M_digest 247 = .ok (.lmul, 1) := by decide +kernel
theorem d_M_digest_248 : decode b_M_digest 248 = .ok (.aload_n 0, 1) := by decide +kernel
theorem d_M_digest_249 : decode b_M_digest 249 = .ok (.iload 4, 2) := by decide +kernel
theorem d_M_digest_251 : decode b_M_digest 251 = .ok (.iload 5, 2) := by decide +kernel
theorem d_M_digest_253 : decode b_M_digest 253 = .ok (.invokevirtual 187, 3) := by decide +kernel
theorem d_M_digest_256 : decode b_M_digest 256 = .ok (.i2l, 1) := by decide +kernel
theorem d_M_digest_257 : decode b_M_digest 257 = .ok (.ladd, 1) := by decide +kernel
theorem d_M_digest_258 : decode b_M_digest 258 = .ok (.lstore_n 1, 1) := by decide +kernel
theorem d_M_digest_259 : decode b_M_digest 259 = .ok (.iinc 5 1, 3) := by decide +kernel
theorem d_M_digest_262 : decode b_M_digest 262 = .ok (.goto (-25), 3) := by decide +kernel
theorem d_M_digest_265 : decode b_M_digest 265 = .ok (.ldc2_w 219, 3) := by decide +kernel
theorem d_M_digest_268 : decode b_M_digest 268 = .ok (.lload_n 1, 1) := by decide +kernel
theorem d_M_digest_269 : decode b_M_digest 269 = .ok (.lmul, 1) := by decide +kernel
theorem d_M_digest_270 : decode b_M_digest 270 = .ok (.aload_n 0, 1) := by decide +kernel
theorem d_M_digest_271 : decode b_M_digest 271 = .ok (.iload 4, 2) := by decide +kernel
theorem d_M_digest_273 : decode b_M_digest 273 = .ok (.iconst 0, 1) := by decide +kernel
theorem d_M_digest_274 : decode b_M_digest 274 = .ok (.invokevirtual 194, 3) := by decide +kernel
theorem d_M_digest_277 : decode b_M_digest 277 = .ok (.i2l, 1) := by decide +kernel
theorem d_M_digest_278 : decode b_M_digest 278 = .ok (.ladd, 1) := by decide +kernel
theorem d_M_digest_279 : decode b_M_digest 279 = .ok (.lstore_n 1, 1) := by decide +kernel
theorem d_M_digest_280 : decode b_M_digest 280 = .ok (.ldc2_w 219, 3) := by decide +kernel
theorem d_M_digest_283 : decode b_M_digest 283 = .ok (.lload_n 1, 1) := by decide +kernel
theorem d_M_digest_284 : decode b_M_digest 284 = .ok (.lmul, 1) := by decide +kernel
theorem d_M_digest_285 : decode b_M_digest 285 = .ok (.aload_n 0, 1) := by decide +kernel
theorem d_M_digest_286 : decode b_M_digest 286 = .ok (.iload 4, 2) := by decide +kernel
theorem d_M_digest_288 : decode b_M_digest 288 = .ok (.aload_n 0, 1) := by decide +kernel
theorem d_M_digest_289 : decode b_M_digest 289 = .ok (.bipush 7, 2) := by decide +kernel
theorem d_M_digest_291 : decode b_M_digest 291 = .ok (.invokevirtual 198, 3) := by decide +kernel
theorem d_M_digest_294 : decode b_M_digest 294 = .ok (.invokevirtual 194, 3) := by decide +kernel
theorem d_M_digest_297 : decode b_M_digest 297 = .ok (.i2l, 1) := by decide +kernel
theorem d_M_digest_298 : decode b_M_digest 298 = .ok (.ladd, 1) := by decide +kernel
theorem d_M_digest_299 : decode b_M_digest 299 = .ok (.lstore_n 1, 1) := by decide +kernel
theorem d_M_digest_300 : decode b_M_digest 300 = .ok (.ldc2_w 219, 3) := by decide +kernel
theorem d_M_digest_303 : decode b_M_digest 303 = .ok (.lload_n 1, 1) := by decide +kernel
theorem d_M_digest_304 : decode b_M_digest 304 = .ok (.lmul, 1) := by decide +kernel
theorem d_M_digest_305 : decode b_M_digest 305 = .ok (.aload_n 0, 1) := by decide +kernel
theorem d_M_digest_306 : decode b_M_digest 306 = .ok (.iload 4, 2) := by decide +kernel
theorem d_M_digest_308 : decode b_M_digest 308 = .ok (.invokevirtual 207, 3) := by decide +kernel
theorem d_M_digest_311 : decode b_M_digest 311 = .ok (.i2l, 1) := by decide +kernel
theorem d_M_digest_312 : decode b_M_digest 312 = .ok (.ladd, 1) := by decide +kernel
theorem d_M_digest_313 : decode b_M_digest 313 = .ok (.lstore_n 1, 1) := by decide +kernel
theorem d_M_digest_314 : decode b_M_digest 314 = .ok (.ldc2_w 219, 3) := by decide +kernel
theorem d_M_digest_317 : decode b_M_digest 317 = .ok (.lload_n 1, 1) := by decide +kernel
theorem d_M_digest_318 : decode b_M_digest 318 = .ok (.lmul, 1) := by decide +kernel
theorem d_M_digest_319 : decode b_M_digest 319 = .ok (.aload_n 0, 1) := by decide +kernel
theorem d_M_digest_320 : decode b_M_digest 320 = .ok (.iload 4, 2) := by decide +kernel
theorem d_M_digest_322 : decode b_M_digest 322 = .ok (.invokevirtual 229, 3) := by decide +kernel
theorem d_M_digest_325 : decode b_M_digest 325 = .ok (.i2l, 1) := by decide +kernel
theorem d_M_digest_326 : decode b_M_digest 326 = .ok (.ladd, 1) := by decide +kernel
theorem d_M_digest_327 : decode b_M_digest 327 = .ok (.lstore_n 1, 1) := by decide +kernel
theorem d_M_digest_328 : decode b_M_digest 328 = .ok (.ldc2_w 219, 3) := by decide +kernel
theorem d_M_digest_331 : decode b_M_digest 331 = .ok (.lload_n 1, 1) := by decide +kernel
theorem d_M_digest_332 : decode b_M_digest 332 = .ok (.lmul, 1) := by decide +kernel
theorem d_M_digest_333 : decode b_M_digest 333 = .ok (.aload_n 0, 1) := by decide +kernel
theorem d_M_digest_334 : decode b_M_digest 334 = .ok (.iload 4, 2) := by decide +kernel
theorem d_M_digest_336 : decode b_M_digest 336 = .ok (.invokevirtual 232, 3) := by decide +kernel
theorem d_M_digest_339 : decode b_M_digest 339 = .ok (.i2l, 1) := by decide +kernel
theorem d_M_digest_340 : decode b_M_digest 340 = .ok (.ladd, 1) := by decide +kernel
theorem d_M_digest_341 : decode b_M_digest 341 = .ok (.lstore_n 1, 1) := by decide +kernel
theorem d_M_digest_342 : decode b_M_digest 342 = .ok (.iconst 0, 1) := by decide +kernel
theorem d_M_digest_343 : decode b_M_digest 343 = .ok (.istore 5, 2) := by decide +kernel
theorem d_M_digest_345 : decode b_M_digest 345 = .ok (.iload 5, 2) := by decide +kernel
theorem d_M_digest_347 : decode b_M_digest 347 = .ok (.iconst 2, 1) := by decide +kernel
theorem d_M_digest_348 : decode b_M_digest 348 = .ok (.if_icmp .ge 24, 3) := by decide +kernel
theorem d_M_digest_351 : decode b_M_digest 351 = .ok (.ldc2_w 219, 3) := by decide +kernel
theorem d_M_digest_354 : decode b_M_digest 354 = .ok (.lload_n 1, 1) := by decide +kernel
theorem d_M_digest_355 : decode b_M_digest 355 = .ok (.lmul, 1) := by decide +kernel
theorem d_M_digest_356 : decode b_M_digest 356 = .ok (.aload_n 0, 1) := by decide +kernel
theorem d_M_digest_357 : decode b_M_digest 357 = .ok (.iload 4, 2) := by decide +kernel
theorem d_M_digest_359 : decode b_M_digest 359 = .ok (.iload 5, 2) := by decide +kernel
theorem d_M_digest_361 : decode b_M_digest 361 = .ok (.invokevirtual 244, 3) := by decide +kernel
theorem d_M_digest_364 : decode b_M_digest 364 = .ok (.ladd, 1) := by decide +kernel
theorem d_M_digest_365 : decode b_M_digest 365 = .ok (.lstore_n 1, 1) := by decide +kernel
theorem d_M_digest_366 : decode b_M_digest 366 = .ok (.iinc 5 1, 3) := by decide +kernel
theorem d_M_digest_369 : decode b_M_digest 369 = .ok (.goto (-24), 3) := by decide +kernel
theorem d_M_digest_372 : decode b_M_digest 372 = .ok (.iinc 4 1, 3) := by decide +kernel
theorem d_M_digest_375 : decode b_M_digest 375 = .ok (.goto (-147), 3) := by decide +kernel
theorem d_M_digest_378 : decode b_M_digest 378 = .ok (.ldc2_w 219, 3) := by decide +kernel
theorem d_M_digest_381 : decode b_M_digest 381 = .ok (.lload_n 1, 1) := by decide +kernel
theorem d_M_digest_382 : decode b_M_digest 382 = .ok (.lmul, 1) := by decide +kernel
theorem d_M_digest_383 : decode b_M_digest 383 = .ok (.aload_n 0, 1) := by decide +kernel
theorem d_M_digest_384 : decode b_M_digest 384 = .ok (.iconst (-1), 1) := by decide +kernel
theorem d_M_digest_385 : decode b_M_digest 385 = .ok (.invokevirtual 229, 3) := by decide +kernel
theorem d_M_digest_388 : decode b_M_digest 388 = .ok (.i2l, 1) := by decide +kernel
theorem d_M_digest_389 : decode b_M_digest 389 = .ok (.ladd, 1) := by decide +kernel
theorem d_M_digest_390 : decode b_M_digest 390 = .ok (.lstore_n 1, 1) := by decide +kernel
theorem d_M_digest_391 : decode b_M_digest 391 = .ok (.ldc2_w 219, 3) := by decide +kernel
theorem d_M_digest_394 : decode b_M_digest 394 = .ok (.lload_n 1, 1) := by decide +kernel
theorem d_M_digest_395 : decode b_M_digest 395 = .ok (.lmul, 1) := by decide +kernel
theorem d_M_digest_396 : decode b_M_digest 396 = .ok (.aload_n 0, 1) := by decide +kernel
theorem d_M_digest_397 : decode b_M_digest 397 = .ok (.iconst 3, 1) := by decide +kernel
theorem d_M_digest_398 : decode b_M_digest 398 = .ok (.iconst 2, 1) := by decide +kernel
theorem d_M_digest_399 : decode b_M_digest 399 = .ok (.iconst 0, 1) := by decide +kernel
theorem d_M_digest_400 : decode b_M_digest 400 = .ok (.invokevirtual 221, 3) := by decide +kernel
theorem d_M_digest_403 : decode b_M_digest 403 = .ok (.i2l, 1) := by decide +kernel
theorem d_M_digest_404 : decode b_M_digest 404 = .ok (.ladd, 1) := by decide +kernel
theorem d_M_digest_405 : decode b_M_digest 405 = .ok (.lstore_n 1, 1) := by decide +kernel
theorem d_M_digest_406 : decode b_M_digest 406 = .ok (.ldc2_w 219, 3) := by decide +kernel
theorem d_M_digest_409 : decode b_M_digest 409 = .ok (.lload_n 1, 1) := by decide +kernel
theorem d_M_digest_410 : decode b_M_digest 410 = .ok (.lmul, 1) := by decide +kernel
theorem d_M_digest_411 : decode b_M_digest 411 = .ok (.aload_n 0, 1) := by decide +kernel
theorem d_M_digest_412 : decode b_M_digest 412 = .ok (.iconst 3, 1) := by decide +kernel
theorem d_M_digest_413 : decode b_M_digest 413 = .ok (.iconst 2, 1) := by decide +kernel
theorem d_M_digest_414 : decode b_M_digest 414 = .ok (.iconst 1, 1) := by decide +kernel
theorem d_M_digest_415 : decode b_M_digest 415 = .ok (.invokevirtual 221, 3) := by decide +kernel
theorem d_M_digest_418 : decode b_M_digest 418 = .ok (.i2l, 1) := by decide +kernel
theorem d_M_digest_419 : decode b_M_digest 419 = .ok (.ladd, 1) := by decide +kernel
theorem d_M_digest_420 : decode b_M_digest 420 = .ok (.lstore_n 1, 1) := by decide +kernel
theorem d_M_digest_421 : decode b_M_digest 421 = .ok (.ldc2_w 219, 3) := by decide +kernel
theorem d_M_digest_424 : decode b_M_digest 424 = .ok (.lload_n 1, 1) := by decide +kernel
theorem d_M_digest_425 : decode b_M_digest 425 = .ok (.lmul, 1) := by decide +kernel
theorem d_M_digest_426 : decode b_M_digest 426 = .ok (.aload_n 0, 1) := by decide +kernel
theorem d_M_digest_427 : decode b_M_digest 427 = .ok (.bipush 31, 2) := by decide +kernel
theorem d_M_digest_429 : decode b_M_digest 429 = .ok (.invokevirtual 235, 3) := by decide +kernel
theorem d_M_digest_432 : decode b_M_digest 432 = .ok (.i2l, 1) := by decide +kernel
theorem d_M_digest_433 : decode b_M_digest 433 = .ok (.ladd, 1) := by decide +kernel
theorem d_M_digest_434 : decode b_M_digest 434 = .ok (.lstore_n 1, 1) := by decide +kernel
theorem d_M_digest_435 : decode b_M_digest 435 = .ok (.ldc2_w 219, 3) := by decide +kernel
theorem d_M_digest_438 : decode b_M_digest 438 = .ok (.lload_n 1, 1) := by decide +kernel
theorem d_M_digest_439 : decode b_M_digest 439 = .ok (.lmul, 1) := by decide +kernel
theorem d_M_digest_440 : decode b_M_digest 440 = .ok (.iload_n 3, 1) := by decide +kernel
theorem d_M_digest_441 : decode b_M_digest 441 = .ok (.i2l, 1) := by decide +kernel
theorem d_M_digest_442 : decode b_M_digest 442 = .ok (.ladd, 1) := by decide +kernel
theorem d_M_digest_443 : decode b_M_digest 443 = .ok (.lstore_n 1, 1) := by decide +kernel
theorem d_M_digest_444 : decode b_M_digest 444 = .ok (.ldc2_w 219, 3) := by decide +kernel
theorem d_M_digest_447 : decode b_M_digest 447 = .ok (.lload_n 1, 1) := by decide +kernel
theorem d_M_digest_448 : decode b_M_digest 448 = .ok (.lmul, 1) := by decide +kernel
theorem d_M_digest_449 : decode b_M_digest 449 = .ok (.aload_n 0, 1) := by decide +kernel
theorem d_M_digest_450 : decode b_M_digest 450 = .ok (.iconst 0, 1) := by decide +kernel
theorem d_M_digest_451 : decode b_M_digest 451 = .ok (.iconst 1, 1) := by decide +kernel
theorem d_M_digest_452 : decode b_M_digest 452 = .ok (.invokevirtual 268, 3) := by decide +kernel
theorem d_M_digest_455 : decode b_M_digest 455 = .ok (.i2l, 1) := by decide +kernel
theorem d_M_digest_456 : decode b_M_digest 456 = .ok (.ladd, 1) := by decide +kernel
theorem d_M_digest_457 : decode b_M_digest 457 = .ok (.lreturn, 1) := by decide +kernel
noncomputable def M_digest_L6 (S : St) (x1 : Int64) (x3 : Int32) : Option ((Int64 × Int32 × St) × Nat) :=
  if 8 ≤ x3 then
      some ((x1, x3, S), 1)
    else
      bnd (M_count S x3) fun z1 =>
      some (((31 * x1) + z1.1.toInt64, x3 + 1, z1.2), 0)
noncomputable def M_digest_J89 (S : St) (x3 : Int32) (t0 : Int64) (t1 : Int32) : Option ((Int64 × Int32 × St) × Nat) :=
  bnd (M_withoutOf S x3 0) fun z2 =>
    some (((31 * (t0 + t1.toInt64)) + z2.1.toInt64, x3 + 1, z2.2), 0)
noncomputable def M_digest_L57 (S : St) (x1 : Int64) (x3 : Int32) : Option ((Int64 × Int32 × St) × Nat) :=
  if (S 49 8) ≤ x3 then
      some ((x1, x3, S), 1)
    else
      bnd (M_looks S (-1)) fun z3 =>
      chk (inb x3 20) <|
      if (z3 65 (ix x3)) = 0 then
        M_digest_J89 z3 x3 (31 * x1) 0
      else
        M_digest_J89 z3 x3 (31 * x1) 1
noncomputable def M_digest_L191 (S : St) (x1 : Int64) (x3 : Int32) (x4 : Int32) (x5 : Int32) : Option ((Int64 × Int32) × Nat) :=
  if 2 ≤ x5 then
      some ((x1, x5), 1)
    else
      bnd (M_worthOf S 1 x4 x5) fun z4 =>
      some (((31 * x1) + z4, x5 + 1), 0)
noncomputable def M_digest_J219 (S : St) (x1 : Int64) (x3 : Int32) (x4 : Int32) : Option ((Int64 × Int32) × Nat) :=
  some ((x1, x4 + 1), 0)
noncomputable def M_digest_L124 (S : St) (x1 : Int64) (x3 : Int32) (x4 : Int32) : Option ((Int64 × Int32) × Nat) :=
  if 10 ≤ x4 then
      some ((x1, x4), 1)
    else
      bnd (M_ownerOf S x4) fun z5 =>
      bnd (M_priceOf S x4) fun z6 =>
      bnd (M_harmOf S x4) fun z7 =>
      chk (inb x4 10) <|
      bnd (lp (σ := Int64 × Int32) (fun q => M_digest_L191 S q.1 x3 x4 q.2) FZ ((31 * ((31 * ((31 * ((31 * x1) + z5.toInt64)) + z6.toInt64)) + z7.toInt64)) + ((S 69 (ix x4)).toInt64), 0)) fun z8 =>
      M_digest_J219 S z8.1.1 x3 x4
noncomputable def M_digest_L237 (S : St) (x1 : Int64) (x3 : Int32) (x4 : Int32) (x5 : Int32) : Option ((Int64 × Int32) × Nat) :=
  if 3 ≤ x5 then
      some ((x1, x5), 1)
    else
      bnd (M_hasOf S x4 x5) fun z9 =>
      some (((31 * x1) + z9.toInt64, x5 + 1), 0)
noncomputable def M_digest_L345 (S : St) (x1 : Int64) (x3 : Int32) (x4 : Int32) (x5 : Int32) : Option ((Int64 × Int32) × Nat) :=
  if 2 ≤ x5 then
      some ((x1, x5), 1)
    else
      bnd (M_shareOf S x4 x5) fun z10 =>
      some (((31 * x1) + z10, x5 + 1), 0)
noncomputable def M_digest_J372 (S : St) (x1 : Int64) (x3 : Int32) (x4 : Int32) : Option ((Int64 × Int32 × St) × Nat) :=
  some ((x1, x4 + 1, S), 0)
noncomputable def M_digest_J265 (S : St) (x1 : Int64) (x3 : Int32) (x4 : Int32) : Option ((Int64 × Int32 × St) × Nat) :=
  bnd (M_happyOf S x4 0) fun z11 =>
    bnd (M_refusedBy S 7) fun z12 =>
    bnd (M_happyOf S x4 z12) fun z13 =>
    bnd (M_gainOf S x4) fun z14 =>
    bnd (M_eachOf S x4) fun z15 =>
    bnd (M_paysOf z15.2 x4) fun z16 =>
    bnd (lp (σ := Int64 × Int32) (fun q => M_digest_L345 z16.2 q.1 x3 x4 q.2) FZ ((31 * ((31 * ((31 * ((31 * ((31 * x1) + z11.toInt64)) + z13.toInt64)) + z14.toInt64)) + z15.1.toInt64)) + z16.1.toInt64, 0)) fun z17 =>
    M_digest_J372 z16.2 z17.1.1 x3 x4
noncomputable def M_digest_L228 (S : St) (x1 : Int64) (x3 : Int32) (x4 : Int32) : Option ((Int64 × Int32 × St) × Nat) :=
  if 5 ≤ x4 then
      some ((x1, x4, S), 1)
    else
      bnd (lp (σ := Int64 × Int32) (fun q => M_digest_L237 S q.1 x3 x4 q.2) FZ (x1, 0)) fun z18 =>
      M_digest_J265 S z18.1.1 x3 x4
noncomputable def M_digest_J378 (S : St) (x1 : Int64) (x3 : Int32) : Option (Int64 × St) :=
  bnd (M_eachOf S (-1)) fun z19 =>
    bnd (M_meetOf z19.2 3 2 0) fun z20 =>
    bnd (M_meetOf z19.2 3 2 1) fun z21 =>
    bnd (M_clubOf z19.2 31) fun z22 =>
    bnd (M_swapOf z19.2 0 1) fun z23 =>
    some ((31 * ((31 * ((31 * ((31 * ((31 * ((31 * x1) + z19.1.toInt64)) + z20.toInt64)) + z21.toInt64)) + z22.toInt64)) + x3.toInt64)) + z23.toInt64, z19.2)
noncomputable def M_digest_J225 (S : St) (x1 : Int64) (x3 : Int32) : Option (Int64 × St) :=
  bnd (lp (σ := Int64 × Int32 × St) (fun q => M_digest_L228 q.2.2 q.1 x3 q.2.1) FZ (x1, 0, S)) fun z24 =>
    M_digest_J378 z24.1.2.2 z24.1.1 x3
noncomputable def M_digest_J112 (S : St) (x1 : Int64) : Option (Int64 × St) :=
  bnd (M_find S) fun z25 =>
    bnd (M_findWays z25) fun z26 =>
    bnd (lp (σ := Int64 × Int32) (fun q => M_digest_L124 z26.2 q.1 z26.1 q.2) FZ (x1, 0)) fun z27 =>
    M_digest_J225 z26.2 z27.1.1 z26.1
noncomputable def M_digest_J31 (S : St) (x1 : Int64) : Option (Int64 × St) :=
  bnd (M_reads S) fun z28 =>
    bnd (lp (σ := Int64 × Int32 × St) (fun q => M_digest_L57 q.2.2 q.1 q.2.1) FZ ((31 * ((31 * x1) + z28.1.toInt64)) + ((z28.2 49 20).toInt64), 0, z28.2)) fun z29 =>
    M_digest_J112 z29.1.2.2 z29.1.1
noncomputable def M_digest (S : St) : Option (Int64 × St) :=
  bnd (lp (σ := Int64 × Int32 × St) (fun q => M_digest_L6 q.2.2 q.1 q.2.1) FZ (17, 0, S)) fun z30 =>
    M_digest_J31 z30.1.2.2 z30.1.1
set_option maxHeartbeats 4000000 in
set_option maxRecDepth 100000 in
theorem L_M_digest_6 (C : gCx p s m args meth c y_M_digest.cls b_M_digest 6 (some .long)) : ∀ (n : Nat) (x1 : Int64) (x3 : Int32) (S : St) (r : (Int64 × Int32 × St) × Nat), lp (σ := Int64 × Int32 × St) (fun q => M_digest_L6 q.2.2 q.1 q.2.1) n (x1, x3, S) = some r → (∀ (y1 : Int64) (y3 : Int32) (Sy : St), r = ((y1, y3, Sy), 1) → ∀ (ls : Array Slot) (H : Heap) (locs : List Loc), GH w s A Sy H locs → lv_has ls 6 [(0, .ref (gad w 49)), (1, .long y1)] → W p l e (rmm 6 135) s m args below meth c H locs 0 0 Q (F0 m 31 ls [])) → ∀ (ls : Array Slot) (H : Heap) (locs : List Loc), GH w s A S H locs → lv_has ls 6 [(0, .ref (gad w 49)), (1, .long x1), (3, .int x3)] → W p l e (rmm 6 135) s m args below meth c H locs 0 0 Q (F0 m 6 ls []) := by
  have hx := C.1
  have hb := C.2.1
  intro n
  induction n with
  | zero => intro x1 x3 S r h; cases h
  | succ n ih =>
    intro x1 x3 S r h k1 ls H locs hG hl
    obtain ⟨z, h, hr⟩ := lp_succ h
    have h : M_digest_L6 S x1 x3 = some z := h
    unfold M_digest_L6 at h
    refine lv_iload_n hx hb d_M_digest_6 rfl (lv_at hl 2 rfl) ?_
    refine lv_bipush (v := 8) hx hb d_M_digest_7 (by decide) ?_
    refine lv_icmp_ge (tgt := 31) hx hb d_M_digest_9 (by decide) (fun hc => ?_) (fun hc => ?_)
    · replace h := it_t h hc
      exact k1 _ _ _ (lp_exit h hr) ls _ _ hG (lv_sub hl [0, 1] rfl)
    · replace h := it_f h hc
      refine lv_ldc2 (v := 31) hx hb C.2.2.2.1 (C.2.2.2.2.1 _ qw987) d_M_digest_12 ?_
      refine lv_lload_n hx hb d_M_digest_15 rfl (lv_at hl 1 rfl) ?_
      refine lv_lmul hx hb d_M_digest_16 ?_
      refine lv_aload_n hx hb d_M_digest_17 rfl (lv_at hl 0 rfl) ?_
      refine lv_iload_n hx hb d_M_digest_18 rfl (lv_at hl 2 rfl) ?_
      obtain ⟨z1, hz1, h⟩ := bnd_some h
      refine g_goi hG (g_runV (As := [.int x3]) (rest := [.long (31 * x1)]) C hG (c_M_count l w S x3 hz1 _) (hG.lt (Nat.le_of_ble_eq_true rfl)) (ce49 w _) rfl vw_M_273 rfl rfl ⟨by decide, by decide⟩ rfl hl.1 rfl (Nat.le_of_ble_eq_true rfl) d_M_digest_19 ⟨Nat.zero_le _, Nat.zero_le _⟩) (fun H locs hG => ?_)
      refine lv_i2l (v := z1.1.toInt64) hx hb d_M_digest_22 rfl ?_
      refine lv_ladd hx hb d_M_digest_23 ?_
      refine lv_lstore_n (lv' := [(1, .long ((31 * x1) + z1.1.toInt64)), (0, .ref (gad w 49)), (3, .int x3)]) hx hb d_M_digest_24 rfl hl (by decide) rfl (fun ls hl => ?_)
      refine lv_iinc (v := x3 + 1) (lv' := [(3, .int (x3 + 1)), (1, .long ((31 * x1) + z1.1.toInt64)), (0, .ref (gad w 49))]) hx hb d_M_digest_25 hl (k := 2) rfl (congrArg (HAdd.hAdd x3) (by decide : Int32.ofInt 1 = 1)) (by decide) rfl (fun ls hl => ?_)
      refine lv_goto (tgt := 6) hx hb d_M_digest_28 (by decide) ?_
      exact ih _ _ _ _ (lp_back h hr) k1 ls _ _ hG (lv_sub hl [2, 1, 0] rfl)
set_option maxHeartbeats 4000000 in
set_option maxRecDepth 100000 in
theorem L_M_digest_57 (C : gCx p s m args meth c y_M_digest.cls b_M_digest 6 (some .long)) : ∀ (n : Nat) (x1 : Int64) (x3 : Int32) (S : St) (r : (Int64 × Int32 × St) × Nat), lp (σ := Int64 × Int32 × St) (fun q => M_digest_L57 q.2.2 q.1 q.2.1) n (x1, x3, S) = some r → (∀ (y1 : Int64) (y3 : Int32) (Sy : St), r = ((y1, y3, Sy), 1) → ∀ (ls : Array Slot) (H : Heap) (locs : List Loc), GH w s A Sy H locs → lv_has ls 6 [(0, .ref (gad w 49)), (1, .long y1)] → W p l e (rmm 6 135) s m args below meth c H locs 0 0 Q (F0 m 112 ls [])) → ∀ (ls : Array Slot) (H : Heap) (locs : List Loc), GH w s A S H locs → lv_has ls 6 [(0, .ref (gad w 49)), (1, .long x1), (3, .int x3)] → W p l e (rmm 6 135) s m args below meth c H locs 0 0 Q (F0 m 57 ls []) := by
  have hx := C.1
  have hb := C.2.1
  intro n
  induction n with
  | zero => intro x1 x3 S r h; cases h
  | succ n ih =>
    intro x1 x3 S r h k1 ls H locs hG hl
    obtain ⟨z, h, hr⟩ := lp_succ h
    have h : M_digest_L57 S x1 x3 = some z := h
    have J89 : ∀ (S : St) (x3 : Int32) (t0 : Int64) (t1 : Int32), M_digest_J89 S x3 t0 t1 = some z → ∀ (ls : Array Slot) (H : Heap) (locs : List Loc), GH w s A S H locs → lv_has ls 6 [(0, .ref (gad w 49)), (3, .int x3)] → W p l e (rmm 6 135) s m args below meth c H locs 0 0 Q (F0 m 89 ls [.int t1, .long t0]) := by
      intro S x3 t0 t1 h ls H locs hG hl
      unfold M_digest_J89 at h
      refine lv_i2l (v := t1.toInt64) hx hb d_M_digest_89 rfl ?_
      refine lv_ladd hx hb d_M_digest_90 ?_
      refine lv_lstore_n (lv' := [(1, .long (t0 + t1.toInt64)), (0, .ref (gad w 49)), (3, .int x3)]) hx hb d_M_digest_91 rfl hl (by decide) rfl (fun ls hl => ?_)
      refine lv_ldc2 (v := 31) hx hb C.2.2.2.1 (C.2.2.2.2.1 _ qw987) d_M_digest_92 ?_
      refine lv_lload_n hx hb d_M_digest_95 rfl (lv_at hl 0 rfl) ?_
      refine lv_lmul hx hb d_M_digest_96 ?_
      refine lv_aload_n hx hb d_M_digest_97 rfl (lv_at hl 1 rfl) ?_
      refine lv_iload_n hx hb d_M_digest_98 rfl (lv_at hl 2 rfl) ?_
      refine lv_iconst (v := 0) hx hb d_M_digest_99 (by decide) ?_
      obtain ⟨z2, hz2, h⟩ := bnd_some h
      refine g_goi hG (g_runV (As := [.int x3, .int 0]) (rest := [.long (31 * (t0 + t1.toInt64))]) C hG (c_M_withoutOf l w S x3 0 hz2 _) (hG.lt (Nat.le_of_ble_eq_true rfl)) (ce49 w _) rfl vw_M_210 rfl rfl ⟨by decide, by decide⟩ rfl hl.1 rfl (Nat.le_of_ble_eq_true rfl) d_M_digest_100 ⟨Nat.zero_le _, Nat.zero_le _⟩) (fun H locs hG => ?_)
      refine lv_i2l (v := z2.1.toInt64) hx hb d_M_digest_103 rfl ?_
      refine lv_ladd hx hb d_M_digest_104 ?_
      refine lv_lstore_n (lv' := [(1, .long ((31 * (t0 + t1.toInt64)) + z2.1.toInt64)), (0, .ref (gad w 49)), (3, .int x3)]) hx hb d_M_digest_105 rfl hl (by decide) rfl (fun ls hl => ?_)
      refine lv_iinc (v := x3 + 1) (lv' := [(3, .int (x3 + 1)), (1, .long ((31 * (t0 + t1.toInt64)) + z2.1.toInt64)), (0, .ref (gad w 49))]) hx hb d_M_digest_106 hl (k := 2) rfl (congrArg (HAdd.hAdd x3) (by decide : Int32.ofInt 1 = 1)) (by decide) rfl (fun ls hl => ?_)
      refine lv_goto (tgt := 57) hx hb d_M_digest_109 (by decide) ?_
      exact ih _ _ _ _ (lp_back h hr) k1 ls _ _ hG (lv_sub hl [2, 1, 0] rfl)
    unfold M_digest_L57 at h
    refine lv_iload_n hx hb d_M_digest_57 rfl (lv_at hl 2 rfl) ?_
    refine lv_aload_n hx hb d_M_digest_58 rfl (lv_at hl 0 rfl) ?_
    refine g_get C hG (hG.lt (Nat.le_of_ble_eq_true rfl)) (ce49 w _) rfl inC8 8 (Nat.le_of_ble_eq_true rfl) qw684 rfl d_M_digest_59 ?_
    refine lv_icmp_ge (tgt := 112) hx hb d_M_digest_62 (by decide) (fun hc => ?_) (fun hc => ?_)
    · replace h := it_t h hc
      exact k1 _ _ _ (lp_exit h hr) ls _ _ hG (lv_sub hl [0, 1] rfl)
    · replace h := it_f h hc
      refine lv_aload_n hx hb d_M_digest_65 rfl (lv_at hl 0 rfl) ?_
      refine lv_iconst (v := (-1)) hx hb d_M_digest_66 (by decide) ?_
      obtain ⟨z3, hz3, h⟩ := bnd_some h
      refine g_gov hG (g_runV (As := [.int (-1)]) (rest := []) C hG (c_M_looks l w S (-1) hz3 _) (hG.lt (Nat.le_of_ble_eq_true rfl)) (ce49 w _) rfl vw_M_177 rfl rfl ⟨by decide, by decide⟩ rfl hl.1 rfl (Nat.le_of_ble_eq_true rfl) d_M_digest_67 ⟨Nat.zero_le _, Nat.zero_le _⟩) (fun H locs hG => ?_)
      refine lv_ldc2 (v := 31) hx hb C.2.2.2.1 (C.2.2.2.2.1 _ qw987) d_M_digest_70 ?_
      refine lv_lload_n hx hb d_M_digest_73 rfl (lv_at hl 1 rfl) ?_
      refine lv_lmul hx hb d_M_digest_74 ?_
      refine lv_aload_n hx hb d_M_digest_75 rfl (lv_at hl 0 rfl) ?_
      refine g_get C hG (hG.lt (Nat.le_of_ble_eq_true rfl)) (ce49 w _) rfl inC8 19 (Nat.le_of_ble_eq_true rfl) qw695 rfl d_M_digest_76 ?_
      refine lv_iload_n hx hb d_M_digest_79 rfl (lv_at hl 2 rfl) ?_
      obtain ⟨hi1, h⟩ := chk_some h
      refine g_zald (j := ix x3) C hG (hG.lt (Nat.le_of_ble_eq_true rfl)) (ce65 w _) (inb_in hi1) rfl d_M_digest_80 ?_
      refine lv_if_eq (tgt := 88) hx hb d_M_digest_81 (by decide) (fun hc => ?_) (fun hc => ?_)
      · replace h := it_t h hc
        refine lv_iconst (v := 0) hx hb d_M_digest_88 (by decide) ?_
        exact J89 _ _ _ _ h ls _ _ hG (lv_sub hl [0, 2] rfl)
      · replace h := it_f h hc
        refine lv_iconst (v := 1) hx hb d_M_digest_84 (by decide) ?_
        refine lv_goto (tgt := 89) hx hb d_M_digest_85 (by decide) ?_
        exact J89 _ _ _ _ h ls _ _ hG (lv_sub hl [0, 2] rfl)
set_option maxHeartbeats 4000000 in
set_option maxRecDepth 100000 in
theorem L_M_digest_191 (C : gCx p s m args meth c y_M_digest.cls b_M_digest 6 (some .long)) : ∀ (S : St) (x3 : Int32) (x4 : Int32) (n : Nat) (x1 : Int64) (x5 : Int32) (r : (Int64 × Int32) × Nat), lp (σ := Int64 × Int32) (fun q => M_digest_L191 S q.1 x3 x4 q.2) n (x1, x5) = some r → (∀ (y1 : Int64) (y5 : Int32), r = ((y1, y5), 1) → ∀ (ls : Array Slot) (H : Heap) (locs : List Loc), GH w s A S H locs → lv_has ls 6 [(0, .ref (gad w 49)), (1, .long y1), (3, .int x3), (4, .int x4)] → W p l e (rmm 6 135) s m args below meth c H locs 0 0 Q (F0 m 219 ls [])) → ∀ (ls : Array Slot) (H : Heap) (locs : List Loc), GH w s A S H locs → lv_has ls 6 [(0, .ref (gad w 49)), (1, .long x1), (3, .int x3), (4, .int x4), (5, .int x5)] → W p l e (rmm 6 135) s m args below meth c H locs 0 0 Q (F0 m 191 ls []) := by
  have hx := C.1
  have hb := C.2.1
  intro S x3 x4 n
  induction n with
  | zero => intro x1 x5 r h; cases h
  | succ n ih =>
    intro x1 x5 r h k1 ls H locs hG hl
    obtain ⟨z, h, hr⟩ := lp_succ h
    have h : M_digest_L191 S x1 x3 x4 x5 = some z := h
    unfold M_digest_L191 at h
    refine lv_iload hx hb d_M_digest_191 (lv_at hl 4 rfl) ?_
    refine lv_iconst (v := 2) hx hb d_M_digest_193 (by decide) ?_
    refine lv_icmp_ge (tgt := 219) hx hb d_M_digest_194 (by decide) (fun hc => ?_) (fun hc => ?_)
    · replace h := it_t h hc
      exact k1 _ _ (lp_exit h hr) ls _ _ hG (lv_sub hl [0, 1, 2, 3] rfl)
    · replace h := it_f h hc
      refine lv_ldc2 (v := 31) hx hb C.2.2.2.1 (C.2.2.2.2.1 _ qw987) d_M_digest_197 ?_
      refine lv_lload_n hx hb d_M_digest_200 rfl (lv_at hl 1 rfl) ?_
      refine lv_lmul hx hb d_M_digest_201 ?_
      refine lv_aload_n hx hb d_M_digest_202 rfl (lv_at hl 0 rfl) ?_
      refine lv_iconst (v := 1) hx hb d_M_digest_203 (by decide) ?_
      refine lv_iload hx hb d_M_digest_204 (lv_at hl 3 rfl) ?_
      refine lv_iload hx hb d_M_digest_206 (lv_at hl 4 rfl) ?_
      obtain ⟨z4, hz4, h⟩ := bnd_some h
      refine g_gol hG (g_runV (As := [.int 1, .int x4, .int x5]) (rest := [.long (31 * x1)]) C hG (c_M_worthOf l w S 1 x4 x5 hz4 _) (hG.lt (Nat.le_of_ble_eq_true rfl)) (ce49 w _) rfl vw_M_264 rfl rfl ⟨by decide, by decide⟩ rfl hl.1 rfl (Nat.le_of_ble_eq_true rfl) d_M_digest_208 ⟨Nat.zero_le _, Nat.zero_le _⟩) (fun H locs hG => ?_)
      refine lv_ladd hx hb d_M_digest_211 ?_
      refine lv_lstore_n (lv' := [(1, .long ((31 * x1) + z4)), (0, .ref (gad w 49)), (3, .int x3), (4, .int x4), (5, .int x5)]) hx hb d_M_digest_212 rfl hl (by decide) rfl (fun ls hl => ?_)
      refine lv_iinc (v := x5 + 1) (lv' := [(5, .int (x5 + 1)), (1, .long ((31 * x1) + z4)), (0, .ref (gad w 49)), (3, .int x3), (4, .int x4)]) hx hb d_M_digest_213 hl (k := 4) rfl (congrArg (HAdd.hAdd x5) (by decide : Int32.ofInt 1 = 1)) (by decide) rfl (fun ls hl => ?_)
      refine lv_goto (tgt := 191) hx hb d_M_digest_216 (by decide) ?_
      exact ih _ _ _ (lp_back h hr) k1 ls _ _ hG (lv_sub hl [2, 1, 3, 4, 0] rfl)
set_option maxHeartbeats 4000000 in
set_option maxRecDepth 100000 in
theorem L_M_digest_124 (C : gCx p s m args meth c y_M_digest.cls b_M_digest 6 (some .long)) : ∀ (S : St) (x3 : Int32) (n : Nat) (x1 : Int64) (x4 : Int32) (r : (Int64 × Int32) × Nat), lp (σ := Int64 × Int32) (fun q => M_digest_L124 S q.1 x3 q.2) n (x1, x4) = some r → (∀ (y1 : Int64) (y4 : Int32), r = ((y1, y4), 1) → ∀ (ls : Array Slot) (H : Heap) (locs : List Loc), GH w s A S H locs → lv_has ls 6 [(0, .ref (gad w 49)), (1, .long y1), (3, .int x3)] → W p l e (rmm 6 135) s m args below meth c H locs 0 0 Q (F0 m 225 ls [])) → ∀ (ls : Array Slot) (H : Heap) (locs : List Loc), GH w s A S H locs → lv_has ls 6 [(0, .ref (gad w 49)), (1, .long x1), (3, .int x3), (4, .int x4)] → W p l e (rmm 6 135) s m args below meth c H locs 0 0 Q (F0 m 124 ls []) := by
  have hx := C.1
  have hb := C.2.1
  intro S x3 n
  induction n with
  | zero => intro x1 x4 r h; cases h
  | succ n ih =>
    intro x1 x4 r h k1 ls H locs hG hl
    obtain ⟨z, h, hr⟩ := lp_succ h
    have h : M_digest_L124 S x1 x3 x4 = some z := h
    have J219 : ∀ (x1 : Int64) (x4 : Int32), M_digest_J219 S x1 x3 x4 = some z → ∀ (ls : Array Slot) (H : Heap) (locs : List Loc), GH w s A S H locs → lv_has ls 6 [(0, .ref (gad w 49)), (1, .long x1), (3, .int x3), (4, .int x4)] → W p l e (rmm 6 135) s m args below meth c H locs 0 0 Q (F0 m 219 ls []) := by
      intro x1 x4 h ls H locs hG hl
      unfold M_digest_J219 at h
      refine lv_iinc (v := x4 + 1) (lv' := [(4, .int (x4 + 1)), (0, .ref (gad w 49)), (1, .long x1), (3, .int x3)]) hx hb d_M_digest_219 hl (k := 3) rfl (congrArg (HAdd.hAdd x4) (by decide : Int32.ofInt 1 = 1)) (by decide) rfl (fun ls hl => ?_)
      refine lv_goto (tgt := 124) hx hb d_M_digest_222 (by decide) ?_
      exact ih _ _ _ (lp_back h hr) k1 ls _ _ hG (lv_sub hl [1, 2, 3, 0] rfl)
    unfold M_digest_L124 at h
    refine lv_iload hx hb d_M_digest_124 (lv_at hl 3 rfl) ?_
    refine lv_bipush (v := 10) hx hb d_M_digest_126 (by decide) ?_
    refine lv_icmp_ge (tgt := 225) hx hb d_M_digest_128 (by decide) (fun hc => ?_) (fun hc => ?_)
    · replace h := it_t h hc
      exact k1 _ _ (lp_exit h hr) ls _ _ hG (lv_sub hl [0, 1, 2] rfl)
    · replace h := it_f h hc
      refine lv_ldc2 (v := 31) hx hb C.2.2.2.1 (C.2.2.2.2.1 _ qw987) d_M_digest_131 ?_
      refine lv_lload_n hx hb d_M_digest_134 rfl (lv_at hl 1 rfl) ?_
      refine lv_lmul hx hb d_M_digest_135 ?_
      refine lv_aload_n hx hb d_M_digest_136 rfl (lv_at hl 0 rfl) ?_
      refine lv_iload hx hb d_M_digest_137 (lv_at hl 3 rfl) ?_
      obtain ⟨z5, hz5, h⟩ := bnd_some h
      refine g_goi hG (g_runV (As := [.int x4]) (rest := [.long (31 * x1)]) C hG (c_M_ownerOf l w S x4 hz5 _) (hG.lt (Nat.le_of_ble_eq_true rfl)) (ce49 w _) rfl vw_M_162 rfl rfl ⟨by decide, by decide⟩ rfl hl.1 rfl (Nat.le_of_ble_eq_true rfl) d_M_digest_139 ⟨Nat.zero_le _, Nat.zero_le _⟩) (fun H locs hG => ?_)
      refine lv_i2l (v := z5.toInt64) hx hb d_M_digest_142 rfl ?_
      refine lv_ladd hx hb d_M_digest_143 ?_
      refine lv_lstore_n (lv' := [(1, .long ((31 * x1) + z5.toInt64)), (0, .ref (gad w 49)), (3, .int x3), (4, .int x4)]) hx hb d_M_digest_144 rfl hl (by decide) rfl (fun ls hl => ?_)
      refine lv_ldc2 (v := 31) hx hb C.2.2.2.1 (C.2.2.2.2.1 _ qw987) d_M_digest_145 ?_
      refine lv_lload_n hx hb d_M_digest_148 rfl (lv_at hl 0 rfl) ?_
      refine lv_lmul hx hb d_M_digest_149 ?_
      refine lv_aload_n hx hb d_M_digest_150 rfl (lv_at hl 1 rfl) ?_
      refine lv_iload hx hb d_M_digest_151 (lv_at hl 3 rfl) ?_
      obtain ⟨z6, hz6, h⟩ := bnd_some h
      refine g_goi hG (g_runV (As := [.int x4]) (rest := [.long (31 * ((31 * x1) + z5.toInt64))]) C hG (c_M_priceOf l w S x4 hz6 _) (hG.lt (Nat.le_of_ble_eq_true rfl)) (ce49 w _) rfl vw_M_184 rfl rfl ⟨by decide, by decide⟩ rfl hl.1 rfl (Nat.le_of_ble_eq_true rfl) d_M_digest_153 ⟨Nat.zero_le _, Nat.zero_le _⟩) (fun H locs hG => ?_)
      refine lv_i2l (v := z6.toInt64) hx hb d_M_digest_156 rfl ?_
      refine lv_ladd hx hb d_M_digest_157 ?_
      refine lv_lstore_n (lv' := [(1, .long ((31 * ((31 * x1) + z5.toInt64)) + z6.toInt64)), (0, .ref (gad w 49)), (3, .int x3), (4, .int x4)]) hx hb d_M_digest_158 rfl hl (by decide) rfl (fun ls hl => ?_)
      refine lv_ldc2 (v := 31) hx hb C.2.2.2.1 (C.2.2.2.2.1 _ qw987) d_M_digest_159 ?_
      refine lv_lload_n hx hb d_M_digest_162 rfl (lv_at hl 0 rfl) ?_
      refine lv_lmul hx hb d_M_digest_163 ?_
      refine lv_aload_n hx hb d_M_digest_164 rfl (lv_at hl 1 rfl) ?_
      refine lv_iload hx hb d_M_digest_165 (lv_at hl 3 rfl) ?_
      obtain ⟨z7, hz7, h⟩ := bnd_some h
      refine g_goi hG (g_runV (As := [.int x4]) (rest := [.long (31 * ((31 * ((31 * x1) + z5.toInt64)) + z6.toInt64))]) C hG (c_M_harmOf l w S x4 hz7 _) (hG.lt (Nat.le_of_ble_eq_true rfl)) (ce49 w _) rfl vw_M_204 rfl rfl ⟨by decide, by decide⟩ rfl hl.1 rfl (Nat.le_of_ble_eq_true rfl) d_M_digest_167 ⟨Nat.zero_le _, Nat.zero_le _⟩) (fun H locs hG => ?_)
      refine lv_i2l (v := z7.toInt64) hx hb d_M_digest_170 rfl ?_
      refine lv_ladd hx hb d_M_digest_171 ?_
      refine lv_lstore_n (lv' := [(1, .long ((31 * ((31 * ((31 * x1) + z5.toInt64)) + z6.toInt64)) + z7.toInt64)), (0, .ref (gad w 49)), (3, .int x3), (4, .int x4)]) hx hb d_M_digest_172 rfl hl (by decide) rfl (fun ls hl => ?_)
      refine lv_ldc2 (v := 31) hx hb C.2.2.2.1 (C.2.2.2.2.1 _ qw987) d_M_digest_173 ?_
      refine lv_lload_n hx hb d_M_digest_176 rfl (lv_at hl 0 rfl) ?_
      refine lv_lmul hx hb d_M_digest_177 ?_
      refine lv_aload_n hx hb d_M_digest_178 rfl (lv_at hl 1 rfl) ?_
      refine g_get C hG (hG.lt (Nat.le_of_ble_eq_true rfl)) (ce49 w _) rfl inC8 25 (Nat.le_of_ble_eq_true rfl) qw701 rfl d_M_digest_179 ?_
      refine lv_iload hx hb d_M_digest_182 (lv_at hl 3 rfl) ?_
      obtain ⟨hi2, h⟩ := chk_some h
      refine g_iald (j := ix x4) C hG (hG.lt (Nat.le_of_ble_eq_true rfl)) (ce69 w _) (inb_in hi2) rfl d_M_digest_184 ?_
      refine lv_i2l (v := (S 69 (ix x4)).toInt64) hx hb d_M_digest_185 rfl ?_
      refine lv_ladd hx hb d_M_digest_186 ?_
      refine lv_lstore_n (lv' := [(1, .long ((31 * ((31 * ((31 * ((31 * x1) + z5.toInt64)) + z6.toInt64)) + z7.toInt64)) + ((S 69 (ix x4)).toInt64))), (0, .ref (gad w 49)), (3, .int x3), (4, .int x4)]) hx hb d_M_digest_187 rfl hl (by decide) rfl (fun ls hl => ?_)
      refine lv_iconst (v := 0) hx hb d_M_digest_188 (by decide) ?_
      refine lv_istore (lv' := [(5, .int 0), (1, .long ((31 * ((31 * ((31 * ((31 * x1) + z5.toInt64)) + z6.toInt64)) + z7.toInt64)) + ((S 69 (ix x4)).toInt64))), (0, .ref (gad w 49)), (3, .int x3), (4, .int x4)]) hx hb d_M_digest_189 hl (by decide) rfl (fun ls hl => ?_)
      obtain ⟨z8, hz8, h⟩ := bnd_some h
      refine L_M_digest_191 C _ _ _ FZ _ _ _ hz8 ?_ ls _ _ hG (lv_sub hl [2, 1, 3, 4, 0] rfl)
      intro y1 y5 e9 ls H locs hG hl
      subst e9
      exact J219 _ _ h ls _ _ hG (lv_sub hl [0, 1, 2, 3] rfl)
set_option maxHeartbeats 4000000 in
set_option maxRecDepth 100000 in
theorem L_M_digest_237 (C : gCx p s m args meth c y_M_digest.cls b_M_digest 6 (some .long)) : ∀ (S : St) (x3 : Int32) (x4 : Int32) (n : Nat) (x1 : Int64) (x5 : Int32) (r : (Int64 × Int32) × Nat), lp (σ := Int64 × Int32) (fun q => M_digest_L237 S q.1 x3 x4 q.2) n (x1, x5) = some r → (∀ (y1 : Int64) (y5 : Int32), r = ((y1, y5), 1) → ∀ (ls : Array Slot) (H : Heap) (locs : List Loc), GH w s A S H locs → lv_has ls 6 [(0, .ref (gad w 49)), (1, .long y1), (3, .int x3), (4, .int x4)] → W p l e (rmm 6 135) s m args below meth c H locs 0 0 Q (F0 m 265 ls [])) → ∀ (ls : Array Slot) (H : Heap) (locs : List Loc), GH w s A S H locs → lv_has ls 6 [(0, .ref (gad w 49)), (1, .long x1), (3, .int x3), (4, .int x4), (5, .int x5)] → W p l e (rmm 6 135) s m args below meth c H locs 0 0 Q (F0 m 237 ls []) := by
  have hx := C.1
  have hb := C.2.1
  intro S x3 x4 n
  induction n with
  | zero => intro x1 x5 r h; cases h
  | succ n ih =>
    intro x1 x5 r h k1 ls H locs hG hl
    obtain ⟨z, h, hr⟩ := lp_succ h
    have h : M_digest_L237 S x1 x3 x4 x5 = some z := h
    unfold M_digest_L237 at h
    refine lv_iload hx hb d_M_digest_237 (lv_at hl 4 rfl) ?_
    refine lv_iconst (v := 3) hx hb d_M_digest_239 (by decide) ?_
    refine lv_icmp_ge (tgt := 265) hx hb d_M_digest_240 (by decide) (fun hc => ?_) (fun hc => ?_)
    · replace h := it_t h hc
      exact k1 _ _ (lp_exit h hr) ls _ _ hG (lv_sub hl [0, 1, 2, 3] rfl)
    · replace h := it_f h hc
      refine lv_ldc2 (v := 31) hx hb C.2.2.2.1 (C.2.2.2.2.1 _ qw987) d_M_digest_243 ?_
      refine lv_lload_n hx hb d_M_digest_246 rfl (lv_at hl 1 rfl) ?_
      refine lv_lmul hx hb d_M_digest_247 ?_
      refine lv_aload_n hx hb d_M_digest_248 rfl (lv_at hl 0 rfl) ?_
      refine lv_iload hx hb d_M_digest_249 (lv_at hl 3 rfl) ?_
      refine lv_iload hx hb d_M_digest_251 (lv_at hl 4 rfl) ?_
      obtain ⟨z9, hz9, h⟩ := bnd_some h
      refine g_goi hG (g_runV (As := [.int x4, .int x5]) (rest := [.long (31 * x1)]) C hG (c_M_hasOf l w S x4 x5 hz9 _) (hG.lt (Nat.le_of_ble_eq_true rfl)) (ce49 w _) rfl vw_M_187 rfl rfl ⟨by decide, by decide⟩ rfl hl.1 rfl (Nat.le_of_ble_eq_true rfl) d_M_digest_253 ⟨Nat.zero_le _, Nat.zero_le _⟩) (fun H locs hG => ?_)
      refine lv_i2l (v := z9.toInt64) hx hb d_M_digest_256 rfl ?_
      refine lv_ladd hx hb d_M_digest_257 ?_
      refine lv_lstore_n (lv' := [(1, .long ((31 * x1) + z9.toInt64)), (0, .ref (gad w 49)), (3, .int x3), (4, .int x4), (5, .int x5)]) hx hb d_M_digest_258 rfl hl (by decide) rfl (fun ls hl => ?_)
      refine lv_iinc (v := x5 + 1) (lv' := [(5, .int (x5 + 1)), (1, .long ((31 * x1) + z9.toInt64)), (0, .ref (gad w 49)), (3, .int x3), (4, .int x4)]) hx hb d_M_digest_259 hl (k := 4) rfl (congrArg (HAdd.hAdd x5) (by decide : Int32.ofInt 1 = 1)) (by decide) rfl (fun ls hl => ?_)
      refine lv_goto (tgt := 237) hx hb d_M_digest_262 (by decide) ?_
      exact ih _ _ _ (lp_back h hr) k1 ls _ _ hG (lv_sub hl [2, 1, 3, 4, 0] rfl)
set_option maxHeartbeats 4000000 in
set_option maxRecDepth 100000 in
theorem L_M_digest_345 (C : gCx p s m args meth c y_M_digest.cls b_M_digest 6 (some .long)) : ∀ (S : St) (x3 : Int32) (x4 : Int32) (n : Nat) (x1 : Int64) (x5 : Int32) (r : (Int64 × Int32) × Nat), lp (σ := Int64 × Int32) (fun q => M_digest_L345 S q.1 x3 x4 q.2) n (x1, x5) = some r → (∀ (y1 : Int64) (y5 : Int32), r = ((y1, y5), 1) → ∀ (ls : Array Slot) (H : Heap) (locs : List Loc), GH w s A S H locs → lv_has ls 6 [(0, .ref (gad w 49)), (1, .long y1), (3, .int x3), (4, .int x4)] → W p l e (rmm 6 135) s m args below meth c H locs 0 0 Q (F0 m 372 ls [])) → ∀ (ls : Array Slot) (H : Heap) (locs : List Loc), GH w s A S H locs → lv_has ls 6 [(0, .ref (gad w 49)), (1, .long x1), (3, .int x3), (4, .int x4), (5, .int x5)] → W p l e (rmm 6 135) s m args below meth c H locs 0 0 Q (F0 m 345 ls []) := by
  have hx := C.1
  have hb := C.2.1
  intro S x3 x4 n
  induction n with
  | zero => intro x1 x5 r h; cases h
  | succ n ih =>
    intro x1 x5 r h k1 ls H locs hG hl
    obtain ⟨z, h, hr⟩ := lp_succ h
    have h : M_digest_L345 S x1 x3 x4 x5 = some z := h
    unfold M_digest_L345 at h
    refine lv_iload hx hb d_M_digest_345 (lv_at hl 4 rfl) ?_
    refine lv_iconst (v := 2) hx hb d_M_digest_347 (by decide) ?_
    refine lv_icmp_ge (tgt := 372) hx hb d_M_digest_348 (by decide) (fun hc => ?_) (fun hc => ?_)
    · replace h := it_t h hc
      exact k1 _ _ (lp_exit h hr) ls _ _ hG (lv_sub hl [0, 1, 2, 3] rfl)
    · replace h := it_f h hc
      refine lv_ldc2 (v := 31) hx hb C.2.2.2.1 (C.2.2.2.2.1 _ qw987) d_M_digest_351 ?_
      refine lv_lload_n hx hb d_M_digest_354 rfl (lv_at hl 1 rfl) ?_
      refine lv_lmul hx hb d_M_digest_355 ?_
      refine lv_aload_n hx hb d_M_digest_356 rfl (lv_at hl 0 rfl) ?_
      refine lv_iload hx hb d_M_digest_357 (lv_at hl 3 rfl) ?_
      refine lv_iload hx hb d_M_digest_359 (lv_at hl 4 rfl) ?_
      obtain ⟨z10, hz10, h⟩ := bnd_some h
      refine g_gol hG (g_runV (As := [.int x4, .int x5]) (rest := [.long (31 * x1)]) C hG (c_M_shareOf l w S x4 x5 hz10 _) (hG.lt (Nat.le_of_ble_eq_true rfl)) (ce49 w _) rfl vw_M_244 rfl rfl ⟨by decide, by decide⟩ rfl hl.1 rfl (Nat.le_of_ble_eq_true rfl) d_M_digest_361 ⟨Nat.zero_le _, Nat.zero_le _⟩) (fun H locs hG => ?_)
      refine lv_ladd hx hb d_M_digest_364 ?_
      refine lv_lstore_n (lv' := [(1, .long ((31 * x1) + z10)), (0, .ref (gad w 49)), (3, .int x3), (4, .int x4), (5, .int x5)]) hx hb d_M_digest_365 rfl hl (by decide) rfl (fun ls hl => ?_)
      refine lv_iinc (v := x5 + 1) (lv' := [(5, .int (x5 + 1)), (1, .long ((31 * x1) + z10)), (0, .ref (gad w 49)), (3, .int x3), (4, .int x4)]) hx hb d_M_digest_366 hl (k := 4) rfl (congrArg (HAdd.hAdd x5) (by decide : Int32.ofInt 1 = 1)) (by decide) rfl (fun ls hl => ?_)
      refine lv_goto (tgt := 345) hx hb d_M_digest_369 (by decide) ?_
      exact ih _ _ _ (lp_back h hr) k1 ls _ _ hG (lv_sub hl [2, 1, 3, 4, 0] rfl)
set_option maxHeartbeats 4000000 in
set_option maxRecDepth 100000 in
theorem L_M_digest_228 (C : gCx p s m args meth c y_M_digest.cls b_M_digest 6 (some .long)) : ∀ (x3 : Int32) (n : Nat) (x1 : Int64) (x4 : Int32) (S : St) (r : (Int64 × Int32 × St) × Nat), lp (σ := Int64 × Int32 × St) (fun q => M_digest_L228 q.2.2 q.1 x3 q.2.1) n (x1, x4, S) = some r → (∀ (y1 : Int64) (y4 : Int32) (Sy : St), r = ((y1, y4, Sy), 1) → ∀ (ls : Array Slot) (H : Heap) (locs : List Loc), GH w s A Sy H locs → lv_has ls 6 [(0, .ref (gad w 49)), (1, .long y1), (3, .int x3)] → W p l e (rmm 6 135) s m args below meth c H locs 0 0 Q (F0 m 378 ls [])) → ∀ (ls : Array Slot) (H : Heap) (locs : List Loc), GH w s A S H locs → lv_has ls 6 [(0, .ref (gad w 49)), (1, .long x1), (3, .int x3), (4, .int x4)] → W p l e (rmm 6 135) s m args below meth c H locs 0 0 Q (F0 m 228 ls []) := by
  have hx := C.1
  have hb := C.2.1
  intro x3 n
  induction n with
  | zero => intro x1 x4 S r h; cases h
  | succ n ih =>
    intro x1 x4 S r h k1 ls H locs hG hl
    obtain ⟨z, h, hr⟩ := lp_succ h
    have h : M_digest_L228 S x1 x3 x4 = some z := h
    have J372 : ∀ (S : St) (x1 : Int64) (x4 : Int32), M_digest_J372 S x1 x3 x4 = some z → ∀ (ls : Array Slot) (H : Heap) (locs : List Loc), GH w s A S H locs → lv_has ls 6 [(0, .ref (gad w 49)), (1, .long x1), (3, .int x3), (4, .int x4)] → W p l e (rmm 6 135) s m args below meth c H locs 0 0 Q (F0 m 372 ls []) := by
      intro S x1 x4 h ls H locs hG hl
      unfold M_digest_J372 at h
      refine lv_iinc (v := x4 + 1) (lv' := [(4, .int (x4 + 1)), (0, .ref (gad w 49)), (1, .long x1), (3, .int x3)]) hx hb d_M_digest_372 hl (k := 3) rfl (congrArg (HAdd.hAdd x4) (by decide : Int32.ofInt 1 = 1)) (by decide) rfl (fun ls hl => ?_)
      refine lv_goto (tgt := 228) hx hb d_M_digest_375 (by decide) ?_
      exact ih _ _ _ _ (lp_back h hr) k1 ls _ _ hG (lv_sub hl [1, 2, 3, 0] rfl)
    have J265 : ∀ (S : St) (x1 : Int64) (x4 : Int32), M_digest_J265 S x1 x3 x4 = some z → ∀ (ls : Array Slot) (H : Heap) (locs : List Loc), GH w s A S H locs → lv_has ls 6 [(0, .ref (gad w 49)), (1, .long x1), (3, .int x3), (4, .int x4)] → W p l e (rmm 6 135) s m args below meth c H locs 0 0 Q (F0 m 265 ls []) := by
      intro S x1 x4 h ls H locs hG hl
      unfold M_digest_J265 at h
      refine lv_ldc2 (v := 31) hx hb C.2.2.2.1 (C.2.2.2.2.1 _ qw987) d_M_digest_265 ?_
      refine lv_lload_n hx hb d_M_digest_268 rfl (lv_at hl 1 rfl) ?_
      refine lv_lmul hx hb d_M_digest_269 ?_
      refine lv_aload_n hx hb d_M_digest_270 rfl (lv_at hl 0 rfl) ?_
      refine lv_iload hx hb d_M_digest_271 (lv_at hl 3 rfl) ?_
      refine lv_iconst (v := 0) hx hb d_M_digest_273 (by decide) ?_
      obtain ⟨z11, hz11, h⟩ := bnd_some h
      refine g_goi hG (g_runV (As := [.int x4, .int 0]) (rest := [.long (31 * x1)]) C hG (c_M_happyOf l w S x4 0 hz11 _) (hG.lt (Nat.le_of_ble_eq_true rfl)) (ce49 w _) rfl vw_M_194 rfl rfl ⟨by decide, by decide⟩ rfl hl.1 rfl (Nat.le_of_ble_eq_true rfl) d_M_digest_274 ⟨Nat.zero_le _, Nat.zero_le _⟩) (fun H locs hG => ?_)
      refine lv_i2l (v := z11.toInt64) hx hb d_M_digest_277 rfl ?_
      refine lv_ladd hx hb d_M_digest_278 ?_
      refine lv_lstore_n (lv' := [(1, .long ((31 * x1) + z11.toInt64)), (0, .ref (gad w 49)), (3, .int x3), (4, .int x4)]) hx hb d_M_digest_279 rfl hl (by decide) rfl (fun ls hl => ?_)
      refine lv_ldc2 (v := 31) hx hb C.2.2.2.1 (C.2.2.2.2.1 _ qw987) d_M_digest_280 ?_
      refine lv_lload_n hx hb d_M_digest_283 rfl (lv_at hl 0 rfl) ?_
      refine lv_lmul hx hb d_M_digest_284 ?_
      refine lv_aload_n hx hb d_M_digest_285 rfl (lv_at hl 1 rfl) ?_
      refine lv_iload hx hb d_M_digest_286 (lv_at hl 3 rfl) ?_
      refine lv_aload_n hx hb d_M_digest_288 rfl (lv_at hl 1 rfl) ?_
      refine lv_bipush (v := 7) hx hb d_M_digest_289 (by decide) ?_
      obtain ⟨z12, hz12, h⟩ := bnd_some h
      refine g_goi hG (g_runV (As := [.int 7]) (rest := [.int x4, .ref (gad w 49), .long (31 * ((31 * x1) + z11.toInt64))]) C hG (c_M_refusedBy l w S 7 hz12 _) (hG.lt (Nat.le_of_ble_eq_true rfl)) (ce49 w _) rfl vw_M_198 rfl rfl ⟨by decide, by decide⟩ rfl hl.1 rfl (Nat.le_of_ble_eq_true rfl) d_M_digest_291 ⟨Nat.zero_le _, Nat.zero_le _⟩) (fun H locs hG => ?_)
      obtain ⟨z13, hz13, h⟩ := bnd_some h
      refine g_goi hG (g_runV (As := [.int x4, .int z12]) (rest := [.long (31 * ((31 * x1) + z11.toInt64))]) C hG (c_M_happyOf l w S x4 z12 hz13 _) (hG.lt (Nat.le_of_ble_eq_true rfl)) (ce49 w _) rfl vw_M_194 rfl rfl ⟨by decide, by decide⟩ rfl hl.1 rfl (Nat.le_of_ble_eq_true rfl) d_M_digest_294 ⟨Nat.zero_le _, Nat.zero_le _⟩) (fun H locs hG => ?_)
      refine lv_i2l (v := z13.toInt64) hx hb d_M_digest_297 rfl ?_
      refine lv_ladd hx hb d_M_digest_298 ?_
      refine lv_lstore_n (lv' := [(1, .long ((31 * ((31 * x1) + z11.toInt64)) + z13.toInt64)), (0, .ref (gad w 49)), (3, .int x3), (4, .int x4)]) hx hb d_M_digest_299 rfl hl (by decide) rfl (fun ls hl => ?_)
      refine lv_ldc2 (v := 31) hx hb C.2.2.2.1 (C.2.2.2.2.1 _ qw987) d_M_digest_300 ?_
      refine lv_lload_n hx hb d_M_digest_303 rfl (lv_at hl 0 rfl) ?_
      refine lv_lmul hx hb d_M_digest_304 ?_
      refine lv_aload_n hx hb d_M_digest_305 rfl (lv_at hl 1 rfl) ?_
      refine lv_iload hx hb d_M_digest_306 (lv_at hl 3 rfl) ?_
      obtain ⟨z14, hz14, h⟩ := bnd_some h
      refine g_goi hG (g_runV (As := [.int x4]) (rest := [.long (31 * ((31 * ((31 * x1) + z11.toInt64)) + z13.toInt64))]) C hG (c_M_gainOf l w S x4 hz14 _) (hG.lt (Nat.le_of_ble_eq_true rfl)) (ce49 w _) rfl vw_M_207 rfl rfl ⟨by decide, by decide⟩ rfl hl.1 rfl (Nat.le_of_ble_eq_true rfl) d_M_digest_308 ⟨Nat.zero_le _, Nat.zero_le _⟩) (fun H locs hG => ?_)
      refine lv_i2l (v := z14.toInt64) hx hb d_M_digest_311 rfl ?_
      refine lv_ladd hx hb d_M_digest_312 ?_
      refine lv_lstore_n (lv' := [(1, .long ((31 * ((31 * ((31 * x1) + z11.toInt64)) + z13.toInt64)) + z14.toInt64)), (0, .ref (gad w 49)), (3, .int x3), (4, .int x4)]) hx hb d_M_digest_313 rfl hl (by decide) rfl (fun ls hl => ?_)
      refine lv_ldc2 (v := 31) hx hb C.2.2.2.1 (C.2.2.2.2.1 _ qw987) d_M_digest_314 ?_
      refine lv_lload_n hx hb d_M_digest_317 rfl (lv_at hl 0 rfl) ?_
      refine lv_lmul hx hb d_M_digest_318 ?_
      refine lv_aload_n hx hb d_M_digest_319 rfl (lv_at hl 1 rfl) ?_
      refine lv_iload hx hb d_M_digest_320 (lv_at hl 3 rfl) ?_
      obtain ⟨z15, hz15, h⟩ := bnd_some h
      refine g_goi hG (g_runV (As := [.int x4]) (rest := [.long (31 * ((31 * ((31 * ((31 * x1) + z11.toInt64)) + z13.toInt64)) + z14.toInt64))]) C hG (c_M_eachOf l w S x4 hz15 _) (hG.lt (Nat.le_of_ble_eq_true rfl)) (ce49 w _) rfl vw_M_229 rfl rfl ⟨by decide, by decide⟩ rfl hl.1 rfl (Nat.le_of_ble_eq_true rfl) d_M_digest_322 ⟨Nat.zero_le _, Nat.zero_le _⟩) (fun H locs hG => ?_)
      refine lv_i2l (v := z15.1.toInt64) hx hb d_M_digest_325 rfl ?_
      refine lv_ladd hx hb d_M_digest_326 ?_
      refine lv_lstore_n (lv' := [(1, .long ((31 * ((31 * ((31 * ((31 * x1) + z11.toInt64)) + z13.toInt64)) + z14.toInt64)) + z15.1.toInt64)), (0, .ref (gad w 49)), (3, .int x3), (4, .int x4)]) hx hb d_M_digest_327 rfl hl (by decide) rfl (fun ls hl => ?_)
      refine lv_ldc2 (v := 31) hx hb C.2.2.2.1 (C.2.2.2.2.1 _ qw987) d_M_digest_328 ?_
      refine lv_lload_n hx hb d_M_digest_331 rfl (lv_at hl 0 rfl) ?_
      refine lv_lmul hx hb d_M_digest_332 ?_
      refine lv_aload_n hx hb d_M_digest_333 rfl (lv_at hl 1 rfl) ?_
      refine lv_iload hx hb d_M_digest_334 (lv_at hl 3 rfl) ?_
      obtain ⟨z16, hz16, h⟩ := bnd_some h
      refine g_goi hG (g_runV (As := [.int x4]) (rest := [.long (31 * ((31 * ((31 * ((31 * ((31 * x1) + z11.toInt64)) + z13.toInt64)) + z14.toInt64)) + z15.1.toInt64))]) C hG (c_M_paysOf l w z15.2 x4 hz16 _) (hG.lt (Nat.le_of_ble_eq_true rfl)) (ce49 w _) rfl vw_M_232 rfl rfl ⟨by decide, by decide⟩ rfl hl.1 rfl (Nat.le_of_ble_eq_true rfl) d_M_digest_336 ⟨Nat.zero_le _, Nat.zero_le _⟩) (fun H locs hG => ?_)
      refine lv_i2l (v := z16.1.toInt64) hx hb d_M_digest_339 rfl ?_
      refine lv_ladd hx hb d_M_digest_340 ?_
      refine lv_lstore_n (lv' := [(1, .long ((31 * ((31 * ((31 * ((31 * ((31 * x1) + z11.toInt64)) + z13.toInt64)) + z14.toInt64)) + z15.1.toInt64)) + z16.1.toInt64)), (0, .ref (gad w 49)), (3, .int x3), (4, .int x4)]) hx hb d_M_digest_341 rfl hl (by decide) rfl (fun ls hl => ?_)
      refine lv_iconst (v := 0) hx hb d_M_digest_342 (by decide) ?_
      refine lv_istore (lv' := [(5, .int 0), (1, .long ((31 * ((31 * ((31 * ((31 * ((31 * x1) + z11.toInt64)) + z13.toInt64)) + z14.toInt64)) + z15.1.toInt64)) + z16.1.toInt64)), (0, .ref (gad w 49)), (3, .int x3), (4, .int x4)]) hx hb d_M_digest_343 hl (by decide) rfl (fun ls hl => ?_)
      obtain ⟨z17, hz17, h⟩ := bnd_some h
      refine L_M_digest_345 C _ _ _ FZ _ _ _ hz17 ?_ ls _ _ hG (lv_sub hl [2, 1, 3, 4, 0] rfl)
      intro y1 y5 e9 ls H locs hG hl
      subst e9
      exact J372 _ _ _ h ls _ _ hG (lv_sub hl [0, 1, 2, 3] rfl)
    unfold M_digest_L228 at h
    refine lv_iload hx hb d_M_digest_228 (lv_at hl 3 rfl) ?_
    refine lv_iconst (v := 5) hx hb d_M_digest_230 (by decide) ?_
    refine lv_icmp_ge (tgt := 378) hx hb d_M_digest_231 (by decide) (fun hc => ?_) (fun hc => ?_)
    · replace h := it_t h hc
      exact k1 _ _ _ (lp_exit h hr) ls _ _ hG (lv_sub hl [0, 1, 2] rfl)
    · replace h := it_f h hc
      refine lv_iconst (v := 0) hx hb d_M_digest_234 (by decide) ?_
      refine lv_istore (lv' := [(5, .int 0), (0, .ref (gad w 49)), (1, .long x1), (3, .int x3), (4, .int x4)]) hx hb d_M_digest_235 hl (by decide) rfl (fun ls hl => ?_)
      obtain ⟨z18, hz18, h⟩ := bnd_some h
      refine L_M_digest_237 C _ _ _ FZ _ _ _ hz18 ?_ ls _ _ hG (lv_sub hl [1, 2, 3, 4, 0] rfl)
      intro y1 y5 e9 ls H locs hG hl
      subst e9
      exact J265 _ _ _ h ls _ _ hG (lv_sub hl [0, 1, 2, 3] rfl)
set_option maxHeartbeats 4000000 in
set_option maxRecDepth 100000 in
theorem c_M_digest (l : Launch) (w : gw) (S : St)   {z : Int64 × St} (h : (M_digest S) = some z) : gMl l w y_M_digest b_M_digest 6 (some .long) (rmm 6 135) [.ref (gad w 49)] S z.1 z.2 := by
  unfold M_digest at h
  refine g_met (Qc := gQl w z.1 z.2) (by decide +kernel) (Nat.le_of_ble_eq_true rfl) ?_
  intro p e s m args below meth c A Q ls hQ C hG hl
  have hx := C.1
  have hb := C.2.1
  have hl : lv_has ls 6 [(0, .ref (gad w 49))] := hl
  have J378 : ∀ (S : St) (x1 : Int64) (x3 : Int32), M_digest_J378 S x1 x3 = some z → ∀ (ls : Array Slot) (H : Heap) (locs : List Loc), GH w s A S H locs → lv_has ls 6 [(0, .ref (gad w 49)), (1, .long x1), (3, .int x3)] → W p l e (rmm 6 135) s m args below meth c H locs 0 0 Q (F0 m 378 ls []) := by
    intro S x1 x3 h ls H locs hG hl
    unfold M_digest_J378 at h
    refine lv_ldc2 (v := 31) hx hb C.2.2.2.1 (C.2.2.2.2.1 _ qw987) d_M_digest_378 ?_
    refine lv_lload_n hx hb d_M_digest_381 rfl (lv_at hl 1 rfl) ?_
    refine lv_lmul hx hb d_M_digest_382 ?_
    refine lv_aload_n hx hb d_M_digest_383 rfl (lv_at hl 0 rfl) ?_
    refine lv_iconst (v := (-1)) hx hb d_M_digest_384 (by decide) ?_
    obtain ⟨z19, hz19, h⟩ := bnd_some h
    refine g_goi hG (g_runV (As := [.int (-1)]) (rest := [.long (31 * x1)]) C hG (c_M_eachOf l w S (-1) hz19 _) (hG.lt (Nat.le_of_ble_eq_true rfl)) (ce49 w _) rfl vw_M_229 rfl rfl ⟨by decide, by decide⟩ rfl hl.1 rfl (Nat.le_of_ble_eq_true rfl) d_M_digest_385 ⟨Nat.zero_le _, Nat.zero_le _⟩) (fun H locs hG => ?_)
    refine lv_i2l (v := z19.1.toInt64) hx hb d_M_digest_388 rfl ?_
    refine lv_ladd hx hb d_M_digest_389 ?_
    refine lv_lstore_n (lv' := [(1, .long ((31 * x1) + z19.1.toInt64)), (0, .ref (gad w 49)), (3, .int x3)]) hx hb d_M_digest_390 rfl hl (by decide) rfl (fun ls hl => ?_)
    refine lv_ldc2 (v := 31) hx hb C.2.2.2.1 (C.2.2.2.2.1 _ qw987) d_M_digest_391 ?_
    refine lv_lload_n hx hb d_M_digest_394 rfl (lv_at hl 0 rfl) ?_
    refine lv_lmul hx hb d_M_digest_395 ?_
    refine lv_aload_n hx hb d_M_digest_396 rfl (lv_at hl 1 rfl) ?_
    refine lv_iconst (v := 3) hx hb d_M_digest_397 (by decide) ?_
    refine lv_iconst (v := 2) hx hb d_M_digest_398 (by decide) ?_
    refine lv_iconst (v := 0) hx hb d_M_digest_399 (by decide) ?_
    obtain ⟨z20, hz20, h⟩ := bnd_some h
    refine g_goi hG (g_runV (As := [.int 3, .int 2, .int 0]) (rest := [.long (31 * ((31 * x1) + z19.1.toInt64))]) C hG (c_M_meetOf l w z19.2 3 2 0 hz20 _) (hG.lt (Nat.le_of_ble_eq_true rfl)) (ce49 w _) rfl vw_M_221 rfl rfl ⟨by decide, by decide⟩ rfl hl.1 rfl (Nat.le_of_ble_eq_true rfl) d_M_digest_400 ⟨Nat.zero_le _, Nat.zero_le _⟩) (fun H locs hG => ?_)
    refine lv_i2l (v := z20.toInt64) hx hb d_M_digest_403 rfl ?_
    refine lv_ladd hx hb d_M_digest_404 ?_
    refine lv_lstore_n (lv' := [(1, .long ((31 * ((31 * x1) + z19.1.toInt64)) + z20.toInt64)), (0, .ref (gad w 49)), (3, .int x3)]) hx hb d_M_digest_405 rfl hl (by decide) rfl (fun ls hl => ?_)
    refine lv_ldc2 (v := 31) hx hb C.2.2.2.1 (C.2.2.2.2.1 _ qw987) d_M_digest_406 ?_
    refine lv_lload_n hx hb d_M_digest_409 rfl (lv_at hl 0 rfl) ?_
    refine lv_lmul hx hb d_M_digest_410 ?_
    refine lv_aload_n hx hb d_M_digest_411 rfl (lv_at hl 1 rfl) ?_
    refine lv_iconst (v := 3) hx hb d_M_digest_412 (by decide) ?_
    refine lv_iconst (v := 2) hx hb d_M_digest_413 (by decide) ?_
    refine lv_iconst (v := 1) hx hb d_M_digest_414 (by decide) ?_
    obtain ⟨z21, hz21, h⟩ := bnd_some h
    refine g_goi hG (g_runV (As := [.int 3, .int 2, .int 1]) (rest := [.long (31 * ((31 * ((31 * x1) + z19.1.toInt64)) + z20.toInt64))]) C hG (c_M_meetOf l w z19.2 3 2 1 hz21 _) (hG.lt (Nat.le_of_ble_eq_true rfl)) (ce49 w _) rfl vw_M_221 rfl rfl ⟨by decide, by decide⟩ rfl hl.1 rfl (Nat.le_of_ble_eq_true rfl) d_M_digest_415 ⟨Nat.zero_le _, Nat.zero_le _⟩) (fun H locs hG => ?_)
    refine lv_i2l (v := z21.toInt64) hx hb d_M_digest_418 rfl ?_
    refine lv_ladd hx hb d_M_digest_419 ?_
    refine lv_lstore_n (lv' := [(1, .long ((31 * ((31 * ((31 * x1) + z19.1.toInt64)) + z20.toInt64)) + z21.toInt64)), (0, .ref (gad w 49)), (3, .int x3)]) hx hb d_M_digest_420 rfl hl (by decide) rfl (fun ls hl => ?_)
    refine lv_ldc2 (v := 31) hx hb C.2.2.2.1 (C.2.2.2.2.1 _ qw987) d_M_digest_421 ?_
    refine lv_lload_n hx hb d_M_digest_424 rfl (lv_at hl 0 rfl) ?_
    refine lv_lmul hx hb d_M_digest_425 ?_
    refine lv_aload_n hx hb d_M_digest_426 rfl (lv_at hl 1 rfl) ?_
    refine lv_bipush (v := 31) hx hb d_M_digest_427 (by decide) ?_
    obtain ⟨z22, hz22, h⟩ := bnd_some h
    refine g_goi hG (g_runV (As := [.int 31]) (rest := [.long (31 * ((31 * ((31 * ((31 * x1) + z19.1.toInt64)) + z20.toInt64)) + z21.toInt64))]) C hG (c_M_clubOf l w z19.2 31 hz22 _) (hG.lt (Nat.le_of_ble_eq_true rfl)) (ce49 w _) rfl vw_M_235 rfl rfl ⟨by decide, by decide⟩ rfl hl.1 rfl (Nat.le_of_ble_eq_true rfl) d_M_digest_429 ⟨Nat.zero_le _, Nat.zero_le _⟩) (fun H locs hG => ?_)
    refine lv_i2l (v := z22.toInt64) hx hb d_M_digest_432 rfl ?_
    refine lv_ladd hx hb d_M_digest_433 ?_
    refine lv_lstore_n (lv' := [(1, .long ((31 * ((31 * ((31 * ((31 * x1) + z19.1.toInt64)) + z20.toInt64)) + z21.toInt64)) + z22.toInt64)), (0, .ref (gad w 49)), (3, .int x3)]) hx hb d_M_digest_434 rfl hl (by decide) rfl (fun ls hl => ?_)
    refine lv_ldc2 (v := 31) hx hb C.2.2.2.1 (C.2.2.2.2.1 _ qw987) d_M_digest_435 ?_
    refine lv_lload_n hx hb d_M_digest_438 rfl (lv_at hl 0 rfl) ?_
    refine lv_lmul hx hb d_M_digest_439 ?_
    refine lv_iload_n hx hb d_M_digest_440 rfl (lv_at hl 2 rfl) ?_
    refine lv_i2l (v := x3.toInt64) hx hb d_M_digest_441 rfl ?_
    refine lv_ladd hx hb d_M_digest_442 ?_
    refine lv_lstore_n (lv' := [(1, .long ((31 * ((31 * ((31 * ((31 * ((31 * x1) + z19.1.toInt64)) + z20.toInt64)) + z21.toInt64)) + z22.toInt64)) + x3.toInt64)), (0, .ref (gad w 49)), (3, .int x3)]) hx hb d_M_digest_443 rfl hl (by decide) rfl (fun ls hl => ?_)
    refine lv_ldc2 (v := 31) hx hb C.2.2.2.1 (C.2.2.2.2.1 _ qw987) d_M_digest_444 ?_
    refine lv_lload_n hx hb d_M_digest_447 rfl (lv_at hl 0 rfl) ?_
    refine lv_lmul hx hb d_M_digest_448 ?_
    refine lv_aload_n hx hb d_M_digest_449 rfl (lv_at hl 1 rfl) ?_
    refine lv_iconst (v := 0) hx hb d_M_digest_450 (by decide) ?_
    refine lv_iconst (v := 1) hx hb d_M_digest_451 (by decide) ?_
    obtain ⟨z23, hz23, h⟩ := bnd_some h
    refine g_goi hG (g_runV (As := [.int 0, .int 1]) (rest := [.long (31 * ((31 * ((31 * ((31 * ((31 * ((31 * x1) + z19.1.toInt64)) + z20.toInt64)) + z21.toInt64)) + z22.toInt64)) + x3.toInt64))]) C hG (c_M_swapOf l w z19.2 0 1 hz23 _) (hG.lt (Nat.le_of_ble_eq_true rfl)) (ce49 w _) rfl vw_M_268 rfl rfl ⟨by decide, by decide⟩ rfl hl.1 rfl (Nat.le_of_ble_eq_true rfl) d_M_digest_452 ⟨Nat.zero_le _, Nat.zero_le _⟩) (fun H locs hG => ?_)
    refine lv_i2l (v := z23.toInt64) hx hb d_M_digest_455 rfl ?_
    refine lv_ladd hx hb d_M_digest_456 ?_
    exact g_lret C hG (sm_fst h) (sm_snd h) hQ d_M_digest_457
  have J225 : ∀ (S : St) (x1 : Int64) (x3 : Int32), M_digest_J225 S x1 x3 = some z → ∀ (ls : Array Slot) (H : Heap) (locs : List Loc), GH w s A S H locs → lv_has ls 6 [(0, .ref (gad w 49)), (1, .long x1), (3, .int x3)] → W p l e (rmm 6 135) s m args below meth c H locs 0 0 Q (F0 m 225 ls []) := by
    intro S x1 x3 h ls H locs hG hl
    unfold M_digest_J225 at h
    refine lv_iconst (v := 0) hx hb d_M_digest_225 (by decide) ?_
    refine lv_istore (lv' := [(4, .int 0), (0, .ref (gad w 49)), (1, .long x1), (3, .int x3)]) hx hb d_M_digest_226 hl (by decide) rfl (fun ls hl => ?_)
    obtain ⟨z24, hz24, h⟩ := bnd_some h
    refine L_M_digest_228 C _ FZ _ _ _ _ hz24 ?_ ls _ _ hG (lv_sub hl [1, 2, 3, 0] rfl)
    intro y1 y4 Sy e9 ls H locs hG hl
    subst e9
    exact J378 _ _ _ h ls _ _ hG (lv_sub hl [0, 1, 2] rfl)
  have J112 : ∀ (S : St) (x1 : Int64), M_digest_J112 S x1 = some z → ∀ (ls : Array Slot) (H : Heap) (locs : List Loc), GH w s A S H locs → lv_has ls 6 [(0, .ref (gad w 49)), (1, .long x1)] → W p l e (rmm 6 135) s m args below meth c H locs 0 0 Q (F0 m 112 ls []) := by
    intro S x1 h ls H locs hG hl
    unfold M_digest_J112 at h
    refine lv_aload_n hx hb d_M_digest_112 rfl (lv_at hl 0 rfl) ?_
    obtain ⟨z25, hz25, h⟩ := bnd_some h
    refine g_gov hG (g_runV (As := []) (rest := []) C hG (c_M_find l w S hz25 _) (hG.lt (Nat.le_of_ble_eq_true rfl)) (ce49 w _) rfl vw_M_181 rfl rfl ⟨by decide, by decide⟩ rfl hl.1 rfl (Nat.le_of_ble_eq_true rfl) d_M_digest_113 ⟨Nat.zero_le _, Nat.zero_le _⟩) (fun H locs hG => ?_)
    refine lv_aload_n hx hb d_M_digest_116 rfl (lv_at hl 0 rfl) ?_
    obtain ⟨z26, hz26, h⟩ := bnd_some h
    refine g_goi hG (g_runV (As := []) (rest := []) C hG (c_M_findWays l w z25 hz26 _) (hG.lt (Nat.le_of_ble_eq_true rfl)) (ce49 w _) rfl vw_M_258 rfl rfl ⟨by decide, by decide⟩ rfl hl.1 rfl (Nat.le_of_ble_eq_true rfl) d_M_digest_117 ⟨Nat.zero_le _, Nat.zero_le _⟩) (fun H locs hG => ?_)
    refine lv_istore_n (lv' := [(3, .int z26.1), (0, .ref (gad w 49)), (1, .long x1)]) hx hb d_M_digest_120 rfl hl (by decide) rfl (fun ls hl => ?_)
    refine lv_iconst (v := 0) hx hb d_M_digest_121 (by decide) ?_
    refine lv_istore (lv' := [(4, .int 0), (3, .int z26.1), (0, .ref (gad w 49)), (1, .long x1)]) hx hb d_M_digest_122 hl (by decide) rfl (fun ls hl => ?_)
    obtain ⟨z27, hz27, h⟩ := bnd_some h
    refine L_M_digest_124 C _ _ FZ _ _ _ hz27 ?_ ls _ _ hG (lv_sub hl [2, 3, 1, 0] rfl)
    intro y1 y4 e9 ls H locs hG hl
    subst e9
    exact J225 _ _ _ h ls _ _ hG (lv_sub hl [0, 1, 2] rfl)
  have J31 : ∀ (S : St) (x1 : Int64), M_digest_J31 S x1 = some z → ∀ (ls : Array Slot) (H : Heap) (locs : List Loc), GH w s A S H locs → lv_has ls 6 [(0, .ref (gad w 49)), (1, .long x1)] → W p l e (rmm 6 135) s m args below meth c H locs 0 0 Q (F0 m 31 ls []) := by
    intro S x1 h ls H locs hG hl
    unfold M_digest_J31 at h
    refine lv_ldc2 (v := 31) hx hb C.2.2.2.1 (C.2.2.2.2.1 _ qw987) d_M_digest_31 ?_
    refine lv_lload_n hx hb d_M_digest_34 rfl (lv_at hl 1 rfl) ?_
    refine lv_lmul hx hb d_M_digest_35 ?_
    refine lv_aload_n hx hb d_M_digest_36 rfl (lv_at hl 0 rfl) ?_
    obtain ⟨z28, hz28, h⟩ := bnd_some h
    refine g_goi hG (g_runV (As := []) (rest := [.long (31 * x1)]) C hG (c_M_reads l w S hz28 _) (hG.lt (Nat.le_of_ble_eq_true rfl)) (ce49 w _) rfl vw_M_137 rfl rfl ⟨by decide, by decide⟩ rfl hl.1 rfl (Nat.le_of_ble_eq_true rfl) d_M_digest_37 ⟨Nat.zero_le _, Nat.zero_le _⟩) (fun H locs hG => ?_)
    refine lv_i2l (v := z28.1.toInt64) hx hb d_M_digest_40 rfl ?_
    refine lv_ladd hx hb d_M_digest_41 ?_
    refine lv_lstore_n (lv' := [(1, .long ((31 * x1) + z28.1.toInt64)), (0, .ref (gad w 49))]) hx hb d_M_digest_42 rfl hl (by decide) rfl (fun ls hl => ?_)
    refine lv_ldc2 (v := 31) hx hb C.2.2.2.1 (C.2.2.2.2.1 _ qw987) d_M_digest_43 ?_
    refine lv_lload_n hx hb d_M_digest_46 rfl (lv_at hl 0 rfl) ?_
    refine lv_lmul hx hb d_M_digest_47 ?_
    refine lv_aload_n hx hb d_M_digest_48 rfl (lv_at hl 1 rfl) ?_
    refine g_get C hG (hG.lt (Nat.le_of_ble_eq_true rfl)) (ce49 w _) rfl inC8 20 (Nat.le_of_ble_eq_true rfl) qw696 rfl d_M_digest_49 ?_
    refine lv_i2l (v := (z28.2 49 20).toInt64) hx hb d_M_digest_52 rfl ?_
    refine lv_ladd hx hb d_M_digest_53 ?_
    refine lv_lstore_n (lv' := [(1, .long ((31 * ((31 * x1) + z28.1.toInt64)) + ((z28.2 49 20).toInt64))), (0, .ref (gad w 49))]) hx hb d_M_digest_54 rfl hl (by decide) rfl (fun ls hl => ?_)
    refine lv_iconst (v := 0) hx hb d_M_digest_55 (by decide) ?_
    refine lv_istore_n (lv' := [(3, .int 0), (1, .long ((31 * ((31 * x1) + z28.1.toInt64)) + ((z28.2 49 20).toInt64))), (0, .ref (gad w 49))]) hx hb d_M_digest_56 rfl hl (by decide) rfl (fun ls hl => ?_)
    obtain ⟨z29, hz29, h⟩ := bnd_some h
    refine L_M_digest_57 C FZ _ _ _ _ hz29 ?_ ls _ _ hG (lv_sub hl [2, 1, 0] rfl)
    intro y1 y3 Sy e9 ls H locs hG hl
    subst e9
    exact J112 _ _ h ls _ _ hG (lv_sub hl [0, 1] rfl)
  refine lv_ldc2 (v := 17) hx hb C.2.2.2.1 (C.2.2.2.2.1 _ qw1100) d_M_digest_0 ?_
  refine lv_lstore_n (lv' := [(1, .long 17), (0, .ref (gad w 49))]) hx hb d_M_digest_3 rfl hl (by decide) rfl (fun ls hl => ?_)
  refine lv_iconst (v := 0) hx hb d_M_digest_4 (by decide) ?_
  refine lv_istore_n (lv' := [(3, .int 0), (1, .long 17), (0, .ref (gad w 49))]) hx hb d_M_digest_5 rfl hl (by decide) rfl (fun ls hl => ?_)
  obtain ⟨z30, hz30, h⟩ := bnd_some h
  refine L_M_digest_6 C FZ _ _ _ _ hz30 ?_ ls _ _ hG (lv_sub hl [2, 1, 0] rfl)
  intro y1 y3 Sy e9 ls H locs hG hl
  subst e9
  exact J31 _ _ h ls _ _ hG (lv_sub hl [0, 1] rfl)
