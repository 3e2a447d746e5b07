variable {p : Program} {l : Launch} {e : Env} {s : State} {m : MethodId} {args : Array Value} {below : List Frame} {meth : Method} {c : Code} {A : Nat → Prop} {Q : State → Prop} {w : gw} {S : St}
theorem d_M_buyingOf_0 : decode b_M_buyingOf 0 = .ok (.aload_n 0, 1) := by decide +kernel
theorem d_M_buyingOf_1 : decode b_M_buyingOf 1 = .ok (.getfield 52, 3) := by decide +kernel
theorem d_M_buyingOf_4 : decode b_M_buyingOf 4 = .ok (.iload_n 2, 1) := by decide +kernel
theorem d_M_buyingOf_5 : decode b_M_buyingOf 5 = .ok (.iaload, 1) := by decide +kernel
theorem d_M_buyingOf_6 : decode b_M_buyingOf 6 = .ok (.iconst (-1), 1) := by decide +kernel
theorem d_M_buyingOf_7 : decode b_M_buyingOf 7 = .ok (.if_icmp .ne 24, 3) := by decide +kernel
theorem d_M_buyingOf_10 : decode b_M_buyingOf 10 = .ok (.aload_n 0, 1) := by decide +kernel
theorem d_M_buyingOf_11 : decode b_M_buyingOf 11 = .ok (.getfield 40, 3) := by decide +kernel
theorem d_M_buyingOf_14 : decode b_M_buyingOf 14 = .ok (.iload_n 2, 1) := by decide +kernel
theorem d_M_buyingOf_15 : decode b_M_buyingOf 15 = .ok (.iaload, 1) := by decide +kernel
theorem d_M_buyingOf_16 : decode b_M_buyingOf 16 = .ok (.iconst 1, 1) := by decide +kernel
theorem d_M_buyingOf_17 : decode b_M_buyingOf 17 = .ok (.if_icmp .le 12, 3) := by decide +kernel
theorem d_M_buyingOf_20 : decode b_M_buyingOf 20 = .ok (.aload_n 0, 1) := by decide +kernel
theorem d_M_buyingOf_21 : decode b_M_buyingOf 21 = .ok (.getfield 40, 3) := by decide +kernel
theorem d_M_buyingOf_24 : decode b_M_buyingOf 24 = .ok (.iload_n 2, 1) := by decide +kernel
theorem d_M_buyingOf_25 : decode b_M_buyingOf 25 = .ok (.iaload, 1) := by decide +kernel
theorem d_M_buyingOf_26 : decode b_M_buyingOf 26 = .ok (.goto 4, 3) := by decide +kernel
theorem d_M_buyingOf_29 : decode b_M_buyingOf 29 = .ok (.iconst 1, 1) := by decide +kernel
theorem d_M_buyingOf_30 : decode b_M_buyingOf 30 = .ok (.ireturn, 1) := by decide +kernel
theorem d_M_buyingOf_31 : decode b_M_buyingOf 31 = .ok (.iload_n 1, 1) := by decide +kernel
theorem d_M_buyingOf_32 : decode b_M_buyingOf 32 = .ok (.aload_n 0, 1) := by decide +kernel
theorem d_M_buyingOf_33 : decode b_M_buyingOf 33 = .ok (.iload_n 2, 1) := by decide +kernel
theorem d_M_buyingOf_34 : decode b_M_buyingOf 34 = .ok (.invokevirtual 162, 3) := by decide +kernel
theorem d_M_buyingOf_37 : decode b_M_buyingOf 37 = .ok (.invokestatic 190, 3) := by decide +kernel
theorem d_M_buyingOf_40 : decode b_M_buyingOf 40 = .ok (.ifCond .eq 7, 3) := by decide +kernel
theorem d_M_buyingOf_43 : decode b_M_buyingOf 43 = .ok (.iconst 0, 1) := by decide +kernel
theorem d_M_buyingOf_44 : decode b_M_buyingOf 44 = .ok (.goto 15, 3) := by decide +kernel
theorem d_M_buyingOf_47 : decode b_M_buyingOf 47 = .ok (.aload_n 0, 1) := by decide +kernel
theorem d_M_buyingOf_48 : decode b_M_buyingOf 48 = .ok (.iload_n 2, 1) := by decide +kernel
theorem d_M_buyingOf_49 : decode b_M_buyingOf 49 = .ok (.invokevirtual 165, 3) := by decide +kernel
theorem d_M_buyingOf_52 : decode b_M_buyingOf 52 = .ok (.aload_n 0, 1) := by decide +kernel
theorem d_M_buyingOf_53 : decode b_M_buyingOf 53 = .ok (.getfield 46, 3) := by decide +kernel
theorem d_M_buyingOf_56 : decode b_M_buyingOf 56 = .ok (.iconst 0, 1) := by decide +kernel
theorem d_M_buyingOf_57 : decode b_M_buyingOf 57 = .ok (.iaload, 1) := by decide +kernel
theorem d_M_buyingOf_58 : decode b_M_buyingOf 58 = .ok (.iadd, 1) := by decide +kernel
theorem d_M_buyingOf_59 : decode b_M_buyingOf 59 = .ok (.ireturn, 1) := by decide +kernel
noncomputable def M_buyingOf (S : St) (x1 : Int32) (x2 : Int32) : Option (Int32) :=
  chk (inb x2 10) <|
    if (S 64 (ix x2)) = (-1) then
      chk (inb x2 10) <|
      if (S 60 (ix x2)) ≤ 1 then
        some 1
      else
        chk (inb x2 10) <|
        some (S 60 (ix x2))
    else
      bnd (M_ownerOf S x2) fun z1 =>
      if (M_isIn x1 z1) = 0 then
        bnd (M_amountOf S x2) fun z2 =>
        some (z2 + (S 62 0))
      else
        some 0
set_option maxHeartbeats 4000000 in
set_option maxRecDepth 100000 in
theorem c_M_buyingOf (l : Launch) (w : gw) (S : St) (x1 : Int32) (x2 : Int32)  {z : Int32} (h : (M_buyingOf S x1 x2) = some z) : gMi l w y_M_buyingOf b_M_buyingOf 3 (some .int) (rmm 1 21) [.ref (gad w 49), .int x1, .int x2] S z S := by
  unfold M_buyingOf at h
  refine g_met (Qc := gQi w z S) (by decide +kernel) (Nat.le_of_ble_eq_true rfl) ?_
  intro p e s m args below meth c A Q ls hQ C hG hl
  have hx := C.1
  have hb := C.2.1
  have hl : lv_has ls 3 [(0, .ref (gad w 49)), (1, .int x1), (2, .int x2)] := hl
  refine lv_aload_n hx hb d_M_buyingOf_0 rfl (lv_at hl 0 rfl) ?_
  refine g_get C hG (hG.lt (Nat.le_of_ble_eq_true rfl)) (ce49 w _) rfl inC8 18 (Nat.le_of_ble_eq_true rfl) qw694 rfl d_M_buyingOf_1 ?_
  refine lv_iload_n hx hb d_M_buyingOf_4 rfl (lv_at hl 2 rfl) ?_
  obtain ⟨hi1, h⟩ := chk_some h
  refine g_iald (j := ix x2) C hG (hG.lt (Nat.le_of_ble_eq_true rfl)) (ce64 w _) (inb_in hi1) rfl d_M_buyingOf_5 ?_
  refine lv_iconst (v := (-1)) hx hb d_M_buyingOf_6 (by decide) ?_
  refine lv_icmp_ne (tgt := 31) hx hb d_M_buyingOf_7 (by decide) (fun hc => ?_) (fun hc => ?_)
  · replace h := it_f h hc
    refine lv_iload_n hx hb d_M_buyingOf_31 rfl (lv_at hl 1 rfl) ?_
    refine lv_aload_n hx hb d_M_buyingOf_32 rfl (lv_at hl 0 rfl) ?_
    refine lv_iload_n hx hb d_M_buyingOf_33 rfl (lv_at hl 2 rfl) ?_
    obtain ⟨z1, hz1, h⟩ := bnd_some h
    refine g_goi hG (g_runV (As := [.int x2]) (rest := [.int x1]) C hG (c_M_ownerOf l w S x2 hz1 _) (hG.lt (Nat.le_of_ble_eq_true rfl)) (ce49 w _) rfl vw_M_162 rfl rfl ⟨by decide, by decide⟩ rfl hl.1 rfl (Nat.le_of_ble_eq_true rfl) d_M_buyingOf_34 ⟨Nat.zero_le _, Nat.zero_le _⟩) (fun H locs hG => ?_)
    refine g_goi hG (g_runS (As := [.int x1, .int z1]) (rest := []) C hG (c_M_isIn l w S x1 z1 _) sw_M_190 rfl rfl ⟨by decide, by decide⟩ rfl hl.1 rfl (Nat.le_of_ble_eq_true rfl) d_M_buyingOf_37 ⟨Nat.zero_le _, Nat.zero_le _⟩) (fun H locs hG => ?_)
    refine lv_if_eq (tgt := 47) hx hb d_M_buyingOf_40 (by decide) (fun hc => ?_) (fun hc => ?_)
    · replace h := it_t h hc
      refine lv_aload_n hx hb d_M_buyingOf_47 rfl (lv_at hl 0 rfl) ?_
      refine lv_iload_n hx hb d_M_buyingOf_48 rfl (lv_at hl 2 rfl) ?_
      obtain ⟨z2, hz2, h⟩ := bnd_some h
      refine g_goi hG (g_runV (As := [.int x2]) (rest := []) C hG (c_M_amountOf l w S x2 hz2 _) (hG.lt (Nat.le_of_ble_eq_true rfl)) (ce49 w _) rfl vw_M_165 rfl rfl ⟨by decide, by decide⟩ rfl hl.1 rfl (Nat.le_of_ble_eq_true rfl) d_M_buyingOf_49 ⟨Nat.zero_le _, Nat.zero_le _⟩) (fun H locs hG => ?_)
      refine lv_aload_n hx hb d_M_buyingOf_52 rfl (lv_at hl 0 rfl) ?_
      refine g_get C hG (hG.lt (Nat.le_of_ble_eq_true rfl)) (ce49 w _) rfl inC8 16 (Nat.le_of_ble_eq_true rfl) qw692 rfl d_M_buyingOf_53 ?_
      refine lv_iconst (v := 0) hx hb d_M_buyingOf_56 (by decide) ?_
      refine g_iald (j := 0) C hG (hG.lt (Nat.le_of_ble_eq_true rfl)) (ce62 w _) (inb_in (by decide)) rfl d_M_buyingOf_57 ?_
      refine lv_iadd hx hb d_M_buyingOf_58 ?_
      exact g_iret C hG (Option.some.inj h) rfl hQ d_M_buyingOf_59
    · replace h := it_f h hc
      refine lv_iconst (v := 0) hx hb d_M_buyingOf_43 (by decide) ?_
      refine lv_goto (tgt := 59) hx hb d_M_buyingOf_44 (by decide) ?_
      exact g_iret C hG (Option.some.inj h) rfl hQ d_M_buyingOf_59
  · replace h := it_t h hc
    refine lv_aload_n hx hb d_M_buyingOf_10 rfl (lv_at hl 0 rfl) ?_
    refine g_get C hG (hG.lt (Nat.le_of_ble_eq_true rfl)) (ce49 w _) rfl inC8 14 (Nat.le_of_ble_eq_true rfl) qw690 rfl d_M_buyingOf_11 ?_
    refine lv_iload_n hx hb d_M_buyingOf_14 rfl (lv_at hl 2 rfl) ?_
    obtain ⟨hi2, h⟩ := chk_some h
    refine g_iald (j := ix x2) C hG (hG.lt (Nat.le_of_ble_eq_true rfl)) (ce60 w _) (inb_in hi2) rfl d_M_buyingOf_15 ?_
    refine lv_iconst (v := 1) hx hb d_M_buyingOf_16 (by decide) ?_
    refine lv_icmp_le (tgt := 29) hx hb d_M_buyingOf_17 (by decide) (fun hc => ?_) (fun hc => ?_)
    · replace h := it_t h hc
      refine lv_iconst (v := 1) hx hb d_M_buyingOf_29 (by decide) ?_
      exact g_iret C hG (Option.some.inj h) rfl hQ d_M_buyingOf_30
    · replace h := it_f h hc
      refine lv_aload_n hx hb d_M_buyingOf_20 rfl (lv_at hl 0 rfl) ?_
      refine g_get C hG (hG.lt (Nat.le_of_ble_eq_true rfl)) (ce49 w _) rfl inC8 14 (Nat.le_of_ble_eq_true rfl) qw690 rfl d_M_buyingOf_21 ?_
      refine lv_iload_n hx hb d_M_buyingOf_24 rfl (lv_at hl 2 rfl) ?_
      obtain ⟨hi3, h⟩ := chk_some h
      refine g_iald (j := ix x2) C hG (hG.lt (Nat.le_of_ble_eq_true rfl)) (ce60 w _) (inb_in hi3) rfl d_M_buyingOf_25 ?_
      refine lv_goto (tgt := 30) hx hb d_M_buyingOf_26 (by decide) ?_
      exact g_iret C hG (Option.some.inj h) rfl hQ d_M_buyingOf_30
theorem d_M_meetOf_0 : decode b_M_meetOf 0 = .ok (.iconst 0, 1) := by decide +kernel
theorem d_M_meetOf_1 : decode b_M_meetOf 1 = .ok (.istore 4, 2) := by decide +kernel
theorem d_M_meetOf_3 : decode b_M_meetOf 3 = .ok (.iconst 0, 1) := by decide +kernel
theorem d_M_meetOf_4 : decode b_M_meetOf 4 = .ok (.istore 5, 2) := by decide +kernel
theorem d_M_meetOf_6 : decode b_M_meetOf 6 = .ok (.iload 5, 2) := by decide +kernel
theorem d_M_meetOf_8 : decode b_M_meetOf 8 = .ok (.iconst 5, 1) := by decide +kernel
theorem d_M_meetOf_9 : decode b_M_meetOf 9 = .ok (.if_icmp .ge 34, 3) := by decide +kernel
theorem d_M_meetOf_12 : decode b_M_meetOf 12 = .ok (.iload 4, 2) := by decide +kernel
theorem d_M_meetOf_14 : decode b_M_meetOf 14 = .ok (.iload_n 1, 1) := by decide +kernel
theorem d_M_meetOf_15 : decode b_M_meetOf 15 = .ok (.iload 5, 2) := by decide +kernel
theorem d_M_meetOf_17 : decode b_M_meetOf 17 = .ok (.invokestatic 190, 3) := by decide +kernel
theorem d_M_meetOf_20 : decode b_M_meetOf 20 = .ok (.ifCond .eq 13, 3) := by decide +kernel
theorem d_M_meetOf_23 : decode b_M_meetOf 23 = .ok (.aload_n 0, 1) := by decide +kernel
theorem d_M_meetOf_24 : decode b_M_meetOf 24 = .ok (.getfield 49, 3) := by decide +kernel
theorem d_M_meetOf_27 : decode b_M_meetOf 27 = .ok (.iload 5, 2) := by decide +kernel
theorem d_M_meetOf_29 : decode b_M_meetOf 29 = .ok (.iaload, 1) := by decide +kernel
theorem d_M_meetOf_30 : decode b_M_meetOf 30 = .ok (.goto 4, 3) := by decide +kernel
theorem d_M_meetOf_33 : decode b_M_meetOf 33 = .ok (.iconst 0, 1) := by decide +kernel
theorem d_M_meetOf_34 : decode b_M_meetOf 34 = .ok (.ior, 1) := by decide +kernel
theorem d_M_meetOf_35 : decode b_M_meetOf 35 = .ok (.istore 4, 2) := by decide +kernel
theorem d_M_meetOf_37 : decode b_M_meetOf 37 = .ok (.iinc 5 1, 3) := by decide +kernel
theorem d_M_meetOf_40 : decode b_M_meetOf 40 = .ok (.goto (-34), 3) := by decide +kernel
theorem d_M_meetOf_43 : decode b_M_meetOf 43 = .ok (.iconst (-1), 1) := by decide +kernel
theorem d_M_meetOf_44 : decode b_M_meetOf 44 = .ok (.istore 5, 2) := by decide +kernel
theorem d_M_meetOf_46 : decode b_M_meetOf 46 = .ok (.iconst 0, 1) := by decide +kernel
theorem d_M_meetOf_47 : decode b_M_meetOf 47 = .ok (.istore 6, 2) := by decide +kernel
theorem d_M_meetOf_49 : decode b_M_meetOf 49 = .ok (.iconst 0, 1) := by decide +kernel
theorem d_M_meetOf_50 : decode b_M_meetOf 50 = .ok (.istore 7, 2) := by decide +kernel
theorem d_M_meetOf_52 : decode b_M_meetOf 52 = .ok (.iload 7, 2) := by decide +kernel
theorem d_M_meetOf_54 : decode b_M_meetOf 54 = .ok (.sipush 1024, 3) := by decide +kernel
theorem d_M_meetOf_57 : decode b_M_meetOf 57 = .ok (.if_icmp .ge 92, 3) := by decide +kernel
theorem d_M_meetOf_60 : decode b_M_meetOf 60 = .ok (.iload 7, 2) := by decide +kernel
theorem d_M_meetOf_62 : decode b_M_meetOf 62 = .ok (.invokestatic 213, 3) := by decide +kernel
theorem d_M_meetOf_65 : decode b_M_meetOf 65 = .ok (.iload_n 2, 1) := by decide +kernel
theorem d_M_meetOf_66 : decode b_M_meetOf 66 = .ok (.if_icmp .ne 77, 3) := by decide +kernel
theorem d_M_meetOf_69 : decode b_M_meetOf 69 = .ok (.iload 7, 2) := by decide +kernel
theorem d_M_meetOf_71 : decode b_M_meetOf 71 = .ok (.iload 4, 2) := by decide +kernel
theorem d_M_meetOf_73 : decode b_M_meetOf 73 = .ok (.iand, 1) := by decide +kernel
theorem d_M_meetOf_74 : decode b_M_meetOf 74 = .ok (.ifCond .ne 69, 3) := by decide +kernel
theorem d_M_meetOf_77 : decode b_M_meetOf 77 = .ok (.iconst 0, 1) := by decide +kernel
theorem d_M_meetOf_78 : decode b_M_meetOf 78 = .ok (.istore 8, 2) := by decide +kernel
theorem d_M_meetOf_80 : decode b_M_meetOf 80 = .ok (.iconst 0, 1) := by decide +kernel
theorem d_M_meetOf_81 : decode b_M_meetOf 81 = .ok (.istore 9, 2) := by decide +kernel
theorem d_M_meetOf_83 : decode b_M_meetOf 83 = .ok (.iload 9, 2) := by decide +kernel
theorem d_M_meetOf_85 : decode b_M_meetOf 85 = .ok (.bipush 10, 2) := by decide +kernel
theorem d_M_meetOf_87 : decode b_M_meetOf 87 = .ok (.if_icmp .ge 35, 3) := by decide +kernel
theorem d_M_meetOf_90 : decode b_M_meetOf 90 = .ok (.iload 8, 2) := by decide +kernel
theorem d_M_meetOf_92 : decode b_M_meetOf 92 = .ok (.iload 7, 2) := by decide +kernel
theorem d_M_meetOf_94 : decode b_M_meetOf 94 = .ok (.iload 9, 2) := by decide +kernel
theorem d_M_meetOf_96 : decode b_M_meetOf 96 = .ok (.invokestatic 190, 3) := by decide +kernel
theorem d_M_meetOf_99 : decode b_M_meetOf 99 = .ok (.ifCond .eq 13, 3) := by decide +kernel
theorem d_M_meetOf_102 : decode b_M_meetOf 102 = .ok (.aload_n 0, 1) := by decide +kernel
theorem d_M_meetOf_103 : decode b_M_meetOf 103 = .ok (.iload_n 1, 1) := by decide +kernel
theorem d_M_meetOf_104 : decode b_M_meetOf 104 = .ok (.iload 9, 2) := by decide +kernel
theorem d_M_meetOf_106 : decode b_M_meetOf 106 = .ok (.invokevirtual 216, 3) := by decide +kernel
theorem d_M_meetOf_109 : decode b_M_meetOf 109 = .ok (.goto 4, 3) := by decide +kernel
theorem d_M_meetOf_112 : decode b_M_meetOf 112 = .ok (.iconst 0, 1) := by decide +kernel
theorem d_M_meetOf_113 : decode b_M_meetOf 113 = .ok (.iadd, 1) := by decide +kernel
theorem d_M_meetOf_114 : decode b_M_meetOf 114 = .ok (.istore 8, 2) := by decide +kernel
theorem d_M_meetOf_116 : decode b_M_meetOf 116 = .ok (.iinc 9 1, 3) := by decide +kernel
theorem d_M_meetOf_119 : decode b_M_meetOf 119 = .ok (.goto (-36), 3) := by decide +kernel
theorem d_M_meetOf_122 : decode b_M_meetOf 122 = .ok (.iload 5, 2) := by decide +kernel
theorem d_M_meetOf_124 : decode b_M_meetOf 124 = .ok (.iconst (-1), 1) := by decide +kernel
theorem d_M_meetOf_125 : decode b_M_meetOf 125 = .ok (.if_icmp .eq 10, 3) := by decide +kernel
theorem d_M_meetOf_128 : decode b_M_meetOf 128 = .ok (.iload 8, 2) := by decide +kernel
theorem d_M_meetOf_130 : decode b_M_meetOf 130 = .ok (.iload 6, 2) := by decide +kernel
theorem d_M_meetOf_132 : decode b_M_meetOf 132 = .ok (.if_icmp .ge 11, 3) := by decide +kernel
theorem d_M_meetOf_135 : decode b_M_meetOf 135 = .ok (.iload 7, 2) := by decide +kernel
theorem d_M_meetOf_137 : decode b_M_meetOf 137 = .ok (.istore 5, 2) := by decide +kernel
theorem d_M_meetOf_139 : decode b_M_meetOf 139 = .ok (.iload 8, 2) := by decide +kernel
theorem d_M_meetOf_141 : decode b_M_meetOf 141 = .ok (.istore 6, 2) := by decide +kernel
theorem d_M_meetOf_143 : decode b_M_meetOf 143 = .ok (.iinc 7 1, 3) := by decide +kernel
theorem d_M_meetOf_146 : decode b_M_meetOf 146 = .ok (.goto (-94), 3) := by decide +kernel
theorem d_M_meetOf_149 : decode b_M_meetOf 149 = .ok (.iload 5, 2) := by decide +kernel
theorem d_M_meetOf_151 : decode b_M_meetOf 151 = .ok (.iconst (-1), 1) := by decide +kernel
theorem d_M_meetOf_152 : decode b_M_meetOf 152 = .ok (.if_icmp .eq 8, 3) := by decide +kernel
theorem d_M_meetOf_155 : decode b_M_meetOf 155 = .ok (.iload_n 3, 1) := by decide +kernel
theorem d_M_meetOf_156 : decode b_M_meetOf 156 = .ok (.iconst 1, 1) := by decide +kernel
theorem d_M_meetOf_157 : decode b_M_meetOf 157 = .ok (.if_icmp .ne 8, 3) := by decide +kernel
theorem d_M_meetOf_160 : decode b_M_meetOf 160 = .ok (.iload 5, 2) := by decide +kernel
theorem d_M_meetOf_162 : decode b_M_meetOf 162 = .ok (.goto 5, 3) := by decide +kernel
theorem d_M_meetOf_165 : decode b_M_meetOf 165 = .ok (.iload 6, 2) := by decide +kernel
theorem d_M_meetOf_167 : decode b_M_meetOf 167 = .ok (.ireturn, 1) := by decide +kernel
noncomputable def M_meetOf_L6 (S : St) (x1 : Int32) (x2 : Int32) (x3 : Int32) (x4 : Int32) (x5 : Int32) : Option ((Int32 × Int32) × Nat) :=
  if 5 ≤ x5 then
      some ((x4, x5), 1)
    else
      if (M_isIn x1 x5) = 0 then
        some ((x4 ||| 0, x5 + 1), 0)
      else
        chk (inb x5 5) <|
        some ((x4 ||| (S 63 (ix x5)), x5 + 1), 0)
noncomputable def M_meetOf_L83 (S : St) (x1 : Int32) (x2 : Int32) (x3 : Int32) (x4 : Int32) (x5 : Int32) (x6 : Int32) (x7 : Int32) (x8 : Int32) (x9 : Int32) : Option ((Int32 × Int32) × Nat) :=
  if 10 ≤ x9 then
      some ((x8, x9), 1)
    else
      if (M_isIn x7 x9) = 0 then
        some ((x8 + 0, x9 + 1), 0)
      else
        bnd (M_buyingOf S x1 x9) fun z1 =>
        some ((x8 + z1, x9 + 1), 0)
noncomputable def M_meetOf_J122 (S : St) (x1 : Int32) (x2 : Int32) (x3 : Int32) (x4 : Int32) (x5 : Int32) (x6 : Int32) (x7 : Int32) (x8 : Int32) : Option ((Int32 × Int32 × Int32) × Nat) :=
  if x5 = (-1) then
      some ((x7, x8, x7 + 1), 0)
    else
      if x6 ≤ x8 then
        some ((x5, x6, x7 + 1), 0)
      else
        some ((x7, x8, x7 + 1), 0)
noncomputable def M_meetOf_L52 (S : St) (x1 : Int32) (x2 : Int32) (x3 : Int32) (x4 : Int32) (x5 : Int32) (x6 : Int32) (x7 : Int32) : Option ((Int32 × Int32 × Int32) × Nat) :=
  if 1024 ≤ x7 then
      some ((x5, x6, x7), 1)
    else
      bnd (M_ones x7) fun z2 =>
      if z2 = x2 then
        if (x7 &&& x4) = 0 then
          bnd (lp (σ := Int32 × Int32) (fun q => M_meetOf_L83 S x1 x2 x3 x4 x5 x6 x7 q.1 q.2) FZ (0, 0)) fun z3 =>
          M_meetOf_J122 S x1 x2 x3 x4 x5 x6 x7 z3.1.1
        else
          some ((x5, x6, x7 + 1), 0)
      else
        some ((x5, x6, x7 + 1), 0)
noncomputable def M_meetOf_J149 (S : St) (x3 : Int32) (x5 : Int32) (x6 : Int32) : Option (Int32) :=
  if x5 = (-1) then
      some x5
    else
      if x3 = 1 then
        some x5
      else
        some x6
noncomputable def M_meetOf_J43 (S : St) (x1 : Int32) (x2 : Int32) (x3 : Int32) (x4 : Int32) : Option (Int32) :=
  bnd (lp (σ := Int32 × Int32 × Int32) (fun q => M_meetOf_L52 S x1 x2 x3 x4 q.1 q.2.1 q.2.2) FZ ((-1), 0, 0)) fun z4 =>
    M_meetOf_J149 S x3 z4.1.1 z4.1.2.1
noncomputable def M_meetOf (S : St) (x1 : Int32) (x2 : Int32) (x3 : Int32) : Option (Int32) :=
  bnd (lp (σ := Int32 × Int32) (fun q => M_meetOf_L6 S x1 x2 x3 q.1 q.2) FZ (0, 0)) fun z5 =>
    M_meetOf_J43 S x1 x2 x3 z5.1.1
set_option maxHeartbeats 4000000 in
set_option maxRecDepth 100000 in
theorem L_M_meetOf_6 (C : gCx p s m args meth c y_M_meetOf.cls b_M_meetOf 10 (some .int)) : ∀ (S : St) (x1 : Int32) (x2 : Int32) (x3 : Int32) (n : Nat) (x4 : Int32) (x5 : Int32) (r : (Int32 × Int32) × Nat), lp (σ := Int32 × Int32) (fun q => M_meetOf_L6 S x1 x2 x3 q.1 q.2) n (x4, x5) = some r → (∀ (y4 : Int32) (y5 : Int32), r = ((y4, y5), 1) → ∀ (ls : Array Slot) (H : Heap) (locs : List Loc), GH w s A S H locs → lv_has ls 10 [(0, .ref (gad w 49)), (1, .int x1), (2, .int x2), (3, .int x3), (4, .int y4)] → W p l e (rmm 2 43) s m args below meth c H locs 0 0 Q (F0 m 43 ls [])) → ∀ (ls : Array Slot) (H : Heap) (locs : List Loc), GH w s A S H locs → lv_has ls 10 [(0, .ref (gad w 49)), (1, .int x1), (2, .int x2), (3, .int x3), (4, .int x4), (5, .int x5)] → W p l e (rmm 2 43) s m args below meth c H locs 0 0 Q (F0 m 6 ls []) := by
  have hx := C.1
  have hb := C.2.1
  intro S x1 x2 x3 n
  induction n with
  | zero => intro x4 x5 r h; cases h
  | succ n ih =>
    intro x4 x5 r h k1 ls H locs hG hl
    obtain ⟨z, h, hr⟩ := lp_succ h
    have h : M_meetOf_L6 S x1 x2 x3 x4 x5 = some z := h
    unfold M_meetOf_L6 at h
    refine lv_iload hx hb d_M_meetOf_6 (lv_at hl 5 rfl) ?_
    refine lv_iconst (v := 5) hx hb d_M_meetOf_8 (by decide) ?_
    refine lv_icmp_ge (tgt := 43) hx hb d_M_meetOf_9 (by decide) (fun hc => ?_) (fun hc => ?_)
    · replace h := it_t h hc
      exact k1 _ _ (lp_exit h hr) ls _ _ hG (lv_sub hl [0, 1, 2, 3, 4] rfl)
    · replace h := it_f h hc
      refine lv_iload hx hb d_M_meetOf_12 (lv_at hl 4 rfl) ?_
      refine lv_iload_n hx hb d_M_meetOf_14 rfl (lv_at hl 1 rfl) ?_
      refine lv_iload hx hb d_M_meetOf_15 (lv_at hl 5 rfl) ?_
      refine g_goi hG (g_runS (As := [.int x1, .int x5]) (rest := [.int x4]) C hG (c_M_isIn l w S x1 x5 _) sw_M_190 rfl rfl ⟨by decide, by decide⟩ rfl hl.1 rfl (Nat.le_of_ble_eq_true rfl) d_M_meetOf_17 ⟨Nat.zero_le _, Nat.zero_le _⟩) (fun H locs hG => ?_)
      refine lv_if_eq (tgt := 33) hx hb d_M_meetOf_20 (by decide) (fun hc => ?_) (fun hc => ?_)
      · replace h := it_t h hc
        refine lv_iconst (v := 0) hx hb d_M_meetOf_33 (by decide) ?_
        refine lv_ior hx hb d_M_meetOf_34 ?_
        refine lv_istore (lv' := [(4, .int (x4 ||| 0)), (0, .ref (gad w 49)), (1, .int x1), (2, .int x2), (3, .int x3), (5, .int x5)]) hx hb d_M_meetOf_35 hl (by decide) rfl (fun ls hl => ?_)
        refine lv_iinc (v := x5 + 1) (lv' := [(5, .int (x5 + 1)), (4, .int (x4 ||| 0)), (0, .ref (gad w 49)), (1, .int x1), (2, .int x2), (3, .int x3)]) hx hb d_M_meetOf_37 hl (k := 5) rfl (congrArg (HAdd.hAdd x5) (by decide : Int32.ofInt 1 = 1)) (by decide) rfl (fun ls hl => ?_)
        refine lv_goto (tgt := 6) hx hb d_M_meetOf_40 (by decide) ?_
        exact ih _ _ _ (lp_back h hr) k1 ls _ _ hG (lv_sub hl [2, 3, 4, 5, 1, 0] rfl)
      · replace h := it_f h hc
        refine lv_aload_n hx hb d_M_meetOf_23 rfl (lv_at hl 0 rfl) ?_
        refine g_get C hG (hG.lt (Nat.le_of_ble_eq_true rfl)) (ce49 w _) rfl inC8 17 (Nat.le_of_ble_eq_true rfl) qw693 rfl d_M_meetOf_24 ?_
        refine lv_iload hx hb d_M_meetOf_27 (lv_at hl 5 rfl) ?_
        obtain ⟨hi1, h⟩ := chk_some h
        refine g_iald (j := ix x5) C hG (hG.lt (Nat.le_of_ble_eq_true rfl)) (ce63 w _) (inb_in hi1) rfl d_M_meetOf_29 ?_
        refine lv_goto (tgt := 34) hx hb d_M_meetOf_30 (by decide) ?_
        refine lv_ior hx hb d_M_meetOf_34 ?_
        refine lv_istore (lv' := [(4, .int (x4 ||| (S 63 (ix x5)))), (0, .ref (gad w 49)), (1, .int x1), (2, .int x2), (3, .int x3), (5, .int x5)]) hx hb d_M_meetOf_35 hl (by decide) rfl (fun ls hl => ?_)
        refine lv_iinc (v := x5 + 1) (lv' := [(5, .int (x5 + 1)), (4, .int (x4 ||| (S 63 (ix x5)))), (0, .ref (gad w 49)), (1, .int x1), (2, .int x2), (3, .int x3)]) hx hb d_M_meetOf_37 hl (k := 5) rfl (congrArg (HAdd.hAdd x5) (by decide : Int32.ofInt 1 = 1)) (by decide) rfl (fun ls hl => ?_)
        refine lv_goto (tgt := 6) hx hb d_M_meetOf_40 (by decide) ?_
        exact ih _ _ _ (lp_back h hr) k1 ls _ _ hG (lv_sub hl [2, 3, 4, 5, 1, 0] rfl)
set_option maxHeartbeats 4000000 in
set_option maxRecDepth 100000 in
theorem L_M_meetOf_83 (C : gCx p s m args meth c y_M_meetOf.cls b_M_meetOf 10 (some .int)) : ∀ (S : St) (x1 : Int32) (x2 : Int32) (x3 : Int32) (x4 : Int32) (x5 : Int32) (x6 : Int32) (x7 : Int32) (n : Nat) (x8 : Int32) (x9 : Int32) (r : (Int32 × Int32) × Nat), lp (σ := Int32 × Int32) (fun q => M_meetOf_L83 S x1 x2 x3 x4 x5 x6 x7 q.1 q.2) n (x8, x9) = some r → (∀ (y8 : Int32) (y9 : Int32), r = ((y8, y9), 1) → ∀ (ls : Array Slot) (H : Heap) (locs : List Loc), GH w s A S H locs → lv_has ls 10 [(0, .ref (gad w 49)), (1, .int x1), (2, .int x2), (3, .int x3), (4, .int x4), (5, .int x5), (6, .int x6), (7, .int x7), (8, .int y8)] → W p l e (rmm 2 43) s m args below meth c H locs 0 0 Q (F0 m 122 ls [])) → ∀ (ls : Array Slot) (H : Heap) (locs : List Loc), GH w s A S H locs → lv_has ls 10 [(0, .ref (gad w 49)), (1, .int x1), (2, .int x2), (3, .int x3), (4, .int x4), (5, .int x5), (6, .int x6), (7, .int x7), (8, .int x8), (9, .int x9)] → W p l e (rmm 2 43) s m args below meth c H locs 0 0 Q (F0 m 83 ls []) := by
  have hx := C.1
  have hb := C.2.1
  intro S x1 x2 x3 x4 x5 x6 x7 n
  induction n with
  | zero => intro x8 x9 r h; cases h
  | succ n ih =>
    intro x8 x9 r h k1 ls H locs hG hl
    obtain ⟨z, h, hr⟩ := lp_succ h
    have h : M_meetOf_L83 S x1 x2 x3 x4 x5 x6 x7 x8 x9 = some z := h
    unfold M_meetOf_L83 at h
    refine lv_iload hx hb d_M_meetOf_83 (lv_at hl 9 rfl) ?_
    refine lv_bipush (v := 10) hx hb d_M_meetOf_85 (by decide) ?_
    refine lv_icmp_ge (tgt := 122) hx hb d_M_meetOf_87 (by decide) (fun hc => ?_) (fun hc => ?_)
    · replace h := it_t h hc
      exact k1 _ _ (lp_exit h hr) ls _ _ hG (lv_sub hl [0, 1, 2, 3, 4, 5, 6, 7, 8] rfl)
    · replace h := it_f h hc
      refine lv_iload hx hb d_M_meetOf_90 (lv_at hl 8 rfl) ?_
      refine lv_iload hx hb d_M_meetOf_92 (lv_at hl 7 rfl) ?_
      refine lv_iload hx hb d_M_meetOf_94 (lv_at hl 9 rfl) ?_
      refine g_goi hG (g_runS (As := [.int x7, .int x9]) (rest := [.int x8]) C hG (c_M_isIn l w S x7 x9 _) sw_M_190 rfl rfl ⟨by decide, by decide⟩ rfl hl.1 rfl (Nat.le_of_ble_eq_true rfl) d_M_meetOf_96 ⟨Nat.zero_le _, Nat.zero_le _⟩) (fun H locs hG => ?_)
      refine lv_if_eq (tgt := 112) hx hb d_M_meetOf_99 (by decide) (fun hc => ?_) (fun hc => ?_)
      · replace h := it_t h hc
        refine lv_iconst (v := 0) hx hb d_M_meetOf_112 (by decide) ?_
        refine lv_iadd hx hb d_M_meetOf_113 ?_
        refine lv_istore (lv' := [(8, .int (x8 + 0)), (0, .ref (gad w 49)), (1, .int x1), (2, .int x2), (3, .int x3), (4, .int x4), (5, .int x5), (6, .int x6), (7, .int x7), (9, .int x9)]) hx hb d_M_meetOf_114 hl (by decide) rfl (fun ls hl => ?_)
        refine lv_iinc (v := x9 + 1) (lv' := [(9, .int (x9 + 1)), (8, .int (x8 + 0)), (0, .ref (gad w 49)), (1, .int x1), (2, .int x2), (3, .int x3), (4, .int x4), (5, .int x5), (6, .int x6), (7, .int x7)]) hx hb d_M_meetOf_116 hl (k := 9) rfl (congrArg (HAdd.hAdd x9) (by decide : Int32.ofInt 1 = 1)) (by decide) rfl (fun ls hl => ?_)
        refine lv_goto (tgt := 83) hx hb d_M_meetOf_119 (by decide) ?_
        exact ih _ _ _ (lp_back h hr) k1 ls _ _ hG (lv_sub hl [2, 3, 4, 5, 6, 7, 8, 9, 1, 0] rfl)
      · replace h := it_f h hc
        refine lv_aload_n hx hb d_M_meetOf_102 rfl (lv_at hl 0 rfl) ?_
        refine lv_iload_n hx hb d_M_meetOf_103 rfl (lv_at hl 1 rfl) ?_
        refine lv_iload hx hb d_M_meetOf_104 (lv_at hl 9 rfl) ?_
        obtain ⟨z1, hz1, h⟩ := bnd_some h
        refine g_goi hG (g_runV (As := [.int x1, .int x9]) (rest := [.int x8]) C hG (c_M_buyingOf l w S x1 x9 hz1 _) (hG.lt (Nat.le_of_ble_eq_true rfl)) (ce49 w _) rfl vw_M_216 rfl rfl ⟨by decide, by decide⟩ rfl hl.1 rfl (Nat.le_of_ble_eq_true rfl) d_M_meetOf_106 ⟨Nat.zero_le _, Nat.zero_le _⟩) (fun H locs hG => ?_)
        refine lv_goto (tgt := 113) hx hb d_M_meetOf_109 (by decide) ?_
        refine lv_iadd hx hb d_M_meetOf_113 ?_
        refine lv_istore (lv' := [(8, .int (x8 + z1)), (0, .ref (gad w 49)), (1, .int x1), (2, .int x2), (3, .int x3), (4, .int x4), (5, .int x5), (6, .int x6), (7, .int x7), (9, .int x9)]) hx hb d_M_meetOf_114 hl (by decide) rfl (fun ls hl => ?_)
        refine lv_iinc (v := x9 + 1) (lv' := [(9, .int (x9 + 1)), (8, .int (x8 + z1)), (0, .ref (gad w 49)), (1, .int x1), (2, .int x2), (3, .int x3), (4, .int x4), (5, .int x5), (6, .int x6), (7, .int x7)]) hx hb d_M_meetOf_116 hl (k := 9) rfl (congrArg (HAdd.hAdd x9) (by decide : Int32.ofInt 1 = 1)) (by decide) rfl (fun ls hl => ?_)
        refine lv_goto (tgt := 83) hx hb d_M_meetOf_119 (by decide) ?_
        exact ih _ _ _ (lp_back h hr) k1 ls _ _ hG (lv_sub hl [2, 3, 4, 5, 6, 7, 8, 9, 1, 0] rfl)
set_option maxHeartbeats 4000000 in
set_option maxRecDepth 100000 in
theorem L_M_meetOf_52 (C : gCx p s m args meth c y_M_meetOf.cls b_M_meetOf 10 (some .int)) : ∀ (S : St) (x1 : Int32) (x2 : Int32) (x3 : Int32) (x4 : Int32) (n : Nat) (x5 : Int32) (x6 : Int32) (x7 : Int32) (r : (Int32 × Int32 × Int32) × Nat), lp (σ := Int32 × Int32 × Int32) (fun q => M_meetOf_L52 S x1 x2 x3 x4 q.1 q.2.1 q.2.2) n (x5, x6, x7) = some r → (∀ (y5 : Int32) (y6 : Int32) (y7 : Int32), r = ((y5, y6, y7), 1) → ∀ (ls : Array Slot) (H : Heap) (locs : List Loc), GH w s A S H locs → lv_has ls 10 [(3, .int x3), (5, .int y5), (6, .int y6)] → W p l e (rmm 2 43) s m args below meth c H locs 0 0 Q (F0 m 149 ls [])) → ∀ (ls : Array Slot) (H : Heap) (locs : List Loc), GH w s A S H locs → lv_has ls 10 [(0, .ref (gad w 49)), (1, .int x1), (2, .int x2), (3, .int x3), (4, .int x4), (5, .int x5), (6, .int x6), (7, .int x7)] → W p l e (rmm 2 43) s m args below meth c H locs 0 0 Q (F0 m 52 ls []) := by
  have hx := C.1
  have hb := C.2.1
  intro S x1 x2 x3 x4 n
  induction n with
  | zero => intro x5 x6 x7 r h; cases h
  | succ n ih =>
    intro x5 x6 x7 r h k1 ls H locs hG hl
    obtain ⟨z, h, hr⟩ := lp_succ h
    have h : M_meetOf_L52 S x1 x2 x3 x4 x5 x6 x7 = some z := h
    have J122 : ∀ (x5 : Int32) (x6 : Int32) (x7 : Int32) (x8 : Int32), M_meetOf_J122 S x1 x2 x3 x4 x5 x6 x7 x8 = some z → ∀ (ls : Array Slot) (H : Heap) (locs : List Loc), GH w s A S H locs → lv_has ls 10 [(0, .ref (gad w 49)), (1, .int x1), (2, .int x2), (3, .int x3), (4, .int x4), (5, .int x5), (6, .int x6), (7, .int x7), (8, .int x8)] → W p l e (rmm 2 43) s m args below meth c H locs 0 0 Q (F0 m 122 ls []) := by
      intro x5 x6 x7 x8 h ls H locs hG hl
      unfold M_meetOf_J122 at h
      refine lv_iload hx hb d_M_meetOf_122 (lv_at hl 5 rfl) ?_
      refine lv_iconst (v := (-1)) hx hb d_M_meetOf_124 (by decide) ?_
      refine lv_icmp_eq (tgt := 135) hx hb d_M_meetOf_125 (by decide) (fun hc => ?_) (fun hc => ?_)
      · replace h := it_t h hc
        refine lv_iload hx hb d_M_meetOf_135 (lv_at hl 7 rfl) ?_
        refine lv_istore (lv' := [(5, .int x7), (0, .ref (gad w 49)), (1, .int x1), (2, .int x2), (3, .int x3), (4, .int x4), (6, .int x6), (7, .int x7), (8, .int x8)]) hx hb d_M_meetOf_137 hl (by decide) rfl (fun ls hl => ?_)
        refine lv_iload hx hb d_M_meetOf_139 (lv_at hl 8 rfl) ?_
        refine lv_istore (lv' := [(6, .int x8), (5, .int x7), (0, .ref (gad w 49)), (1, .int x1), (2, .int x2), (3, .int x3), (4, .int x4), (7, .int x7), (8, .int x8)]) hx hb d_M_meetOf_141 hl (by decide) rfl (fun ls hl => ?_)
        refine lv_iinc (v := x7 + 1) (lv' := [(7, .int (x7 + 1)), (6, .int x8), (5, .int x7), (0, .ref (gad w 49)), (1, .int x1), (2, .int x2), (3, .int x3), (4, .int x4), (8, .int x8)]) hx hb d_M_meetOf_143 hl (k := 7) rfl (congrArg (HAdd.hAdd x7) (by decide : Int32.ofInt 1 = 1)) (by decide) rfl (fun ls hl => ?_)
        refine lv_goto (tgt := 52) hx hb d_M_meetOf_146 (by decide) ?_
        exact ih _ _ _ _ (lp_back h hr) k1 ls _ _ hG (lv_sub hl [3, 4, 5, 6, 7, 2, 1, 0] rfl)
      · replace h := it_f h hc
        refine lv_iload hx hb d_M_meetOf_128 (lv_at hl 8 rfl) ?_
        refine lv_iload hx hb d_M_meetOf_130 (lv_at hl 6 rfl) ?_
        refine lv_icmp_ge (tgt := 143) hx hb d_M_meetOf_132 (by decide) (fun hc => ?_) (fun hc => ?_)
        · replace h := it_t h hc
          refine lv_iinc (v := x7 + 1) (lv' := [(7, .int (x7 + 1)), (0, .ref (gad w 49)), (1, .int x1), (2, .int x2), (3, .int x3), (4, .int x4), (5, .int x5), (6, .int x6), (8, .int x8)]) hx hb d_M_meetOf_143 hl (k := 7) rfl (congrArg (HAdd.hAdd x7) (by decide : Int32.ofInt 1 = 1)) (by decide) rfl (fun ls hl => ?_)
          refine lv_goto (tgt := 52) hx hb d_M_meetOf_146 (by decide) ?_
          exact ih _ _ _ _ (lp_back h hr) k1 ls _ _ hG (lv_sub hl [1, 2, 3, 4, 5, 6, 7, 0] rfl)
        · replace h := it_f h hc
          refine lv_iload hx hb d_M_meetOf_135 (lv_at hl 7 rfl) ?_
          refine lv_istore (lv' := [(5, .int x7), (0, .ref (gad w 49)), (1, .int x1), (2, .int x2), (3, .int x3), (4, .int x4), (6, .int x6), (7, .int x7), (8, .int x8)]) hx hb d_M_meetOf_137 hl (by decide) rfl (fun ls hl => ?_)
          refine lv_iload hx hb d_M_meetOf_139 (lv_at hl 8 rfl) ?_
          refine lv_istore (lv' := [(6, .int x8), (5, .int x7), (0, .ref (gad w 49)), (1, .int x1), (2, .int x2), (3, .int x3), (4, .int x4), (7, .int x7), (8, .int x8)]) hx hb d_M_meetOf_141 hl (by decide) rfl (fun ls hl => ?_)
          refine lv_iinc (v := x7 + 1) (lv' := [(7, .int (x7 + 1)), (6, .int x8), (5, .int x7), (0, .ref (gad w 49)), (1, .int x1), (2, .int x2), (3, .int x3), (4, .int x4), (8, .int x8)]) hx hb d_M_meetOf_143 hl (k := 7) rfl (congrArg (HAdd.hAdd x7) (by decide : Int32.ofInt 1 = 1)) (by decide) rfl (fun ls hl => ?_)
          refine lv_goto (tgt := 52) hx hb d_M_meetOf_146 (by decide) ?_
          exact ih _ _ _ _ (lp_back h hr) k1 ls _ _ hG (lv_sub hl [3, 4, 5, 6, 7, 2, 1, 0] rfl)
    unfold M_meetOf_L52 at h
    refine lv_iload hx hb d_M_meetOf_52 (lv_at hl 7 rfl) ?_
    refine lv_sipush (v := 1024) hx hb d_M_meetOf_54 (by decide) ?_
    refine lv_icmp_ge (tgt := 149) hx hb d_M_meetOf_57 (by decide) (fun hc => ?_) (fun hc => ?_)
    · replace h := it_t h hc
      exact k1 _ _ _ (lp_exit h hr) ls _ _ hG (lv_sub hl [3, 5, 6] rfl)
    · replace h := it_f h hc
      refine lv_iload hx hb d_M_meetOf_60 (lv_at hl 7 rfl) ?_
      obtain ⟨z2, hz2, h⟩ := bnd_some h
      refine g_goi hG (g_runS (As := [.int x7]) (rest := []) C hG (c_M_ones l w S x7 hz2 _) sw_M_213 rfl rfl ⟨by decide, by decide⟩ rfl hl.1 rfl (Nat.le_of_ble_eq_true rfl) d_M_meetOf_62 ⟨Nat.zero_le _, Nat.zero_le _⟩) (fun H locs hG => ?_)
      refine lv_iload_n hx hb d_M_meetOf_65 rfl (lv_at hl 2 rfl) ?_
      refine lv_icmp_ne (tgt := 143) hx hb d_M_meetOf_66 (by decide) (fun hc => ?_) (fun hc => ?_)
      · replace h := it_f h hc
        refine lv_iinc (v := x7 + 1) (lv' := [(7, .int (x7 + 1)), (0, .ref (gad w 49)), (1, .int x1), (2, .int x2), (3, .int x3), (4, .int x4), (5, .int x5), (6, .int x6)]) hx hb d_M_meetOf_143 hl (k := 7) rfl (congrArg (HAdd.hAdd x7) (by decide : Int32.ofInt 1 = 1)) (by decide) rfl (fun ls hl => ?_)
        refine lv_goto (tgt := 52) hx hb d_M_meetOf_146 (by decide) ?_
        exact ih _ _ _ _ (lp_back h hr) k1 ls _ _ hG (lv_sub hl [1, 2, 3, 4, 5, 6, 7, 0] rfl)
      · replace h := it_t h hc
        refine lv_iload hx hb d_M_meetOf_69 (lv_at hl 7 rfl) ?_
        refine lv_iload hx hb d_M_meetOf_71 (lv_at hl 4 rfl) ?_
        refine lv_iand hx hb d_M_meetOf_73 ?_
        refine lv_if_ne (tgt := 143) hx hb d_M_meetOf_74 (by decide) (fun hc => ?_) (fun hc => ?_)
        · replace h := it_f h hc
          refine lv_iinc (v := x7 + 1) (lv' := [(7, .int (x7 + 1)), (0, .ref (gad w 49)), (1, .int x1), (2, .int x2), (3, .int x3), (4, .int x4), (5, .int x5), (6, .int x6)]) hx hb d_M_meetOf_143 hl (k := 7) rfl (congrArg (HAdd.hAdd x7) (by decide : Int32.ofInt 1 = 1)) (by decide) rfl (fun ls hl => ?_)
          refine lv_goto (tgt := 52) hx hb d_M_meetOf_146 (by decide) ?_
          exact ih _ _ _ _ (lp_back h hr) k1 ls _ _ hG (lv_sub hl [1, 2, 3, 4, 5, 6, 7, 0] rfl)
        · replace h := it_t h hc
          refine lv_iconst (v := 0) hx hb d_M_meetOf_77 (by decide) ?_
          refine lv_istore (lv' := [(8, .int 0), (0, .ref (gad w 49)), (1, .int x1), (2, .int x2), (3, .int x3), (4, .int x4), (5, .int x5), (6, .int x6), (7, .int x7)]) hx hb d_M_meetOf_78 hl (by decide) rfl (fun ls hl => ?_)
          refine lv_iconst (v := 0) hx hb d_M_meetOf_80 (by decide) ?_
          refine lv_istore (lv' := [(9, .int 0), (8, .int 0), (0, .ref (gad w 49)), (1, .int x1), (2, .int x2), (3, .int x3), (4, .int x4), (5, .int x5), (6, .int x6), (7, .int x7)]) hx hb d_M_meetOf_81 hl (by decide) rfl (fun ls hl => ?_)
          obtain ⟨z3, hz3, h⟩ := bnd_some h
          refine L_M_meetOf_83 C _ _ _ _ _ _ _ _ FZ _ _ _ hz3 ?_ ls _ _ hG (lv_sub hl [2, 3, 4, 5, 6, 7, 8, 9, 1, 0] rfl)
          intro y8 y9 e9 ls H locs hG hl
          subst e9
          exact J122 _ _ _ _ h ls _ _ hG (lv_sub hl [0, 1, 2, 3, 4, 5, 6, 7, 8] rfl)
set_option maxHeartbeats 4000000 in
set_option maxRecDepth 100000 in
theorem c_M_meetOf (l : Launch) (w : gw) (S : St) (x1 : Int32) (x2 : Int32) (x3 : Int32)  {z : Int32} (h : (M_meetOf S x1 x2 x3) = some z) : gMi l w y_M_meetOf b_M_meetOf 10 (some .int) (rmm 2 43) [.ref (gad w 49), .int x1, .int x2, .int x3] S z S := by
  unfold M_meetOf at h
  refine g_met (Qc := gQi w z S) (by decide +kernel) (Nat.le_of_ble_eq_true rfl) ?_
  intro p e s m args below meth c A Q ls hQ C hG hl
  have hx := C.1
  have hb := C.2.1
  have hl : lv_has ls 10 [(0, .ref (gad w 49)), (1, .int x1), (2, .int x2), (3, .int x3)] := hl
  have J149 : ∀ (x5 : Int32) (x6 : Int32), M_meetOf_J149 S x3 x5 x6 = some z → ∀ (ls : Array Slot) (H : Heap) (locs : List Loc), GH w s A S H locs → lv_has ls 10 [(3, .int x3), (5, .int x5), (6, .int x6)] → W p l e (rmm 2 43) s m args below meth c H locs 0 0 Q (F0 m 149 ls []) := by
    intro x5 x6 h ls H locs hG hl
    unfold M_meetOf_J149 at h
    refine lv_iload hx hb d_M_meetOf_149 (lv_at hl 1 rfl) ?_
    refine lv_iconst (v := (-1)) hx hb d_M_meetOf_151 (by decide) ?_
    refine lv_icmp_eq (tgt := 160) hx hb d_M_meetOf_152 (by decide) (fun hc => ?_) (fun hc => ?_)
    · replace h := it_t h hc
      refine lv_iload hx hb d_M_meetOf_160 (lv_at hl 1 rfl) ?_
      refine lv_goto (tgt := 167) hx hb d_M_meetOf_162 (by decide) ?_
      exact g_iret C hG (Option.some.inj h) rfl hQ d_M_meetOf_167
    · replace h := it_f h hc
      refine lv_iload_n hx hb d_M_meetOf_155 rfl (lv_at hl 0 rfl) ?_
      refine lv_iconst (v := 1) hx hb d_M_meetOf_156 (by decide) ?_
      refine lv_icmp_ne (tgt := 165) hx hb d_M_meetOf_157 (by decide) (fun hc => ?_) (fun hc => ?_)
      · replace h := it_f h hc
        refine lv_iload hx hb d_M_meetOf_165 (lv_at hl 2 rfl) ?_
        exact g_iret C hG (Option.some.inj h) rfl hQ d_M_meetOf_167
      · replace h := it_t h hc
        refine lv_iload hx hb d_M_meetOf_160 (lv_at hl 1 rfl) ?_
        refine lv_goto (tgt := 167) hx hb d_M_meetOf_162 (by decide) ?_
        exact g_iret C hG (Option.some.inj h) rfl hQ d_M_meetOf_167
  have J43 : ∀ (x4 : Int32), M_meetOf_J43 S x1 x2 x3 x4 = some z → ∀ (ls : Array Slot) (H : Heap) (locs : List Loc), GH w s A S H locs → lv_has ls 10 [(0, .ref (gad w 49)), (1, .int x1), (2, .int x2), (3, .int x3), (4, .int x4)] → W p l e (rmm 2 43) s m args below meth c H locs 0 0 Q (F0 m 43 ls []) := by
    intro x4 h ls H locs hG hl
    unfold M_meetOf_J43 at h
    refine lv_iconst (v := (-1)) hx hb d_M_meetOf_43 (by decide) ?_
    refine lv_istore (lv' := [(5, .int (-1)), (0, .ref (gad w 49)), (1, .int x1), (2, .int x2), (3, .int x3), (4, .int x4)]) hx hb d_M_meetOf_44 hl (by decide) rfl (fun ls hl => ?_)
    refine lv_iconst (v := 0) hx hb d_M_meetOf_46 (by decide) ?_
    refine lv_istore (lv' := [(6, .int 0), (5, .int (-1)), (0, .ref (gad w 49)), (1, .int x1), (2, .int x2), (3, .int x3), (4, .int x4)]) hx hb d_M_meetOf_47 hl (by decide) rfl (fun ls hl => ?_)
    refine lv_iconst (v := 0) hx hb d_M_meetOf_49 (by decide) ?_
    refine lv_istore (lv' := [(7, .int 0), (6, .int 0), (5, .int (-1)), (0, .ref (gad w 49)), (1, .int x1), (2, .int x2), (3, .int x3), (4, .int x4)]) hx hb d_M_meetOf_50 hl (by decide) rfl (fun ls hl => ?_)
    obtain ⟨z4, hz4, h⟩ := bnd_some h
    refine L_M_meetOf_52 C _ _ _ _ _ FZ _ _ _ _ hz4 ?_ ls _ _ hG (lv_sub hl [3, 4, 5, 6, 7, 2, 1, 0] rfl)
    intro y5 y6 y7 e9 ls H locs hG hl
    subst e9
    exact J149 _ _ h ls _ _ hG (lv_sub hl [0, 1, 2] rfl)
  refine lv_iconst (v := 0) hx hb d_M_meetOf_0 (by decide) ?_
  refine lv_istore (lv' := [(4, .int 0), (0, .ref (gad w 49)), (1, .int x1), (2, .int x2), (3, .int x3)]) hx hb d_M_meetOf_1 hl (by decide) rfl (fun ls hl => ?_)
  refine lv_iconst (v := 0) hx hb d_M_meetOf_3 (by decide) ?_
  refine lv_istore (lv' := [(5, .int 0), (4, .int 0), (0, .ref (gad w 49)), (1, .int x1), (2, .int x2), (3, .int x3)]) hx hb d_M_meetOf_4 hl (by decide) rfl (fun ls hl => ?_)
  obtain ⟨z5, hz5, h⟩ := bnd_some h
  refine L_M_meetOf_6 C _ _ _ _ FZ _ _ _ hz5 ?_ ls _ _ hG (lv_sub hl [2, 3, 4, 5, 1, 0] rfl)
  intro y4 y5 e9 ls H locs hG hl
  subst e9
  exact J43 _ h ls _ _ hG (lv_sub hl [0, 1, 2, 3, 4] rfl)
theorem d_M_meet_0 : decode b_M_meet 0 = .ok (.aload_n 0, 1) := by decide +kernel
theorem d_M_meet_1 : decode b_M_meet 1 = .ok (.invokevirtual 181, 3) := by decide +kernel
theorem d_M_meet_4 : decode b_M_meet 4 = .ok (.iload_n 1, 1) := by decide +kernel
theorem d_M_meet_5 : decode b_M_meet 5 = .ok (.i2l, 1) := by decide +kernel
theorem d_M_meet_6 : decode b_M_meet 6 = .ok (.lconst 1, 1) := by decide +kernel
theorem d_M_meet_7 : decode b_M_meet 7 = .ok (.ldc2_w 219, 3) := by decide +kernel
theorem d_M_meet_10 : decode b_M_meet 10 = .ok (.invokestatic 82, 3) := by decide +kernel
theorem d_M_meet_13 : decode b_M_meet 13 = .ok (.ifCond .eq 32, 3) := by decide +kernel
theorem d_M_meet_16 : decode b_M_meet 16 = .ok (.iload_n 2, 1) := by decide +kernel
theorem d_M_meet_17 : decode b_M_meet 17 = .ok (.i2l, 1) := by decide +kernel
theorem d_M_meet_18 : decode b_M_meet 18 = .ok (.lconst 1, 1) := by decide +kernel
theorem d_M_meet_19 : decode b_M_meet 19 = .ok (.ldc2_w 126, 3) := by decide +kernel
theorem d_M_meet_22 : decode b_M_meet 22 = .ok (.invokestatic 82, 3) := by decide +kernel
theorem d_M_meet_25 : decode b_M_meet 25 = .ok (.ifCond .eq 20, 3) := by decide +kernel
theorem d_M_meet_28 : decode b_M_meet 28 = .ok (.iload_n 3, 1) := by decide +kernel
theorem d_M_meet_29 : decode b_M_meet 29 = .ok (.invokestatic 143, 3) := by decide +kernel
theorem d_M_meet_32 : decode b_M_meet 32 = .ok (.ifCond .eq 13, 3) := by decide +kernel
theorem d_M_meet_35 : decode b_M_meet 35 = .ok (.aload_n 0, 1) := by decide +kernel
theorem d_M_meet_36 : decode b_M_meet 36 = .ok (.iload_n 1, 1) := by decide +kernel
theorem d_M_meet_37 : decode b_M_meet 37 = .ok (.iload_n 2, 1) := by decide +kernel
theorem d_M_meet_38 : decode b_M_meet 38 = .ok (.iload_n 3, 1) := by decide +kernel
theorem d_M_meet_39 : decode b_M_meet 39 = .ok (.invokevirtual 221, 3) := by decide +kernel
theorem d_M_meet_42 : decode b_M_meet 42 = .ok (.goto 5, 3) := by decide +kernel
theorem d_M_meet_45 : decode b_M_meet 45 = .ok (.bipush (-2), 2) := by decide +kernel
theorem d_M_meet_47 : decode b_M_meet 47 = .ok (.ireturn, 1) := by decide +kernel
noncomputable def M_meet (S : St) (x1 : Int32) (x2 : Int32) (x3 : Int32) : Option (Int32 × St) :=
  bnd (M_find S) fun z1 =>
    if (M_in x1.toInt64 1 31) = 0 then
      some ((-2), z1)
    else
      if (M_in x2.toInt64 1 4) = 0 then
        some ((-2), z1)
      else
        if (M_isTwo x3) = 0 then
          some ((-2), z1)
        else
          bnd (M_meetOf z1 x1 x2 x3) fun z2 =>
          some (z2, z1)
set_option maxHeartbeats 4000000 in
set_option maxRecDepth 100000 in
theorem c_M_meet (l : Launch) (w : gw) (S : St) (x1 : Int32) (x2 : Int32) (x3 : Int32)  {z : Int32 × St} (h : (M_meet S x1 x2 x3) = some z) : gMi l w y_M_meet b_M_meet 4 (some .int) (rmm 5 112) [.ref (gad w 49), .int x1, .int x2, .int x3] S z.1 z.2 := by
  unfold M_meet at h
  refine g_met (Qc := gQi w z.1 z.2) (by decide +kernel) (Nat.le_of_ble_eq_true rfl) ?_
  intro p e s m args below meth c A Q ls hQ C hG hl
  have hx := C.1
  have hb := C.2.1
  have hl : lv_has ls 4 [(0, .ref (gad w 49)), (1, .int x1), (2, .int x2), (3, .int x3)] := hl
  refine lv_aload_n hx hb d_M_meet_0 rfl (lv_at hl 0 rfl) ?_
  obtain ⟨z1, hz1, h⟩ := bnd_some h
  refine g_gov hG (g_runV (As := []) (rest := []) C hG (c_M_find l w S hz1 _) (hG.lt (Nat.le_of_ble_eq_true rfl)) (ce49 w _) rfl vw_M_181 rfl rfl ⟨by decide, by decide⟩ rfl hl.1 rfl (Nat.le_of_ble_eq_true rfl) d_M_meet_1 ⟨Nat.zero_le _, Nat.zero_le _⟩) (fun H locs hG => ?_)
  refine lv_iload_n hx hb d_M_meet_4 rfl (lv_at hl 1 rfl) ?_
  refine lv_i2l (v := x1.toInt64) hx hb d_M_meet_5 rfl ?_
  refine lv_lconst (v := 1) hx hb d_M_meet_6 (by decide) ?_
  refine lv_ldc2 (v := 31) hx hb C.2.2.2.1 (C.2.2.2.2.1 _ qw987) d_M_meet_7 ?_
  refine g_goi hG (g_runS (As := [.long x1.toInt64, .long 1, .long 31]) (rest := []) C hG (c_M_in l w z1 x1.toInt64 1 31 _) sw_M_82 rfl rfl ⟨by decide, by decide⟩ rfl hl.1 rfl (Nat.le_of_ble_eq_true rfl) d_M_meet_10 ⟨Nat.zero_le _, Nat.zero_le _⟩) (fun H locs hG => ?_)
  refine lv_if_eq (tgt := 45) hx hb d_M_meet_13 (by decide) (fun hc => ?_) (fun hc => ?_)
  · replace h := it_t h hc
    refine lv_bipush (v := (-2)) hx hb d_M_meet_45 (by decide) ?_
    exact g_iret C hG (sm_fst h) (sm_snd h) hQ d_M_meet_47
  · replace h := it_f h hc
    refine lv_iload_n hx hb d_M_meet_16 rfl (lv_at hl 2 rfl) ?_
    refine lv_i2l (v := x2.toInt64) hx hb d_M_meet_17 rfl ?_
    refine lv_lconst (v := 1) hx hb d_M_meet_18 (by decide) ?_
    refine lv_ldc2 (v := 4) hx hb C.2.2.2.1 (C.2.2.2.2.1 _ qw829) d_M_meet_19 ?_
    refine g_goi hG (g_runS (As := [.long x2.toInt64, .long 1, .long 4]) (rest := []) C hG (c_M_in l w z1 x2.toInt64 1 4 _) sw_M_82 rfl rfl ⟨by decide, by decide⟩ rfl hl.1 rfl (Nat.le_of_ble_eq_true rfl) d_M_meet_22 ⟨Nat.zero_le _, Nat.zero_le _⟩) (fun H locs hG => ?_)
    refine lv_if_eq (tgt := 45) hx hb d_M_meet_25 (by decide) (fun hc => ?_) (fun hc => ?_)
    · replace h := it_t h hc
      refine lv_bipush (v := (-2)) hx hb d_M_meet_45 (by decide) ?_
      exact g_iret C hG (sm_fst h) (sm_snd h) hQ d_M_meet_47
    · replace h := it_f h hc
      refine lv_iload_n hx hb d_M_meet_28 rfl (lv_at hl 3 rfl) ?_
      refine g_goi hG (g_runS (As := [.int x3]) (rest := []) C hG (c_M_isTwo l w z1 x3 _) sw_M_143 rfl rfl ⟨by decide, by decide⟩ rfl hl.1 rfl (Nat.le_of_ble_eq_true rfl) d_M_meet_29 ⟨Nat.zero_le _, Nat.zero_le _⟩) (fun H locs hG => ?_)
      refine lv_if_eq (tgt := 45) hx hb d_M_meet_32 (by decide) (fun hc => ?_) (fun hc => ?_)
      · replace h := it_t h hc
        refine lv_bipush (v := (-2)) hx hb d_M_meet_45 (by decide) ?_
        exact g_iret C hG (sm_fst h) (sm_snd h) hQ d_M_meet_47
      · replace h := it_f h hc
        refine lv_aload_n hx hb d_M_meet_35 rfl (lv_at hl 0 rfl) ?_
        refine lv_iload_n hx hb d_M_meet_36 rfl (lv_at hl 1 rfl) ?_
        refine lv_iload_n hx hb d_M_meet_37 rfl (lv_at hl 2 rfl) ?_
        refine lv_iload_n hx hb d_M_meet_38 rfl (lv_at hl 3 rfl) ?_
        obtain ⟨z2, hz2, h⟩ := bnd_some h
        refine g_goi hG (g_runV (As := [.int x1, .int x2, .int x3]) (rest := []) C hG (c_M_meetOf l w z1 x1 x2 x3 hz2 _) (hG.lt (Nat.le_of_ble_eq_true rfl)) (ce49 w _) rfl vw_M_221 rfl rfl ⟨by decide, by decide⟩ rfl hl.1 rfl (Nat.le_of_ble_eq_true rfl) d_M_meet_39 ⟨Nat.zero_le _, Nat.zero_le _⟩) (fun H locs hG => ?_)
        refine lv_goto (tgt := 47) hx hb d_M_meet_42 (by decide) ?_
        exact g_iret C hG (sm_fst h) (sm_snd h) hQ d_M_meet_47
theorem d_M_findMost_0 : decode b_M_findMost 0 = .ok (.iconst 5, 1) := by decide +kernel
theorem d_M_findMost_1 : decode b_M_findMost 1 = .ok (.istore_n 2, 1) := by decide +kernel
theorem d_M_findMost_2 : decode b_M_findMost 2 = .ok (.iload_n 2, 1) := by decide +kernel
theorem d_M_findMost_3 : decode b_M_findMost 3 = .ok (.ifCond .lt 152, 3) := by decide +kernel
theorem d_M_findMost_6 : decode b_M_findMost 6 = .ok (.iconst 0, 1) := by decide +kernel
theorem d_M_findMost_7 : decode b_M_findMost 7 = .ok (.istore_n 3, 1) := by decide +kernel
theorem d_M_findMost_8 : decode b_M_findMost 8 = .ok (.iload_n 3, 1) := by decide +kernel
theorem d_M_findMost_9 : decode b_M_findMost 9 = .ok (.sipush 1024, 3) := by decide +kernel
theorem d_M_findMost_12 : decode b_M_findMost 12 = .ok (.if_icmp .ge 137, 3) := by decide +kernel
theorem d_M_findMost_15 : decode b_M_findMost 15 = .ok (.iload_n 2, 1) := by decide +kernel
theorem d_M_findMost_16 : decode b_M_findMost 16 = .ok (.iconst 5, 1) := by decide +kernel
theorem d_M_findMost_17 : decode b_M_findMost 17 = .ok (.if_icmp .ne 7, 3) := by decide +kernel
theorem d_M_findMost_20 : decode b_M_findMost 20 = .ok (.iconst 0, 1) := by decide +kernel
theorem d_M_findMost_21 : decode b_M_findMost 21 = .ok (.goto 17, 3) := by decide +kernel
theorem d_M_findMost_24 : decode b_M_findMost 24 = .ok (.aload_n 0, 1) := by decide +kernel
theorem d_M_findMost_25 : decode b_M_findMost 25 = .ok (.getfield 59, 3) := by decide +kernel
theorem d_M_findMost_28 : decode b_M_findMost 28 = .ok (.sipush 1024, 3) := by decide +kernel
theorem d_M_findMost_31 : decode b_M_findMost 31 = .ok (.iload_n 2, 1) := by decide +kernel
theorem d_M_findMost_32 : decode b_M_findMost 32 = .ok (.iconst 1, 1) := by decide +kernel
theorem d_M_findMost_33 : decode b_M_findMost 33 = .ok (.iadd, 1) := by decide +kernel
theorem d_M_findMost_34 : decode b_M_findMost 34 = .ok (.imul, 1) := by decide +kernel
theorem d_M_findMost_35 : decode b_M_findMost 35 = .ok (.iload_n 3, 1) := by decide +kernel
theorem d_M_findMost_36 : decode b_M_findMost 36 = .ok (.iadd, 1) := by decide +kernel
theorem d_M_findMost_37 : decode b_M_findMost 37 = .ok (.iaload, 1) := by decide +kernel
theorem d_M_findMost_38 : decode b_M_findMost 38 = .ok (.istore 4, 2) := by decide +kernel
theorem d_M_findMost_40 : decode b_M_findMost 40 = .ok (.iconst 0, 1) := by decide +kernel
theorem d_M_findMost_41 : decode b_M_findMost 41 = .ok (.istore 5, 2) := by decide +kernel
theorem d_M_findMost_43 : decode b_M_findMost 43 = .ok (.iload 5, 2) := by decide +kernel
theorem d_M_findMost_45 : decode b_M_findMost 45 = .ok (.bipush 10, 2) := by decide +kernel
theorem d_M_findMost_47 : decode b_M_findMost 47 = .ok (.if_icmp .ge 82, 3) := by decide +kernel
theorem d_M_findMost_50 : decode b_M_findMost 50 = .ok (.iload_n 2, 1) := by decide +kernel
theorem d_M_findMost_51 : decode b_M_findMost 51 = .ok (.iconst 5, 1) := by decide +kernel
theorem d_M_findMost_52 : decode b_M_findMost 52 = .ok (.if_icmp .ge 77, 3) := by decide +kernel
theorem d_M_findMost_55 : decode b_M_findMost 55 = .ok (.iload_n 2, 1) := by decide +kernel
theorem d_M_findMost_56 : decode b_M_findMost 56 = .ok (.iload_n 1, 1) := by decide +kernel
theorem d_M_findMost_57 : decode b_M_findMost 57 = .ok (.if_icmp .eq 72, 3) := by decide +kernel
theorem d_M_findMost_60 : decode b_M_findMost 60 = .ok (.iload_n 3, 1) := by decide +kernel
theorem d_M_findMost_61 : decode b_M_findMost 61 = .ok (.iload 5, 2) := by decide +kernel
theorem d_M_findMost_63 : decode b_M_findMost 63 = .ok (.invokestatic 190, 3) := by decide +kernel
theorem d_M_findMost_66 : decode b_M_findMost 66 = .ok (.ifCond .eq 7, 3) := by decide +kernel
theorem d_M_findMost_69 : decode b_M_findMost 69 = .ok (.iconst 0, 1) := by decide +kernel
theorem d_M_findMost_70 : decode b_M_findMost 70 = .ok (.goto 35, 3) := by decide +kernel
theorem d_M_findMost_73 : decode b_M_findMost 73 = .ok (.aload_n 0, 1) := by decide +kernel
theorem d_M_findMost_74 : decode b_M_findMost 74 = .ok (.getfield 34, 3) := by decide +kernel
theorem d_M_findMost_77 : decode b_M_findMost 77 = .ok (.bipush 10, 2) := by decide +kernel
theorem d_M_findMost_79 : decode b_M_findMost 79 = .ok (.iload_n 2, 1) := by decide +kernel
theorem d_M_findMost_80 : decode b_M_findMost 80 = .ok (.imul, 1) := by decide +kernel
theorem d_M_findMost_81 : decode b_M_findMost 81 = .ok (.iload 5, 2) := by decide +kernel
theorem d_M_findMost_83 : decode b_M_findMost 83 = .ok (.iadd, 1) := by decide +kernel
theorem d_M_findMost_84 : decode b_M_findMost 84 = .ok (.iaload, 1) := by decide +kernel
theorem d_M_findMost_85 : decode b_M_findMost 85 = .ok (.aload_n 0, 1) := by decide +kernel
theorem d_M_findMost_86 : decode b_M_findMost 86 = .ok (.getfield 59, 3) := by decide +kernel
theorem d_M_findMost_89 : decode b_M_findMost 89 = .ok (.sipush 1024, 3) := by decide +kernel
theorem d_M_findMost_92 : decode b_M_findMost 92 = .ok (.iload_n 2, 1) := by decide +kernel
theorem d_M_findMost_93 : decode b_M_findMost 93 = .ok (.iconst 1, 1) := by decide +kernel
theorem d_M_findMost_94 : decode b_M_findMost 94 = .ok (.iadd, 1) := by decide +kernel
theorem d_M_findMost_95 : decode b_M_findMost 95 = .ok (.imul, 1) := by decide +kernel
theorem d_M_findMost_96 : decode b_M_findMost 96 = .ok (.iload_n 3, 1) := by decide +kernel
theorem d_M_findMost_97 : decode b_M_findMost 97 = .ok (.iconst 1, 1) := by decide +kernel
theorem d_M_findMost_98 : decode b_M_findMost 98 = .ok (.iload 5, 2) := by decide +kernel
theorem d_M_findMost_100 : decode b_M_findMost 100 = .ok (.ishl, 1) := by decide +kernel
theorem d_M_findMost_101 : decode b_M_findMost 101 = .ok (.ior, 1) := by decide +kernel
theorem d_M_findMost_102 : decode b_M_findMost 102 = .ok (.iadd, 1) := by decide +kernel
theorem d_M_findMost_103 : decode b_M_findMost 103 = .ok (.iaload, 1) := by decide +kernel
theorem d_M_findMost_104 : decode b_M_findMost 104 = .ok (.iadd, 1) := by decide +kernel
theorem d_M_findMost_105 : decode b_M_findMost 105 = .ok (.istore 6, 2) := by decide +kernel
theorem d_M_findMost_107 : decode b_M_findMost 107 = .ok (.iload 6, 2) := by decide +kernel
theorem d_M_findMost_109 : decode b_M_findMost 109 = .ok (.iload 4, 2) := by decide +kernel
theorem d_M_findMost_111 : decode b_M_findMost 111 = .ok (.if_icmp .le 8, 3) := by decide +kernel
theorem d_M_findMost_114 : decode b_M_findMost 114 = .ok (.iload 6, 2) := by decide +kernel
theorem d_M_findMost_116 : decode b_M_findMost 116 = .ok (.goto 5, 3) := by decide +kernel
theorem d_M_findMost_119 : decode b_M_findMost 119 = .ok (.iload 4, 2) := by decide +kernel
theorem d_M_findMost_121 : decode b_M_findMost 121 = .ok (.istore 4, 2) := by decide +kernel
theorem d_M_findMost_123 : decode b_M_findMost 123 = .ok (.iinc 5 1, 3) := by decide +kernel
theorem d_M_findMost_126 : decode b_M_findMost 126 = .ok (.goto (-83), 3) := by decide +kernel
theorem d_M_findMost_129 : decode b_M_findMost 129 = .ok (.aload_n 0, 1) := by decide +kernel
theorem d_M_findMost_130 : decode b_M_findMost 130 = .ok (.getfield 59, 3) := by decide +kernel
theorem d_M_findMost_133 : decode b_M_findMost 133 = .ok (.sipush 1024, 3) := by decide +kernel
theorem d_M_findMost_136 : decode b_M_findMost 136 = .ok (.iload_n 2, 1) := by decide +kernel
theorem d_M_findMost_137 : decode b_M_findMost 137 = .ok (.imul, 1) := by decide +kernel
theorem d_M_findMost_138 : decode b_M_findMost 138 = .ok (.iload_n 3, 1) := by decide +kernel
theorem d_M_findMost_139 : decode b_M_findMost 139 = .ok (.iadd, 1) := by decide +kernel
theorem d_M_findMost_140 : decode b_M_findMost 140 = .ok (.iload 4, 2) := by decide +kernel
theorem d_M_findMost_142 : decode b_M_findMost 142 = .ok (.iastore, 1) := by decide +kernel
theorem d_M_findMost_143 : decode b_M_findMost 143 = .ok (.iinc 3 1, 3) := by decide +kernel
theorem d_M_findMost_146 : decode b_M_findMost 146 = .ok (.goto (-138), 3) := by decide +kernel
theorem d_M_findMost_149 : decode b_M_findMost 149 = .ok (.iinc 2 (-1), 3) := by decide +kernel
theorem d_M_findMost_152 : decode b_M_findMost 152 = .ok (.goto (-150), 3) := by decide +kernel
theorem d_M_findMost_155 : decode b_M_findMost 155 = .ok (.return_, 1) := by decide +kernel
noncomputable def M_findMost_J105 (S : St) (x1 : Int32) (x2 : Int32) (x3 : Int32) (x4 : Int32) (x5 : Int32) (t0 : Int32) : Option ((Int32 × Int32) × Nat) :=
  if t0 ≤ x4 then
      some ((x4, x5 + 1), 0)
    else
      some ((t0, x5 + 1), 0)
noncomputable def M_findMost_L43 (S : St) (x1 : Int32) (x2 : Int32) (x3 : Int32) (x4 : Int32) (x5 : Int32) : Option ((Int32 × Int32) × Nat) :=
  if 10 ≤ x5 then
      some ((x4, x5), 1)
    else
      if 5 ≤ x2 then
        some ((x4, x5), 1)
      else
        if x2 = x1 then
          some ((x4, x5), 1)
        else
          if (M_isIn x3 x5) = 0 then
            chk (inb ((10 * x2) + x5) 50) <|
            chk (inb ((1024 * (x2 + 1)) + (x3 ||| ((1 : Int32) <<< (x5 &&& 31)))) 6144) <|
            M_findMost_J105 S x1 x2 x3 x4 x5 ((S 58 (ix ((10 * x2) + x5))) + (S 66 (ix ((1024 * (x2 + 1)) + (x3 ||| ((1 : Int32) <<< (x5 &&& 31)))))))
          else
            M_findMost_J105 S x1 x2 x3 x4 x5 0
noncomputable def M_findMost_J129 (S : St) (x1 : Int32) (x2 : Int32) (x3 : Int32) (x4 : Int32) : Option ((Int32 × St) × Nat) :=
  chk (inb ((1024 * x2) + x3) 6144) <|
    some ((x3 + 1, up S 66 (ix ((1024 * x2) + x3)) x4), 0)
noncomputable def M_findMost_J38 (S : St) (x1 : Int32) (x2 : Int32) (x3 : Int32) (t0 : Int32) : Option ((Int32 × St) × Nat) :=
  bnd (lp (σ := Int32 × Int32) (fun q => M_findMost_L43 S x1 x2 x3 q.1 q.2) FZ (t0, 0)) fun z1 =>
    M_findMost_J129 S x1 x2 x3 z1.1.1
noncomputable def M_findMost_L8 (S : St) (x1 : Int32) (x2 : Int32) (x3 : Int32) : Option ((Int32 × St) × Nat) :=
  if 1024 ≤ x3 then
      some ((x3, S), 1)
    else
      if x2 = 5 then
        M_findMost_J38 S x1 x2 x3 0
      else
        chk (inb ((1024 * (x2 + 1)) + x3) 6144) <|
        M_findMost_J38 S x1 x2 x3 (S 66 (ix ((1024 * (x2 + 1)) + x3)))
noncomputable def M_findMost_J149 (S : St) (x1 : Int32) (x2 : Int32) : Option ((Int32 × St) × Nat) :=
  some ((x2 + (-1), S), 0)
noncomputable def M_findMost_L2 (S : St) (x1 : Int32) (x2 : Int32) : Option ((Int32 × St) × Nat) :=
  if x2 < 0 then
      some ((x2, S), 1)
    else
      bnd (lp (σ := Int32 × St) (fun q => M_findMost_L8 q.2 x1 x2 q.1) FZ (0, S)) fun z2 =>
      M_findMost_J149 z2.1.2 x1 x2
noncomputable def M_findMost_J155 (S : St) : Option (St) :=
  some S
noncomputable def M_findMost (S : St) (x1 : Int32) : Option (St) :=
  bnd (lp (σ := Int32 × St) (fun q => M_findMost_L2 q.2 x1 q.1) FZ (5, S)) fun z3 =>
    M_findMost_J155 z3.1.2
set_option maxHeartbeats 4000000 in
set_option maxRecDepth 100000 in
theorem L_M_findMost_43 (C : gCx p s m args meth c y_M_findMost.cls b_M_findMost 7 none) : ∀ (S : St) (x1 : Int32) (x2 : Int32) (x3 : Int32) (n : Nat) (x4 : Int32) (x5 : Int32) (r : (Int32 × Int32) × Nat), lp (σ := Int32 × Int32) (fun q => M_findMost_L43 S x1 x2 x3 q.1 q.2) n (x4, x5) = some r → (∀ (y4 : Int32) (y5 : Int32), r = ((y4, y5), 1) → ∀ (ls : Array Slot) (H : Heap) (locs : List Loc), GH w s A S H locs → lv_has ls 7 [(0, .ref (gad w 49)), (1, .int x1), (2, .int x2), (3, .int x3), (4, .int y4)] → W p l e (rmm 1 21) s m args below meth c H locs 0 0 Q (F0 m 129 ls [])) → ∀ (ls : Array Slot) (H : Heap) (locs : List Loc), GH w s A S H locs → lv_has ls 7 [(0, .ref (gad w 49)), (1, .int x1), (2, .int x2), (3, .int x3), (4, .int x4), (5, .int x5)] → W p l e (rmm 1 21) s m args below meth c H locs 0 0 Q (F0 m 43 ls []) := by
  have hx := C.1
  have hb := C.2.1
  intro S x1 x2 x3 n
  induction n with
  | zero => intro x4 x5 r h; cases h
  | succ n ih =>
    intro x4 x5 r h k1 ls H locs hG hl
    obtain ⟨z, h, hr⟩ := lp_succ h
    have h : M_findMost_L43 S x1 x2 x3 x4 x5 = some z := h
    have J105 : ∀ (x4 : Int32) (x5 : Int32) (t0 : Int32), M_findMost_J105 S x1 x2 x3 x4 x5 t0 = some z → ∀ (ls : Array Slot) (H : Heap) (locs : List Loc), GH w s A S H locs → lv_has ls 7 [(0, .ref (gad w 49)), (1, .int x1), (2, .int x2), (3, .int x3), (4, .int x4), (5, .int x5)] → W p l e (rmm 1 21) s m args below meth c H locs 0 0 Q (F0 m 105 ls [.int t0]) := by
      intro x4 x5 t0 h ls H locs hG hl
      unfold M_findMost_J105 at h
      refine lv_istore (lv' := [(6, .int t0), (0, .ref (gad w 49)), (1, .int x1), (2, .int x2), (3, .int x3), (4, .int x4), (5, .int x5)]) hx hb d_M_findMost_105 hl (by decide) rfl (fun ls hl => ?_)
      refine lv_iload hx hb d_M_findMost_107 (lv_at hl 0 rfl) ?_
      refine lv_iload hx hb d_M_findMost_109 (lv_at hl 5 rfl) ?_
      refine lv_icmp_le (tgt := 119) hx hb d_M_findMost_111 (by decide) (fun hc => ?_) (fun hc => ?_)
      · replace h := it_t h hc
        refine lv_iload hx hb d_M_findMost_119 (lv_at hl 5 rfl) ?_
        refine lv_istore (lv' := [(4, .int x4), (6, .int t0), (0, .ref (gad w 49)), (1, .int x1), (2, .int x2), (3, .int x3), (5, .int x5)]) hx hb d_M_findMost_121 hl (by decide) rfl (fun ls hl => ?_)
        refine lv_iinc (v := x5 + 1) (lv' := [(5, .int (x5 + 1)), (4, .int x4), (6, .int t0), (0, .ref (gad w 49)), (1, .int x1), (2, .int x2), (3, .int x3)]) hx hb d_M_findMost_123 hl (k := 6) rfl (congrArg (HAdd.hAdd x5) (by decide : Int32.ofInt 1 = 1)) (by decide) rfl (fun ls hl => ?_)
        refine lv_goto (tgt := 43) hx hb d_M_findMost_126 (by decide) ?_
        exact ih _ _ _ (lp_back h hr) k1 ls _ _ hG (lv_sub hl [3, 4, 5, 6, 1, 0] rfl)
      · replace h := it_f h hc
        refine lv_iload hx hb d_M_findMost_114 (lv_at hl 0 rfl) ?_
        refine lv_goto (tgt := 121) hx hb d_M_findMost_116 (by decide) ?_
        refine lv_istore (lv' := [(4, .int t0), (6, .int t0), (0, .ref (gad w 49)), (1, .int x1), (2, .int x2), (3, .int x3), (5, .int x5)]) hx hb d_M_findMost_121 hl (by decide) rfl (fun ls hl => ?_)
        refine lv_iinc (v := x5 + 1) (lv' := [(5, .int (x5 + 1)), (4, .int t0), (6, .int t0), (0, .ref (gad w 49)), (1, .int x1), (2, .int x2), (3, .int x3)]) hx hb d_M_findMost_123 hl (k := 6) rfl (congrArg (HAdd.hAdd x5) (by decide : Int32.ofInt 1 = 1)) (by decide) rfl (fun ls hl => ?_)
        refine lv_goto (tgt := 43) hx hb d_M_findMost_126 (by decide) ?_
        exact ih _ _ _ (lp_back h hr) k1 ls _ _ hG (lv_sub hl [3, 4, 5, 6, 1, 0] rfl)
    unfold M_findMost_L43 at h
    refine lv_iload hx hb d_M_findMost_43 (lv_at hl 5 rfl) ?_
    refine lv_bipush (v := 10) hx hb d_M_findMost_45 (by decide) ?_
    refine lv_icmp_ge (tgt := 129) hx hb d_M_findMost_47 (by decide) (fun hc => ?_) (fun hc => ?_)
    · replace h := it_t h hc
      exact k1 _ _ (lp_exit h hr) ls _ _ hG (lv_sub hl [0, 1, 2, 3, 4] rfl)
    · replace h := it_f h hc
      refine lv_iload_n hx hb d_M_findMost_50 rfl (lv_at hl 2 rfl) ?_
      refine lv_iconst (v := 5) hx hb d_M_findMost_51 (by decide) ?_
      refine lv_icmp_ge (tgt := 129) hx hb d_M_findMost_52 (by decide) (fun hc => ?_) (fun hc => ?_)
      · replace h := it_t h hc
        exact k1 _ _ (lp_exit h hr) ls _ _ hG (lv_sub hl [0, 1, 2, 3, 4] rfl)
      · replace h := it_f h hc
        refine lv_iload_n hx hb d_M_findMost_55 rfl (lv_at hl 2 rfl) ?_
        refine lv_iload_n hx hb d_M_findMost_56 rfl (lv_at hl 1 rfl) ?_
        refine lv_icmp_eq (tgt := 129) hx hb d_M_findMost_57 (by decide) (fun hc => ?_) (fun hc => ?_)
        · replace h := it_t h hc
          exact k1 _ _ (lp_exit h hr) ls _ _ hG (lv_sub hl [0, 1, 2, 3, 4] rfl)
        · replace h := it_f h hc
          refine lv_iload_n hx hb d_M_findMost_60 rfl (lv_at hl 3 rfl) ?_
          refine lv_iload hx hb d_M_findMost_61 (lv_at hl 5 rfl) ?_
          refine g_goi hG (g_runS (As := [.int x3, .int x5]) (rest := []) C hG (c_M_isIn l w S x3 x5 _) sw_M_190 rfl rfl ⟨by decide, by decide⟩ rfl hl.1 rfl (Nat.le_of_ble_eq_true rfl) d_M_findMost_63 ⟨Nat.zero_le _, Nat.zero_le _⟩) (fun H locs hG => ?_)
          refine lv_if_eq (tgt := 73) hx hb d_M_findMost_66 (by decide) (fun hc => ?_) (fun hc => ?_)
          · replace h := it_t h hc
            refine lv_aload_n hx hb d_M_findMost_73 rfl (lv_at hl 0 rfl) ?_
            refine g_get C hG (hG.lt (Nat.le_of_ble_eq_true rfl)) (ce49 w _) rfl inC8 12 (Nat.le_of_ble_eq_true rfl) qw688 rfl d_M_findMost_74 ?_
            refine lv_bipush (v := 10) hx hb d_M_findMost_77 (by decide) ?_
            refine lv_iload_n hx hb d_M_findMost_79 rfl (lv_at hl 2 rfl) ?_
            refine lv_imul hx hb d_M_findMost_80 ?_
            refine lv_iload hx hb d_M_findMost_81 (lv_at hl 5 rfl) ?_
            refine lv_iadd hx hb d_M_findMost_83 ?_
            obtain ⟨hi1, h⟩ := chk_some h
            refine g_iald (j := ix ((10 * x2) + x5)) C hG (hG.lt (Nat.le_of_ble_eq_true rfl)) (ce58 w _) (inb_in hi1) rfl d_M_findMost_84 ?_
            refine lv_aload_n hx hb d_M_findMost_85 rfl (lv_at hl 0 rfl) ?_
            refine g_get C hG (hG.lt (Nat.le_of_ble_eq_true rfl)) (ce49 w _) rfl inC8 21 (Nat.le_of_ble_eq_true rfl) qw697 rfl d_M_findMost_86 ?_
            refine lv_sipush (v := 1024) hx hb d_M_findMost_89 (by decide) ?_
            refine lv_iload_n hx hb d_M_findMost_92 rfl (lv_at hl 2 rfl) ?_
            refine lv_iconst (v := 1) hx hb d_M_findMost_93 (by decide) ?_
            refine lv_iadd hx hb d_M_findMost_94 ?_
            refine lv_imul hx hb d_M_findMost_95 ?_
            refine lv_iload_n hx hb d_M_findMost_96 rfl (lv_at hl 3 rfl) ?_
            refine lv_iconst (v := 1) hx hb d_M_findMost_97 (by decide) ?_
            refine lv_iload hx hb d_M_findMost_98 (lv_at hl 5 rfl) ?_
            refine lv_ishl hx hb d_M_findMost_100 ?_
            refine lv_ior hx hb d_M_findMost_101 ?_
            refine lv_iadd hx hb d_M_findMost_102 ?_
            obtain ⟨hi2, h⟩ := chk_some h
            refine g_iald (j := ix ((1024 * (x2 + 1)) + (x3 ||| ((1 : Int32) <<< (x5 &&& 31))))) C hG (hG.lt (Nat.le_of_ble_eq_true rfl)) (ce66 w _) (inb_in hi2) rfl d_M_findMost_103 ?_
            refine lv_iadd hx hb d_M_findMost_104 ?_
            exact J105 _ _ _ h ls _ _ hG (lv_sub hl [0, 1, 2, 3, 4, 5] rfl)
          · replace h := it_f h hc
            refine lv_iconst (v := 0) hx hb d_M_findMost_69 (by decide) ?_
            refine lv_goto (tgt := 105) hx hb d_M_findMost_70 (by decide) ?_
            exact J105 _ _ _ h ls _ _ hG (lv_sub hl [0, 1, 2, 3, 4, 5] rfl)
set_option maxHeartbeats 4000000 in
set_option maxRecDepth 100000 in
theorem L_M_findMost_8 (C : gCx p s m args meth c y_M_findMost.cls b_M_findMost 7 none) : ∀ (x1 : Int32) (x2 : Int32) (n : Nat) (x3 : Int32) (S : St) (r : (Int32 × St) × Nat), lp (σ := Int32 × St) (fun q => M_findMost_L8 q.2 x1 x2 q.1) n (x3, S) = some r → (∀ (y3 : Int32) (Sy : St), r = ((y3, Sy), 1) → ∀ (ls : Array Slot) (H : Heap) (locs : List Loc), GH w s A Sy H locs → lv_has ls 7 [(0, .ref (gad w 49)), (1, .int x1), (2, .int x2)] → W p l e (rmm 1 21) s m args below meth c H locs 0 0 Q (F0 m 149 ls [])) → ∀ (ls : Array Slot) (H : Heap) (locs : List Loc), GH w s A S H locs → lv_has ls 7 [(0, .ref (gad w 49)), (1, .int x1), (2, .int x2), (3, .int x3)] → W p l e (rmm 1 21) s m args below meth c H locs 0 0 Q (F0 m 8 ls []) := by
  have hx := C.1
  have hb := C.2.1
  intro x1 x2 n
  induction n with
  | zero => intro x3 S r h; cases h
  | succ n ih =>
    intro x3 S r h k1 ls H locs hG hl
    obtain ⟨z, h, hr⟩ := lp_succ h
    have h : M_findMost_L8 S x1 x2 x3 = some z := h
    have J129 : ∀ (S : St) (x3 : Int32) (x4 : Int32), M_findMost_J129 S x1 x2 x3 x4 = some z → ∀ (ls : Array Slot) (H : Heap) (locs : List Loc), GH w s A S H locs → lv_has ls 7 [(0, .ref (gad w 49)), (1, .int x1), (2, .int x2), (3, .int x3), (4, .int x4)] → W p l e (rmm 1 21) s m args below meth c H locs 0 0 Q (F0 m 129 ls []) := by
      intro S x3 x4 h ls H locs hG hl
      unfold M_findMost_J129 at h
      refine lv_aload_n hx hb d_M_findMost_129 rfl (lv_at hl 0 rfl) ?_
      refine g_get C hG (hG.lt (Nat.le_of_ble_eq_true rfl)) (ce49 w _) rfl inC8 21 (Nat.le_of_ble_eq_true rfl) qw697 rfl d_M_findMost_130 ?_
      refine lv_sipush (v := 1024) hx hb d_M_findMost_133 (by decide) ?_
      refine lv_iload_n hx hb d_M_findMost_136 rfl (lv_at hl 2 rfl) ?_
      refine lv_imul hx hb d_M_findMost_137 ?_
      refine lv_iload_n hx hb d_M_findMost_138 rfl (lv_at hl 3 rfl) ?_
      refine lv_iadd hx hb d_M_findMost_139 ?_
      refine lv_iload hx hb d_M_findMost_140 (lv_at hl 4 rfl) ?_
      obtain ⟨hi3, h⟩ := chk_some h
      refine g_iast (j := ix ((1024 * x2) + x3)) (x := x4) C hG (hG.lt (Nat.le_of_ble_eq_true rfl)) (ce66 w) (inb_in hi3) rfl d_M_findMost_142 (fun H locs hG => ?_)
      refine lv_iinc (v := x3 + 1) (lv' := [(3, .int (x3 + 1)), (0, .ref (gad w 49)), (1, .int x1), (2, .int x2), (4, .int x4)]) hx hb d_M_findMost_143 hl (k := 3) rfl (congrArg (HAdd.hAdd x3) (by decide : Int32.ofInt 1 = 1)) (by decide) rfl (fun ls hl => ?_)
      refine lv_goto (tgt := 8) hx hb d_M_findMost_146 (by decide) ?_
      exact ih _ _ _ (lp_back h hr) k1 ls _ _ hG (lv_sub hl [1, 2, 3, 0] rfl)
    have J38 : ∀ (S : St) (x3 : Int32) (t0 : Int32), M_findMost_J38 S x1 x2 x3 t0 = some z → ∀ (ls : Array Slot) (H : Heap) (locs : List Loc), GH w s A S H locs → lv_has ls 7 [(0, .ref (gad w 49)), (1, .int x1), (2, .int x2), (3, .int x3)] → W p l e (rmm 1 21) s m args below meth c H locs 0 0 Q (F0 m 38 ls [.int t0]) := by
      intro S x3 t0 h ls H locs hG hl
      unfold M_findMost_J38 at h
      refine lv_istore (lv' := [(4, .int t0), (0, .ref (gad w 49)), (1, .int x1), (2, .int x2), (3, .int x3)]) hx hb d_M_findMost_38 hl (by decide) rfl (fun ls hl => ?_)
      refine lv_iconst (v := 0) hx hb d_M_findMost_40 (by decide) ?_
      refine lv_istore (lv' := [(5, .int 0), (4, .int t0), (0, .ref (gad w 49)), (1, .int x1), (2, .int x2), (3, .int x3)]) hx hb d_M_findMost_41 hl (by decide) rfl (fun ls hl => ?_)
      obtain ⟨z1, hz1, h⟩ := bnd_some h
      refine L_M_findMost_43 C _ _ _ _ FZ _ _ _ hz1 ?_ ls _ _ hG (lv_sub hl [2, 3, 4, 5, 1, 0] rfl)
      intro y4 y5 e9 ls H locs hG hl
      subst e9
      exact J129 _ _ _ h ls _ _ hG (lv_sub hl [0, 1, 2, 3, 4] rfl)
    unfold M_findMost_L8 at h
    refine lv_iload_n hx hb d_M_findMost_8 rfl (lv_at hl 3 rfl) ?_
    refine lv_sipush (v := 1024) hx hb d_M_findMost_9 (by decide) ?_
    refine lv_icmp_ge (tgt := 149) hx hb d_M_findMost_12 (by decide) (fun hc => ?_) (fun hc => ?_)
    · replace h := it_t h hc
      exact k1 _ _ (lp_exit h hr) ls _ _ hG (lv_sub hl [0, 1, 2] rfl)
    · replace h := it_f h hc
      refine lv_iload_n hx hb d_M_findMost_15 rfl (lv_at hl 2 rfl) ?_
      refine lv_iconst (v := 5) hx hb d_M_findMost_16 (by decide) ?_
      refine lv_icmp_ne (tgt := 24) hx hb d_M_findMost_17 (by decide) (fun hc => ?_) (fun hc => ?_)
      · replace h := it_f h hc
        refine lv_aload_n hx hb d_M_findMost_24 rfl (lv_at hl 0 rfl) ?_
        refine g_get C hG (hG.lt (Nat.le_of_ble_eq_true rfl)) (ce49 w _) rfl inC8 21 (Nat.le_of_ble_eq_true rfl) qw697 rfl d_M_findMost_25 ?_
        refine lv_sipush (v := 1024) hx hb d_M_findMost_28 (by decide) ?_
        refine lv_iload_n hx hb d_M_findMost_31 rfl (lv_at hl 2 rfl) ?_
        refine lv_iconst (v := 1) hx hb d_M_findMost_32 (by decide) ?_
        refine lv_iadd hx hb d_M_findMost_33 ?_
        refine lv_imul hx hb d_M_findMost_34 ?_
        refine lv_iload_n hx hb d_M_findMost_35 rfl (lv_at hl 3 rfl) ?_
        refine lv_iadd hx hb d_M_findMost_36 ?_
        obtain ⟨hi4, h⟩ := chk_some h
        refine g_iald (j := ix ((1024 * (x2 + 1)) + x3)) C hG (hG.lt (Nat.le_of_ble_eq_true rfl)) (ce66 w _) (inb_in hi4) rfl d_M_findMost_37 ?_
        exact J38 _ _ _ h ls _ _ hG (lv_sub hl [0, 1, 2, 3] rfl)
      · replace h := it_t h hc
        refine lv_iconst (v := 0) hx hb d_M_findMost_20 (by decide) ?_
        refine lv_goto (tgt := 38) hx hb d_M_findMost_21 (by decide) ?_
        exact J38 _ _ _ h ls _ _ hG (lv_sub hl [0, 1, 2, 3] rfl)
set_option maxHeartbeats 4000000 in
set_option maxRecDepth 100000 in
theorem L_M_findMost_2 (C : gCx p s m args meth c y_M_findMost.cls b_M_findMost 7 none) : ∀ (x1 : Int32) (n : Nat) (x2 : Int32) (S : St) (r : (Int32 × St) × Nat), lp (σ := Int32 × St) (fun q => M_findMost_L2 q.2 x1 q.1) n (x2, S) = some r → (∀ (y2 : Int32) (Sy : St), r = ((y2, Sy), 1) → ∀ (ls : Array Slot) (H : Heap) (locs : List Loc), GH w s A Sy H locs → lv_has ls 7 [] → W p l e (rmm 1 21) s m args below meth c H locs 0 0 Q (F0 m 155 ls [])) → ∀ (ls : Array Slot) (H : Heap) (locs : List Loc), GH w s A S H locs → lv_has ls 7 [(0, .ref (gad w 49)), (1, .int x1), (2, .int x2)] → W p l e (rmm 1 21) s m args below meth c H locs 0 0 Q (F0 m 2 ls []) := by
  have hx := C.1
  have hb := C.2.1
  intro x1 n
  induction n with
  | zero => intro x2 S r h; cases h
  | succ n ih =>
    intro x2 S r h k1 ls H locs hG hl
    obtain ⟨z, h, hr⟩ := lp_succ h
    have h : M_findMost_L2 S x1 x2 = some z := h
    have J149 : ∀ (S : St) (x2 : Int32), M_findMost_J149 S x1 x2 = some z → ∀ (ls : Array Slot) (H : Heap) (locs : List Loc), GH w s A S H locs → lv_has ls 7 [(0, .ref (gad w 49)), (1, .int x1), (2, .int x2)] → W p l e (rmm 1 21) s m args below meth c H locs 0 0 Q (F0 m 149 ls []) := by
      intro S x2 h ls H locs hG hl
      unfold M_findMost_J149 at h
      refine lv_iinc (v := x2 + (-1)) (lv' := [(2, .int (x2 + (-1))), (0, .ref (gad w 49)), (1, .int x1)]) hx hb d_M_findMost_149 hl (k := 2) rfl (congrArg (HAdd.hAdd x2) (by decide : Int32.ofInt (-1) = (-1))) (by decide) rfl (fun ls hl => ?_)
      refine lv_goto (tgt := 2) hx hb d_M_findMost_152 (by decide) ?_
      exact ih _ _ _ (lp_back h hr) k1 ls _ _ hG (lv_sub hl [1, 2, 0] rfl)
    unfold M_findMost_L2 at h
    refine lv_iload_n hx hb d_M_findMost_2 rfl (lv_at hl 2 rfl) ?_
    refine lv_if_lt (tgt := 155) hx hb d_M_findMost_3 (by decide) (fun hc => ?_) (fun hc => ?_)
    · replace h := it_t h hc
      exact k1 _ _ (lp_exit h hr) ls _ _ hG (lv_sub hl [] rfl)
    · replace h := it_f h hc
      refine lv_iconst (v := 0) hx hb d_M_findMost_6 (by decide) ?_
      refine lv_istore_n (lv' := [(3, .int 0), (0, .ref (gad w 49)), (1, .int x1), (2, .int x2)]) hx hb d_M_findMost_7 rfl hl (by decide) rfl (fun ls hl => ?_)
      obtain ⟨z2, hz2, h⟩ := bnd_some h
      refine L_M_findMost_8 C _ _ FZ _ _ _ hz2 ?_ ls _ _ hG (lv_sub hl [1, 2, 3, 0] rfl)
      intro y3 Sy e9 ls H locs hG hl
      subst e9
      exact J149 _ _ h ls _ _ hG (lv_sub hl [0, 1, 2] rfl)
set_option maxHeartbeats 4000000 in
set_option maxRecDepth 100000 in
theorem c_M_findMost (l : Launch) (w : gw) (S : St) (x1 : Int32)  {z : St} (h : (M_findMost S x1) = some z) : gMv l w y_M_findMost b_M_findMost 7 none (rmm 1 21) [.ref (gad w 49), .int x1] S z := by
  unfold M_findMost at h
  refine g_met (Qc := gQv w z) (by decide +kernel) (Nat.le_of_ble_eq_true rfl) ?_
  intro p e s m args below meth c A Q ls hQ C hG hl
  have hx := C.1
  have hb := C.2.1
  have hl : lv_has ls 7 [(0, .ref (gad w 49)), (1, .int x1)] := hl
  have J155 : ∀ (S : St), M_findMost_J155 S = some z → ∀ (ls : Array Slot) (H : Heap) (locs : List Loc), GH w s A S H locs → lv_has ls 7 [] → W p l e (rmm 1 21) s m args below meth c H locs 0 0 Q (F0 m 155 ls []) := by
    intro S h ls H locs hG hl
    unfold M_findMost_J155 at h
    exact g_vret C hG (Option.some.inj h) hQ d_M_findMost_155
  refine lv_iconst (v := 5) hx hb d_M_findMost_0 (by decide) ?_
  refine lv_istore_n (lv' := [(2, .int 5), (0, .ref (gad w 49)), (1, .int x1)]) hx hb d_M_findMost_1 rfl hl (by decide) rfl (fun ls hl => ?_)
  obtain ⟨z3, hz3, h⟩ := bnd_some h
  refine L_M_findMost_2 C _ FZ _ _ _ hz3 ?_ ls _ _ hG (lv_sub hl [1, 2, 0] rfl)
  intro y2 Sy e9 ls H locs hG hl
  subst e9
  exact J155 _ h ls _ _ hG (lv_sub hl [] rfl)
theorem d_M_eachOf_0 : decode b_M_eachOf 0 = .ok (.aload_n 0, 1) := by decide +kernel
theorem d_M_eachOf_1 : decode b_M_eachOf 1 = .ok (.iconst (-1), 1) := by decide +kernel
theorem d_M_eachOf_2 : decode b_M_eachOf 2 = .ok (.invokevirtual 224, 3) := by decide +kernel
theorem d_M_eachOf_5 : decode b_M_eachOf 5 = .ok (.iconst 0, 1) := by decide +kernel
theorem d_M_eachOf_6 : decode b_M_eachOf 6 = .ok (.istore_n 2, 1) := by decide +kernel
theorem d_M_eachOf_7 : decode b_M_eachOf 7 = .ok (.iconst (-1), 1) := by decide +kernel
theorem d_M_eachOf_8 : decode b_M_eachOf 8 = .ok (.istore_n 3, 1) := by decide +kernel
theorem d_M_eachOf_9 : decode b_M_eachOf 9 = .ok (.iconst 0, 1) := by decide +kernel
theorem d_M_eachOf_10 : decode b_M_eachOf 10 = .ok (.istore 4, 2) := by decide +kernel
theorem d_M_eachOf_12 : decode b_M_eachOf 12 = .ok (.iload 4, 2) := by decide +kernel
theorem d_M_eachOf_14 : decode b_M_eachOf 14 = .ok (.iload_n 1, 1) := by decide +kernel
theorem d_M_eachOf_15 : decode b_M_eachOf 15 = .ok (.if_icmp .gt 105, 3) := by decide +kernel
theorem d_M_eachOf_18 : decode b_M_eachOf 18 = .ok (.aload_n 0, 1) := by decide +kernel
theorem d_M_eachOf_19 : decode b_M_eachOf 19 = .ok (.getfield 59, 3) := by decide +kernel
theorem d_M_eachOf_22 : decode b_M_eachOf 22 = .ok (.sipush 1024, 3) := by decide +kernel
theorem d_M_eachOf_25 : decode b_M_eachOf 25 = .ok (.iload 4, 2) := by decide +kernel
theorem d_M_eachOf_27 : decode b_M_eachOf 27 = .ok (.imul, 1) := by decide +kernel
theorem d_M_eachOf_28 : decode b_M_eachOf 28 = .ok (.iload_n 2, 1) := by decide +kernel
theorem d_M_eachOf_29 : decode b_M_eachOf 29 = .ok (.iadd, 1) := by decide +kernel
theorem d_M_eachOf_30 : decode b_M_eachOf 30 = .ok (.iaload, 1) := by decide +kernel
theorem d_M_eachOf_31 : decode b_M_eachOf 31 = .ok (.istore 5, 2) := by decide +kernel
theorem d_M_eachOf_33 : decode b_M_eachOf 33 = .ok (.iconst (-1), 1) := by decide +kernel
theorem d_M_eachOf_34 : decode b_M_eachOf 34 = .ok (.istore_n 3, 1) := by decide +kernel
theorem d_M_eachOf_35 : decode b_M_eachOf 35 = .ok (.aload_n 0, 1) := by decide +kernel
theorem d_M_eachOf_36 : decode b_M_eachOf 36 = .ok (.getfield 59, 3) := by decide +kernel
theorem d_M_eachOf_39 : decode b_M_eachOf 39 = .ok (.sipush 1024, 3) := by decide +kernel
theorem d_M_eachOf_42 : decode b_M_eachOf 42 = .ok (.iload 4, 2) := by decide +kernel
theorem d_M_eachOf_44 : decode b_M_eachOf 44 = .ok (.iconst 1, 1) := by decide +kernel
theorem d_M_eachOf_45 : decode b_M_eachOf 45 = .ok (.iadd, 1) := by decide +kernel
theorem d_M_eachOf_46 : decode b_M_eachOf 46 = .ok (.imul, 1) := by decide +kernel
theorem d_M_eachOf_47 : decode b_M_eachOf 47 = .ok (.iload_n 2, 1) := by decide +kernel
theorem d_M_eachOf_48 : decode b_M_eachOf 48 = .ok (.iadd, 1) := by decide +kernel
theorem d_M_eachOf_49 : decode b_M_eachOf 49 = .ok (.iaload, 1) := by decide +kernel
theorem d_M_eachOf_50 : decode b_M_eachOf 50 = .ok (.iload 5, 2) := by decide +kernel
theorem d_M_eachOf_52 : decode b_M_eachOf 52 = .ok (.if_icmp .eq 62, 3) := by decide +kernel
theorem d_M_eachOf_55 : decode b_M_eachOf 55 = .ok (.iconst 0, 1) := by decide +kernel
theorem d_M_eachOf_56 : decode b_M_eachOf 56 = .ok (.istore_n 3, 1) := by decide +kernel
theorem d_M_eachOf_57 : decode b_M_eachOf 57 = .ok (.iload_n 2, 1) := by decide +kernel
theorem d_M_eachOf_58 : decode b_M_eachOf 58 = .ok (.iload_n 3, 1) := by decide +kernel
theorem d_M_eachOf_59 : decode b_M_eachOf 59 = .ok (.invokestatic 190, 3) := by decide +kernel
theorem d_M_eachOf_62 : decode b_M_eachOf 62 = .ok (.ifCond .ne 40, 3) := by decide +kernel
theorem d_M_eachOf_65 : decode b_M_eachOf 65 = .ok (.aload_n 0, 1) := by decide +kernel
theorem d_M_eachOf_66 : decode b_M_eachOf 66 = .ok (.getfield 34, 3) := by decide +kernel
theorem d_M_eachOf_69 : decode b_M_eachOf 69 = .ok (.bipush 10, 2) := by decide +kernel
theorem d_M_eachOf_71 : decode b_M_eachOf 71 = .ok (.iload 4, 2) := by decide +kernel
theorem d_M_eachOf_73 : decode b_M_eachOf 73 = .ok (.imul, 1) := by decide +kernel
theorem d_M_eachOf_74 : decode b_M_eachOf 74 = .ok (.iload_n 3, 1) := by decide +kernel
theorem d_M_eachOf_75 : decode b_M_eachOf 75 = .ok (.iadd, 1) := by decide +kernel
theorem d_M_eachOf_76 : decode b_M_eachOf 76 = .ok (.iaload, 1) := by decide +kernel
theorem d_M_eachOf_77 : decode b_M_eachOf 77 = .ok (.aload_n 0, 1) := by decide +kernel
theorem d_M_eachOf_78 : decode b_M_eachOf 78 = .ok (.getfield 59, 3) := by decide +kernel
theorem d_M_eachOf_81 : decode b_M_eachOf 81 = .ok (.sipush 1024, 3) := by decide +kernel
theorem d_M_eachOf_84 : decode b_M_eachOf 84 = .ok (.iload 4, 2) := by decide +kernel
theorem d_M_eachOf_86 : decode b_M_eachOf 86 = .ok (.iconst 1, 1) := by decide +kernel
theorem d_M_eachOf_87 : decode b_M_eachOf 87 = .ok (.iadd, 1) := by decide +kernel
theorem d_M_eachOf_88 : decode b_M_eachOf 88 = .ok (.imul, 1) := by decide +kernel
theorem d_M_eachOf_89 : decode b_M_eachOf 89 = .ok (.iload_n 2, 1) := by decide +kernel
theorem d_M_eachOf_90 : decode b_M_eachOf 90 = .ok (.iconst 1, 1) := by decide +kernel
theorem d_M_eachOf_91 : decode b_M_eachOf 91 = .ok (.iload_n 3, 1) := by decide +kernel
theorem d_M_eachOf_92 : decode b_M_eachOf 92 = .ok (.ishl, 1) := by decide +kernel
theorem d_M_eachOf_93 : decode b_M_eachOf 93 = .ok (.ior, 1) := by decide +kernel
theorem d_M_eachOf_94 : decode b_M_eachOf 94 = .ok (.iadd, 1) := by decide +kernel
theorem d_M_eachOf_95 : decode b_M_eachOf 95 = .ok (.iaload, 1) := by decide +kernel
theorem d_M_eachOf_96 : decode b_M_eachOf 96 = .ok (.iadd, 1) := by decide +kernel
theorem d_M_eachOf_97 : decode b_M_eachOf 97 = .ok (.iload 5, 2) := by decide +kernel
theorem d_M_eachOf_99 : decode b_M_eachOf 99 = .ok (.if_icmp .eq 9, 3) := by decide +kernel
theorem d_M_eachOf_102 : decode b_M_eachOf 102 = .ok (.iinc 3 1, 3) := by decide +kernel
theorem d_M_eachOf_105 : decode b_M_eachOf 105 = .ok (.goto (-48), 3) := by decide +kernel
theorem d_M_eachOf_108 : decode b_M_eachOf 108 = .ok (.iload_n 2, 1) := by decide +kernel
theorem d_M_eachOf_109 : decode b_M_eachOf 109 = .ok (.iconst 1, 1) := by decide +kernel
theorem d_M_eachOf_110 : decode b_M_eachOf 110 = .ok (.iload_n 3, 1) := by decide +kernel
theorem d_M_eachOf_111 : decode b_M_eachOf 111 = .ok (.ishl, 1) := by decide +kernel
theorem d_M_eachOf_112 : decode b_M_eachOf 112 = .ok (.ior, 1) := by decide +kernel
theorem d_M_eachOf_113 : decode b_M_eachOf 113 = .ok (.istore_n 2, 1) := by decide +kernel
theorem d_M_eachOf_114 : decode b_M_eachOf 114 = .ok (.iinc 4 1, 3) := by decide +kernel
theorem d_M_eachOf_117 : decode b_M_eachOf 117 = .ok (.goto (-105), 3) := by decide +kernel
theorem d_M_eachOf_120 : decode b_M_eachOf 120 = .ok (.iload_n 1, 1) := by decide +kernel
theorem d_M_eachOf_121 : decode b_M_eachOf 121 = .ok (.iconst (-1), 1) := by decide +kernel
theorem d_M_eachOf_122 : decode b_M_eachOf 122 = .ok (.if_icmp .ne 12, 3) := by decide +kernel
theorem d_M_eachOf_125 : decode b_M_eachOf 125 = .ok (.aload_n 0, 1) := by decide +kernel
theorem d_M_eachOf_126 : decode b_M_eachOf 126 = .ok (.getfield 59, 3) := by decide +kernel
theorem d_M_eachOf_129 : decode b_M_eachOf 129 = .ok (.iconst 0, 1) := by decide +kernel
theorem d_M_eachOf_130 : decode b_M_eachOf 130 = .ok (.iaload, 1) := by decide +kernel
theorem d_M_eachOf_131 : decode b_M_eachOf 131 = .ok (.goto 4, 3) := by decide +kernel
theorem d_M_eachOf_134 : decode b_M_eachOf 134 = .ok (.iload_n 3, 1) := by decide +kernel
theorem d_M_eachOf_135 : decode b_M_eachOf 135 = .ok (.ireturn, 1) := by decide +kernel
noncomputable def M_eachOf_L57 (S : St) (x1 : Int32) (x2 : Int32) (x3 : Int32) (x4 : Int32) (x5 : Int32) : Option ((Int32) × Nat) :=
  if (M_isIn x2 x3) = 0 then
      chk (inb ((10 * x4) + x3) 50) <|
      chk (inb ((1024 * (x4 + 1)) + (x2 ||| ((1 : Int32) <<< (x3 &&& 31)))) 6144) <|
      if ((S 58 (ix ((10 * x4) + x3))) + (S 66 (ix ((1024 * (x4 + 1)) + (x2 ||| ((1 : Int32) <<< (x3 &&& 31))))))) = x5 then
        some (x3, 1)
      else
        some ((x3 + 1), 0)
    else
      some ((x3 + 1), 0)
noncomputable def M_eachOf_J108 (S : St) (x1 : Int32) (x2 : Int32) (x3 : Int32) (x4 : Int32) : Option ((Int32 × Int32 × Int32) × Nat) :=
  some ((x2 ||| ((1 : Int32) <<< (x3 &&& 31)), x3, x4 + 1), 0)
noncomputable def M_eachOf_L12 (S : St) (x1 : Int32) (x2 : Int32) (x3 : Int32) (x4 : Int32) : Option ((Int32 × Int32 × Int32) × Nat) :=
  if x1 < x4 then
      some ((x2, x3, x4), 1)
    else
      chk (inb ((1024 * x4) + x2) 6144) <|
      chk (inb ((1024 * (x4 + 1)) + x2) 6144) <|
      if (S 66 (ix ((1024 * (x4 + 1)) + x2))) = (S 66 (ix ((1024 * x4) + x2))) then
        some ((x2, (-1), x4 + 1), 0)
      else
        bnd (lp (σ := Int32) (fun q => M_eachOf_L57 S x1 x2 q x4 (S 66 (ix ((1024 * x4) + x2)))) FZ 0) fun z1 =>
        M_eachOf_J108 S x1 x2 z1.1 x4
noncomputable def M_eachOf_J120 (S : St) (x1 : Int32) (x3 : Int32) : Option (Int32 × St) :=
  if x1 = (-1) then
      some (S 66 0, S)
    else
      some (x3, S)
noncomputable def M_eachOf (S : St) (x1 : Int32) : Option (Int32 × St) :=
  bnd (M_findMost S (-1)) fun z2 =>
    bnd (lp (σ := Int32 × Int32 × Int32) (fun q => M_eachOf_L12 z2 x1 q.1 q.2.1 q.2.2) FZ (0, (-1), 0)) fun z3 =>
    M_eachOf_J120 z2 x1 z3.1.2.1
set_option maxHeartbeats 4000000 in
set_option maxRecDepth 100000 in
theorem L_M_eachOf_57 (C : gCx p s m args meth c y_M_eachOf.cls b_M_eachOf 6 (some .int)) : ∀ (S : St) (x1 : Int32) (x2 : Int32) (x4 : Int32) (x5 : Int32) (n : Nat) (x3 : Int32) (r : (Int32) × Nat), lp (σ := Int32) (fun q => M_eachOf_L57 S x1 x2 q x4 x5) n x3 = some r → (∀ (y3 : Int32), r = (y3, 1) → ∀ (ls : Array Slot) (H : Heap) (locs : List Loc), GH w s A S H locs → lv_has ls 6 [(0, .ref (gad w 49)), (1, .int x1), (2, .int x2), (3, .int y3), (4, .int x4)] → W p l e (rmm 2 47) s m args below meth c H locs 0 0 Q (F0 m 108 ls [])) → ∀ (ls : Array Slot) (H : Heap) (locs : List Loc), GH w s A S H locs → lv_has ls 6 [(0, .ref (gad w 49)), (1, .int x1), (2, .int x2), (3, .int x3), (4, .int x4), (5, .int x5)] → W p l e (rmm 2 47) s m args below meth c H locs 0 0 Q (F0 m 57 ls []) := by
  have hx := C.1
  have hb := C.2.1
  intro S x1 x2 x4 x5 n
  induction n with
  | zero => intro x3 r h; cases h
  | succ n ih =>
    intro x3 r h k1 ls H locs hG hl
    obtain ⟨z, h, hr⟩ := lp_succ h
    have h : M_eachOf_L57 S x1 x2 x3 x4 x5 = some z := h
    unfold M_eachOf_L57 at h
    refine lv_iload_n hx hb d_M_eachOf_57 rfl (lv_at hl 2 rfl) ?_
    refine lv_iload_n hx hb d_M_eachOf_58 rfl (lv_at hl 3 rfl) ?_
    refine g_goi hG (g_runS (As := [.int x2, .int x3]) (rest := []) C hG (c_M_isIn l w S x2 x3 _) sw_M_190 rfl rfl ⟨by decide, by decide⟩ rfl hl.1 rfl (Nat.le_of_ble_eq_true rfl) d_M_eachOf_59 ⟨Nat.zero_le _, Nat.zero_le _⟩) (fun H locs hG => ?_)
    refine lv_if_ne (tgt := 102) hx hb d_M_eachOf_62 (by decide) (fun hc => ?_) (fun hc => ?_)
    · replace h := it_f h hc
      refine lv_iinc (v := x3 + 1) (lv' := [(3, .int (x3 + 1)), (0, .ref (gad w 49)), (1, .int x1), (2, .int x2), (4, .int x4), (5, .int x5)]) hx hb d_M_eachOf_102 hl (k := 3) rfl (congrArg (HAdd.hAdd x3) (by decide : Int32.ofInt 1 = 1)) (by decide) rfl (fun ls hl => ?_)
      refine lv_goto (tgt := 57) hx hb d_M_eachOf_105 (by decide) ?_
      exact ih _ _ (lp_back h hr) k1 ls _ _ hG (lv_sub hl [1, 2, 3, 0, 4, 5] rfl)
    · replace h := it_t h hc
      refine lv_aload_n hx hb d_M_eachOf_65 rfl (lv_at hl 0 rfl) ?_
      refine g_get C hG (hG.lt (Nat.le_of_ble_eq_true rfl)) (ce49 w _) rfl inC8 12 (Nat.le_of_ble_eq_true rfl) qw688 rfl d_M_eachOf_66 ?_
      refine lv_bipush (v := 10) hx hb d_M_eachOf_69 (by decide) ?_
      refine lv_iload hx hb d_M_eachOf_71 (lv_at hl 4 rfl) ?_
      refine lv_imul hx hb d_M_eachOf_73 ?_
      refine lv_iload_n hx hb d_M_eachOf_74 rfl (lv_at hl 3 rfl) ?_
      refine lv_iadd hx hb d_M_eachOf_75 ?_
      obtain ⟨hi1, h⟩ := chk_some h
      refine g_iald (j := ix ((10 * x4) + x3)) C hG (hG.lt (Nat.le_of_ble_eq_true rfl)) (ce58 w _) (inb_in hi1) rfl d_M_eachOf_76 ?_
      refine lv_aload_n hx hb d_M_eachOf_77 rfl (lv_at hl 0 rfl) ?_
      refine g_get C hG (hG.lt (Nat.le_of_ble_eq_true rfl)) (ce49 w _) rfl inC8 21 (Nat.le_of_ble_eq_true rfl) qw697 rfl d_M_eachOf_78 ?_
      refine lv_sipush (v := 1024) hx hb d_M_eachOf_81 (by decide) ?_
      refine lv_iload hx hb d_M_eachOf_84 (lv_at hl 4 rfl) ?_
      refine lv_iconst (v := 1) hx hb d_M_eachOf_86 (by decide) ?_
      refine lv_iadd hx hb d_M_eachOf_87 ?_
      refine lv_imul hx hb d_M_eachOf_88 ?_
      refine lv_iload_n hx hb d_M_eachOf_89 rfl (lv_at hl 2 rfl) ?_
      refine lv_iconst (v := 1) hx hb d_M_eachOf_90 (by decide) ?_
      refine lv_iload_n hx hb d_M_eachOf_91 rfl (lv_at hl 3 rfl) ?_
      refine lv_ishl hx hb d_M_eachOf_92 ?_
      refine lv_ior hx hb d_M_eachOf_93 ?_
      refine lv_iadd hx hb d_M_eachOf_94 ?_
      obtain ⟨hi2, h⟩ := chk_some h
      refine g_iald (j := ix ((1024 * (x4 + 1)) + (x2 ||| ((1 : Int32) <<< (x3 &&& 31))))) C hG (hG.lt (Nat.le_of_ble_eq_true rfl)) (ce66 w _) (inb_in hi2) rfl d_M_eachOf_95 ?_
      refine lv_iadd hx hb d_M_eachOf_96 ?_
      refine lv_iload hx hb d_M_eachOf_97 (lv_at hl 5 rfl) ?_
      refine lv_icmp_eq (tgt := 108) hx hb d_M_eachOf_99 (by decide) (fun hc => ?_) (fun hc => ?_)
      · replace h := it_t h hc
        exact k1 _ (lp_exit h hr) ls _ _ hG (lv_sub hl [0, 1, 2, 3, 4] rfl)
      · replace h := it_f h hc
        refine lv_iinc (v := x3 + 1) (lv' := [(3, .int (x3 + 1)), (0, .ref (gad w 49)), (1, .int x1), (2, .int x2), (4, .int x4), (5, .int x5)]) hx hb d_M_eachOf_102 hl (k := 3) rfl (congrArg (HAdd.hAdd x3) (by decide : Int32.ofInt 1 = 1)) (by decide) rfl (fun ls hl => ?_)
        refine lv_goto (tgt := 57) hx hb d_M_eachOf_105 (by decide) ?_
        exact ih _ _ (lp_back h hr) k1 ls _ _ hG (lv_sub hl [1, 2, 3, 0, 4, 5] rfl)
set_option maxHeartbeats 4000000 in
set_option maxRecDepth 100000 in
theorem L_M_eachOf_12 (C : gCx p s m args meth c y_M_eachOf.cls b_M_eachOf 6 (some .int)) : ∀ (S : St) (x1 : Int32) (n : Nat) (x2 : Int32) (x3 : Int32) (x4 : Int32) (r : (Int32 × Int32 × Int32) × Nat), lp (σ := Int32 × Int32 × Int32) (fun q => M_eachOf_L12 S x1 q.1 q.2.1 q.2.2) n (x2, x3, x4) = some r → (∀ (y2 : Int32) (y3 : Int32) (y4 : Int32), r = ((y2, y3, y4), 1) → ∀ (ls : Array Slot) (H : Heap) (locs : List Loc), GH w s A S H locs → lv_has ls 6 [(0, .ref (gad w 49)), (1, .int x1), (3, .int y3)] → W p l e (rmm 2 47) s m args below meth c H locs 0 0 Q (F0 m 120 ls [])) → ∀ (ls : Array Slot) (H : Heap) (locs : List Loc), GH w s A S H locs → lv_has ls 6 [(0, .ref (gad w 49)), (1, .int x1), (2, .int x2), (3, .int x3), (4, .int x4)] → W p l e (rmm 2 47) s m args below meth c H locs 0 0 Q (F0 m 12 ls []) := by
  have hx := C.1
  have hb := C.2.1
  intro S x1 n
  induction n with
  | zero => intro x2 x3 x4 r h; cases h
  | succ n ih =>
    intro x2 x3 x4 r h k1 ls H locs hG hl
    obtain ⟨z, h, hr⟩ := lp_succ h
    have h : M_eachOf_L12 S x1 x2 x3 x4 = some z := h
    have J108 : ∀ (x2 : Int32) (x3 : Int32) (x4 : Int32), M_eachOf_J108 S x1 x2 x3 x4 = some z → ∀ (ls : Array Slot) (H : Heap) (locs : List Loc), GH w s A S H locs → lv_has ls 6 [(0, .ref (gad w 49)), (1, .int x1), (2, .int x2), (3, .int x3), (4, .int x4)] → W p l e (rmm 2 47) s m args below meth c H locs 0 0 Q (F0 m 108 ls []) := by
      intro x2 x3 x4 h ls H locs hG hl
      unfold M_eachOf_J108 at h
      refine lv_iload_n hx hb d_M_eachOf_108 rfl (lv_at hl 2 rfl) ?_
      refine lv_iconst (v := 1) hx hb d_M_eachOf_109 (by decide) ?_
      refine lv_iload_n hx hb d_M_eachOf_110 rfl (lv_at hl 3 rfl) ?_
      refine lv_ishl hx hb d_M_eachOf_111 ?_
      refine lv_ior hx hb d_M_eachOf_112 ?_
      refine lv_istore_n (lv' := [(2, .int (x2 ||| ((1 : Int32) <<< (x3 &&& 31)))), (0, .ref (gad w 49)), (1, .int x1), (3, .int x3), (4, .int x4)]) hx hb d_M_eachOf_113 rfl hl (by decide) rfl (fun ls hl => ?_)
      refine lv_iinc (v := x4 + 1) (lv' := [(4, .int (x4 + 1)), (2, .int (x2 ||| ((1 : Int32) <<< (x3 &&& 31)))), (0, .ref (gad w 49)), (1, .int x1), (3, .int x3)]) hx hb d_M_eachOf_114 hl (k := 4) rfl (congrArg (HAdd.hAdd x4) (by decide : Int32.ofInt 1 = 1)) (by decide) rfl (fun ls hl => ?_)
      refine lv_goto (tgt := 12) hx hb d_M_eachOf_117 (by decide) ?_
      exact ih _ _ _ _ (lp_back h hr) k1 ls _ _ hG (lv_sub hl [2, 3, 1, 4, 0] rfl)
    unfold M_eachOf_L12 at h
    refine lv_iload hx hb d_M_eachOf_12 (lv_at hl 4 rfl) ?_
    refine lv_iload_n hx hb d_M_eachOf_14 rfl (lv_at hl 1 rfl) ?_
    refine lv_icmp_gt (tgt := 120) hx hb d_M_eachOf_15 (by decide) (fun hc => ?_) (fun hc => ?_)
    · replace h := it_t h hc
      exact k1 _ _ _ (lp_exit h hr) ls _ _ hG (lv_sub hl [0, 1, 3] rfl)
    · replace h := it_f h hc
      refine lv_aload_n hx hb d_M_eachOf_18 rfl (lv_at hl 0 rfl) ?_
      refine g_get C hG (hG.lt (Nat.le_of_ble_eq_true rfl)) (ce49 w _) rfl inC8 21 (Nat.le_of_ble_eq_true rfl) qw697 rfl d_M_eachOf_19 ?_
      refine lv_sipush (v := 1024) hx hb d_M_eachOf_22 (by decide) ?_
      refine lv_iload hx hb d_M_eachOf_25 (lv_at hl 4 rfl) ?_
      refine lv_imul hx hb d_M_eachOf_27 ?_
      refine lv_iload_n hx hb d_M_eachOf_28 rfl (lv_at hl 2 rfl) ?_
      refine lv_iadd hx hb d_M_eachOf_29 ?_
      obtain ⟨hi3, h⟩ := chk_some h
      refine g_iald (j := ix ((1024 * x4) + x2)) C hG (hG.lt (Nat.le_of_ble_eq_true rfl)) (ce66 w _) (inb_in hi3) rfl d_M_eachOf_30 ?_
      refine lv_istore (lv' := [(5, .int (S 66 (ix ((1024 * x4) + x2)))), (0, .ref (gad w 49)), (1, .int x1), (2, .int x2), (3, .int x3), (4, .int x4)]) hx hb d_M_eachOf_31 hl (by decide) rfl (fun ls hl => ?_)
      refine lv_iconst (v := (-1)) hx hb d_M_eachOf_33 (by decide) ?_
      refine lv_istore_n (lv' := [(3, .int (-1)), (5, .int (S 66 (ix ((1024 * x4) + x2)))), (0, .ref (gad w 49)), (1, .int x1), (2, .int x2), (4, .int x4)]) hx hb d_M_eachOf_34 rfl hl (by decide) rfl (fun ls hl => ?_)
      refine lv_aload_n hx hb d_M_eachOf_35 rfl (lv_at hl 2 rfl) ?_
      refine g_get C hG (hG.lt (Nat.le_of_ble_eq_true rfl)) (ce49 w _) rfl inC8 21 (Nat.le_of_ble_eq_true rfl) qw697 rfl d_M_eachOf_36 ?_
      refine lv_sipush (v := 1024) hx hb d_M_eachOf_39 (by decide) ?_
      refine lv_iload hx hb d_M_eachOf_42 (lv_at hl 5 rfl) ?_
      refine lv_iconst (v := 1) hx hb d_M_eachOf_44 (by decide) ?_
      refine lv_iadd hx hb d_M_eachOf_45 ?_
      refine lv_imul hx hb d_M_eachOf_46 ?_
      refine lv_iload_n hx hb d_M_eachOf_47 rfl (lv_at hl 4 rfl) ?_
      refine lv_iadd hx hb d_M_eachOf_48 ?_
      obtain ⟨hi4, h⟩ := chk_some h
      refine g_iald (j := ix ((1024 * (x4 + 1)) + x2)) C hG (hG.lt (Nat.le_of_ble_eq_true rfl)) (ce66 w _) (inb_in hi4) rfl d_M_eachOf_49 ?_
      refine lv_iload hx hb d_M_eachOf_50 (lv_at hl 1 rfl) ?_
      refine lv_icmp_eq (tgt := 114) hx hb d_M_eachOf_52 (by decide) (fun hc => ?_) (fun hc => ?_)
      · replace h := it_t h hc
        refine lv_iinc (v := x4 + 1) (lv' := [(4, .int (x4 + 1)), (3, .int (-1)), (5, .int (S 66 (ix ((1024 * x4) + x2)))), (0, .ref (gad w 49)), (1, .int x1), (2, .int x2)]) hx hb d_M_eachOf_114 hl (k := 5) rfl (congrArg (HAdd.hAdd x4) (by decide : Int32.ofInt 1 = 1)) (by decide) rfl (fun ls hl => ?_)
        refine lv_goto (tgt := 12) hx hb d_M_eachOf_117 (by decide) ?_
        exact ih _ _ _ _ (lp_back h hr) k1 ls _ _ hG (lv_sub hl [3, 4, 5, 1, 0] rfl)
      · replace h := it_f h hc
        refine lv_iconst (v := 0) hx hb d_M_eachOf_55 (by decide) ?_
        refine lv_istore_n (lv' := [(3, .int 0), (5, .int (S 66 (ix ((1024 * x4) + x2)))), (0, .ref (gad w 49)), (1, .int x1), (2, .int x2), (4, .int x4)]) hx hb d_M_eachOf_56 rfl hl (by decide) rfl (fun ls hl => ?_)
        obtain ⟨z1, hz1, h⟩ := bnd_some h
        refine L_M_eachOf_57 C _ _ _ _ _ FZ _ _ hz1 ?_ ls _ _ hG (lv_sub hl [2, 3, 4, 0, 5, 1] rfl)
        intro y3 e9 ls H locs hG hl
        subst e9
        exact J108 _ _ _ h ls _ _ hG (lv_sub hl [0, 1, 2, 3, 4] rfl)
set_option maxHeartbeats 4000000 in
set_option maxRecDepth 100000 in
theorem c_M_eachOf (l : Launch) (w : gw) (S : St) (x1 : Int32)  {z : Int32 × St} (h : (M_eachOf S x1) = some z) : gMi l w y_M_eachOf b_M_eachOf 6 (some .int) (rmm 2 47) [.ref (gad w 49), .int x1] S z.1 z.2 := by
  unfold M_eachOf at h
  refine g_met (Qc := gQi w z.1 z.2) (by decide +kernel) (Nat.le_of_ble_eq_true rfl) ?_
  intro p e s m args below meth c A Q ls hQ C hG hl
  have hx := C.1
  have hb := C.2.1
  have hl : lv_has ls 6 [(0, .ref (gad w 49)), (1, .int x1)] := hl
  have J120 : ∀ (S : St) (x3 : Int32), M_eachOf_J120 S x1 x3 = some z → ∀ (ls : Array Slot) (H : Heap) (locs : List Loc), GH w s A S H locs → lv_has ls 6 [(0, .ref (gad w 49)), (1, .int x1), (3, .int x3)] → W p l e (rmm 2 47) s m args below meth c H locs 0 0 Q (F0 m 120 ls []) := by
    intro S x3 h ls H locs hG hl
    unfold M_eachOf_J120 at h
    refine lv_iload_n hx hb d_M_eachOf_120 rfl (lv_at hl 1 rfl) ?_
    refine lv_iconst (v := (-1)) hx hb d_M_eachOf_121 (by decide) ?_
    refine lv_icmp_ne (tgt := 134) hx hb d_M_eachOf_122 (by decide) (fun hc => ?_) (fun hc => ?_)
    · replace h := it_f h hc
      refine lv_iload_n hx hb d_M_eachOf_134 rfl (lv_at hl 2 rfl) ?_
      exact g_iret C hG (sm_fst h) (sm_snd h) hQ d_M_eachOf_135
    · replace h := it_t h hc
      refine lv_aload_n hx hb d_M_eachOf_125 rfl (lv_at hl 0 rfl) ?_
      refine g_get C hG (hG.lt (Nat.le_of_ble_eq_true rfl)) (ce49 w _) rfl inC8 21 (Nat.le_of_ble_eq_true rfl) qw697 rfl d_M_eachOf_126 ?_
      refine lv_iconst (v := 0) hx hb d_M_eachOf_129 (by decide) ?_
      refine g_iald (j := 0) C hG (hG.lt (Nat.le_of_ble_eq_true rfl)) (ce66 w _) (inb_in (by decide)) rfl d_M_eachOf_130 ?_
      refine lv_goto (tgt := 135) hx hb d_M_eachOf_131 (by decide) ?_
      exact g_iret C hG (sm_fst h) (sm_snd h) hQ d_M_eachOf_135
  refine lv_aload_n hx hb d_M_eachOf_0 rfl (lv_at hl 0 rfl) ?_
  refine lv_iconst (v := (-1)) hx hb d_M_eachOf_1 (by decide) ?_
  obtain ⟨z2, hz2, h⟩ := bnd_some h
  refine g_gov hG (g_runV (As := [.int (-1)]) (rest := []) C hG (c_M_findMost l w S (-1) hz2 _) (hG.lt (Nat.le_of_ble_eq_true rfl)) (ce49 w _) rfl vw_M_224 rfl rfl ⟨by decide, by decide⟩ rfl hl.1 rfl (Nat.le_of_ble_eq_true rfl) d_M_eachOf_2 ⟨Nat.zero_le _, Nat.zero_le _⟩) (fun H locs hG => ?_)
  refine lv_iconst (v := 0) hx hb d_M_eachOf_5 (by decide) ?_
  refine lv_istore_n (lv' := [(2, .int 0), (0, .ref (gad w 49)), (1, .int x1)]) hx hb d_M_eachOf_6 rfl hl (by decide) rfl (fun ls hl => ?_)
  refine lv_iconst (v := (-1)) hx hb d_M_eachOf_7 (by decide) ?_
  refine lv_istore_n (lv' := [(3, .int (-1)), (2, .int 0), (0, .ref (gad w 49)), (1, .int x1)]) hx hb d_M_eachOf_8 rfl hl (by decide) rfl (fun ls hl => ?_)
  refine lv_iconst (v := 0) hx hb d_M_eachOf_9 (by decide) ?_
  refine lv_istore (lv' := [(4, .int 0), (3, .int (-1)), (2, .int 0), (0, .ref (gad w 49)), (1, .int x1)]) hx hb d_M_eachOf_10 hl (by decide) rfl (fun ls hl => ?_)
  obtain ⟨z3, hz3, h⟩ := bnd_some h
  refine L_M_eachOf_12 C _ _ FZ _ _ _ _ hz3 ?_ ls _ _ hG (lv_sub hl [3, 4, 2, 1, 0] rfl)
  intro y2 y3 y4 e9 ls H locs hG hl
  subst e9
  exact J120 _ _ h ls _ _ hG (lv_sub hl [0, 1, 2] rfl)
theorem d_M_each_0 : decode b_M_each 0 = .ok (.iload_n 1, 1) := by decide +kernel
theorem d_M_each_1 : decode b_M_each 1 = .ok (.i2l, 1) := by decide +kernel
theorem d_M_each_2 : decode b_M_each 2 = .ok (.ldc2_w 227, 3) := by decide +kernel
theorem d_M_each_5 : decode b_M_each 5 = .ok (.ldc2_w 126, 3) := by decide +kernel
theorem d_M_each_8 : decode b_M_each 8 = .ok (.invokestatic 82, 3) := by decide +kernel
theorem d_M_each_11 : decode b_M_each 11 = .ok (.ifCond .eq 11, 3) := by decide +kernel
theorem d_M_each_14 : decode b_M_each 14 = .ok (.aload_n 0, 1) := by decide +kernel
theorem d_M_each_15 : decode b_M_each 15 = .ok (.iload_n 1, 1) := by decide +kernel
theorem d_M_each_16 : decode b_M_each 16 = .ok (.invokevirtual 229, 3) := by decide +kernel
theorem d_M_each_19 : decode b_M_each 19 = .ok (.goto 5, 3) := by decide +kernel
theorem d_M_each_22 : decode b_M_each 22 = .ok (.bipush (-2), 2) := by decide +kernel
theorem d_M_each_24 : decode b_M_each 24 = .ok (.ireturn, 1) := by decide +kernel
noncomputable def M_each (S : St) (x1 : Int32) : Option (Int32 × St) :=
  if (M_in x1.toInt64 (-1) 4) = 0 then
      some ((-2), S)
    else
      bnd (M_eachOf S x1) fun z1 =>
      some (z1.1, z1.2)
set_option maxHeartbeats 4000000 in
set_option maxRecDepth 100000 in
theorem c_M_each (l : Launch) (w : gw) (S : St) (x1 : Int32)  {z : Int32 × St} (h : (M_each S x1) = some z) : gMi l w y_M_each b_M_each 2 (some .int) (rmm 3 72) [.ref (gad w 49), .int x1] S z.1 z.2 := by
  unfold M_each at h
  refine g_met (Qc := gQi w z.1 z.2) (by decide +kernel) (Nat.le_of_ble_eq_true rfl) ?_
  intro p e s m args below meth c A Q ls hQ C hG hl
  have hx := C.1
  have hb := C.2.1
  have hl : lv_has ls 2 [(0, .ref (gad w 49)), (1, .int x1)] := hl
  refine lv_iload_n hx hb d_M_each_0 rfl (lv_at hl 1 rfl) ?_
  refine lv_i2l (v := x1.toInt64) hx hb d_M_each_1 rfl ?_
  refine lv_ldc2 (v := (-1)) hx hb C.2.2.2.1 (C.2.2.2.2.1 _ qw1003) d_M_each_2 ?_
  refine lv_ldc2 (v := 4) hx hb C.2.2.2.1 (C.2.2.2.2.1 _ qw829) d_M_each_5 ?_
  refine g_goi hG (g_runS (As := [.long x1.toInt64, .long (-1), .long 4]) (rest := []) C hG (c_M_in l w S x1.toInt64 (-1) 4 _) sw_M_82 rfl rfl ⟨by decide, by decide⟩ rfl hl.1 rfl (Nat.le_of_ble_eq_true rfl) d_M_each_8 ⟨Nat.zero_le _, Nat.zero_le _⟩) (fun H locs hG => ?_)
  refine lv_if_eq (tgt := 22) hx hb d_M_each_11 (by decide) (fun hc => ?_) (fun hc => ?_)
  · replace h := it_t h hc
    refine lv_bipush (v := (-2)) hx hb d_M_each_22 (by decide) ?_
    exact g_iret C hG (sm_fst h) (sm_snd h) hQ d_M_each_24
  · replace h := it_f h hc
    refine lv_aload_n hx hb d_M_each_14 rfl (lv_at hl 0 rfl) ?_
    refine lv_iload_n hx hb d_M_each_15 rfl (lv_at hl 1 rfl) ?_
    obtain ⟨z1, hz1, h⟩ := bnd_some h
    refine g_goi hG (g_runV (As := [.int x1]) (rest := []) C hG (c_M_eachOf l w S x1 hz1 _) (hG.lt (Nat.le_of_ble_eq_true rfl)) (ce49 w _) rfl vw_M_229 rfl rfl ⟨by decide, by decide⟩ rfl hl.1 rfl (Nat.le_of_ble_eq_true rfl) d_M_each_16 ⟨Nat.zero_le _, Nat.zero_le _⟩) (fun H locs hG => ?_)
    refine lv_goto (tgt := 24) hx hb d_M_each_19 (by decide) ?_
    exact g_iret C hG (sm_fst h) (sm_snd h) hQ d_M_each_24
theorem d_M_paysOf_0 : decode b_M_paysOf 0 = .ok (.aload_n 0, 1) := by decide +kernel
theorem d_M_paysOf_1 : decode b_M_paysOf 1 = .ok (.iload_n 1, 1) := by decide +kernel
theorem d_M_paysOf_2 : decode b_M_paysOf 2 = .ok (.invokevirtual 229, 3) := by decide +kernel
theorem d_M_paysOf_5 : decode b_M_paysOf 5 = .ok (.istore_n 2, 1) := by decide +kernel
theorem d_M_paysOf_6 : decode b_M_paysOf 6 = .ok (.aload_n 0, 1) := by decide +kernel
theorem d_M_paysOf_7 : decode b_M_paysOf 7 = .ok (.getfield 59, 3) := by decide +kernel
theorem d_M_paysOf_10 : decode b_M_paysOf 10 = .ok (.iconst 0, 1) := by decide +kernel
theorem d_M_paysOf_11 : decode b_M_paysOf 11 = .ok (.iaload, 1) := by decide +kernel
theorem d_M_paysOf_12 : decode b_M_paysOf 12 = .ok (.iload_n 2, 1) := by decide +kernel
theorem d_M_paysOf_13 : decode b_M_paysOf 13 = .ok (.iconst (-1), 1) := by decide +kernel
theorem d_M_paysOf_14 : decode b_M_paysOf 14 = .ok (.if_icmp .ne 7, 3) := by decide +kernel
theorem d_M_paysOf_17 : decode b_M_paysOf 17 = .ok (.iconst 0, 1) := by decide +kernel
theorem d_M_paysOf_18 : decode b_M_paysOf 18 = .ok (.goto 14, 3) := by decide +kernel
theorem d_M_paysOf_21 : decode b_M_paysOf 21 = .ok (.aload_n 0, 1) := by decide +kernel
theorem d_M_paysOf_22 : decode b_M_paysOf 22 = .ok (.getfield 34, 3) := by decide +kernel
theorem d_M_paysOf_25 : decode b_M_paysOf 25 = .ok (.bipush 10, 2) := by decide +kernel
theorem d_M_paysOf_27 : decode b_M_paysOf 27 = .ok (.iload_n 1, 1) := by decide +kernel
theorem d_M_paysOf_28 : decode b_M_paysOf 28 = .ok (.imul, 1) := by decide +kernel
theorem d_M_paysOf_29 : decode b_M_paysOf 29 = .ok (.iload_n 2, 1) := by decide +kernel
theorem d_M_paysOf_30 : decode b_M_paysOf 30 = .ok (.iadd, 1) := by decide +kernel
theorem d_M_paysOf_31 : decode b_M_paysOf 31 = .ok (.iaload, 1) := by decide +kernel
theorem d_M_paysOf_32 : decode b_M_paysOf 32 = .ok (.isub, 1) := by decide +kernel
theorem d_M_paysOf_33 : decode b_M_paysOf 33 = .ok (.istore_n 3, 1) := by decide +kernel
theorem d_M_paysOf_34 : decode b_M_paysOf 34 = .ok (.aload_n 0, 1) := by decide +kernel
theorem d_M_paysOf_35 : decode b_M_paysOf 35 = .ok (.iload_n 1, 1) := by decide +kernel
theorem d_M_paysOf_36 : decode b_M_paysOf 36 = .ok (.invokevirtual 224, 3) := by decide +kernel
theorem d_M_paysOf_39 : decode b_M_paysOf 39 = .ok (.aload_n 0, 1) := by decide +kernel
theorem d_M_paysOf_40 : decode b_M_paysOf 40 = .ok (.getfield 59, 3) := by decide +kernel
theorem d_M_paysOf_43 : decode b_M_paysOf 43 = .ok (.iconst 0, 1) := by decide +kernel
theorem d_M_paysOf_44 : decode b_M_paysOf 44 = .ok (.iaload, 1) := by decide +kernel
theorem d_M_paysOf_45 : decode b_M_paysOf 45 = .ok (.iload_n 3, 1) := by decide +kernel
theorem d_M_paysOf_46 : decode b_M_paysOf 46 = .ok (.isub, 1) := by decide +kernel
theorem d_M_paysOf_47 : decode b_M_paysOf 47 = .ok (.ireturn, 1) := by decide +kernel
noncomputable def M_paysOf_J32 (S : St) (x1 : Int32) (t0 : Int32) (t1 : Int32) : Option (Int32 × St) :=
  bnd (M_findMost S x1) fun z1 =>
    some ((z1 66 0) - (t0 - t1), z1)
noncomputable def M_paysOf (S : St) (x1 : Int32) : Option (Int32 × St) :=
  bnd (M_eachOf S x1) fun z2 =>
    if z2.1 = (-1) then
      M_paysOf_J32 z2.2 x1 (z2.2 66 0) 0
    else
      chk (inb ((10 * x1) + z2.1) 50) <|
      M_paysOf_J32 z2.2 x1 (z2.2 66 0) (z2.2 58 (ix ((10 * x1) + z2.1)))
set_option maxHeartbeats 4000000 in
set_option maxRecDepth 100000 in
theorem c_M_paysOf (l : Launch) (w : gw) (S : St) (x1 : Int32)  {z : Int32 × St} (h : (M_paysOf S x1) = some z) : gMi l w y_M_paysOf b_M_paysOf 4 (some .int) (rmm 3 72) [.ref (gad w 49), .int x1] S z.1 z.2 := by
  unfold M_paysOf at h
  refine g_met (Qc := gQi w z.1 z.2) (by decide +kernel) (Nat.le_of_ble_eq_true rfl) ?_
  intro p e s m args below meth c A Q ls hQ C hG hl
  have hx := C.1
  have hb := C.2.1
  have hl : lv_has ls 4 [(0, .ref (gad w 49)), (1, .int x1)] := hl
  have J32 : ∀ (S : St) (t0 : Int32) (t1 : Int32), M_paysOf_J32 S x1 t0 t1 = some z → ∀ (ls : Array Slot) (H : Heap) (locs : List Loc), GH w s A S H locs → lv_has ls 4 [(0, .ref (gad w 49)), (1, .int x1)] → W p l e (rmm 3 72) s m args below meth c H locs 0 0 Q (F0 m 32 ls [.int t1, .int t0]) := by
    intro S t0 t1 h ls H locs hG hl
    unfold M_paysOf_J32 at h
    refine lv_isub hx hb d_M_paysOf_32 ?_
    refine lv_istore_n (lv' := [(3, .int (t0 - t1)), (0, .ref (gad w 49)), (1, .int x1)]) hx hb d_M_paysOf_33 rfl hl (by decide) rfl (fun ls hl => ?_)
    refine lv_aload_n hx hb d_M_paysOf_34 rfl (lv_at hl 1 rfl) ?_
    refine lv_iload_n hx hb d_M_paysOf_35 rfl (lv_at hl 2 rfl) ?_
    obtain ⟨z1, hz1, h⟩ := bnd_some h
    refine g_gov hG (g_runV (As := [.int x1]) (rest := []) C hG (c_M_findMost l w S x1 hz1 _) (hG.lt (Nat.le_of_ble_eq_true rfl)) (ce49 w _) rfl vw_M_224 rfl rfl ⟨by decide, by decide⟩ rfl hl.1 rfl (Nat.le_of_ble_eq_true rfl) d_M_paysOf_36 ⟨Nat.zero_le _, Nat.zero_le _⟩) (fun H locs hG => ?_)
    refine lv_aload_n hx hb d_M_paysOf_39 rfl (lv_at hl 1 rfl) ?_
    refine g_get C hG (hG.lt (Nat.le_of_ble_eq_true rfl)) (ce49 w _) rfl inC8 21 (Nat.le_of_ble_eq_true rfl) qw697 rfl d_M_paysOf_40 ?_
    refine lv_iconst (v := 0) hx hb d_M_paysOf_43 (by decide) ?_
    refine g_iald (j := 0) C hG (hG.lt (Nat.le_of_ble_eq_true rfl)) (ce66 w _) (inb_in (by decide)) rfl d_M_paysOf_44 ?_
    refine lv_iload_n hx hb d_M_paysOf_45 rfl (lv_at hl 0 rfl) ?_
    refine lv_isub hx hb d_M_paysOf_46 ?_
    exact g_iret C hG (sm_fst h) (sm_snd h) hQ d_M_paysOf_47
  refine lv_aload_n hx hb d_M_paysOf_0 rfl (lv_at hl 0 rfl) ?_
  refine lv_iload_n hx hb d_M_paysOf_1 rfl (lv_at hl 1 rfl) ?_
  obtain ⟨z2, hz2, h⟩ := bnd_some h
  refine g_goi hG (g_runV (As := [.int x1]) (rest := []) C hG (c_M_eachOf l w S x1 hz2 _) (hG.lt (Nat.le_of_ble_eq_true rfl)) (ce49 w _) rfl vw_M_229 rfl rfl ⟨by decide, by decide⟩ rfl hl.1 rfl (Nat.le_of_ble_eq_true rfl) d_M_paysOf_2 ⟨Nat.zero_le _, Nat.zero_le _⟩) (fun H locs hG => ?_)
  refine lv_istore_n (lv' := [(2, .int z2.1), (0, .ref (gad w 49)), (1, .int x1)]) hx hb d_M_paysOf_5 rfl hl (by decide) rfl (fun ls hl => ?_)
  refine lv_aload_n hx hb d_M_paysOf_6 rfl (lv_at hl 1 rfl) ?_
  refine g_get C hG (hG.lt (Nat.le_of_ble_eq_true rfl)) (ce49 w _) rfl inC8 21 (Nat.le_of_ble_eq_true rfl) qw697 rfl d_M_paysOf_7 ?_
  refine lv_iconst (v := 0) hx hb d_M_paysOf_10 (by decide) ?_
  refine g_iald (j := 0) C hG (hG.lt (Nat.le_of_ble_eq_true rfl)) (ce66 w _) (inb_in (by decide)) rfl d_M_paysOf_11 ?_
  refine lv_iload_n hx hb d_M_paysOf_12 rfl (lv_at hl 0 rfl) ?_
  refine lv_iconst (v := (-1)) hx hb d_M_paysOf_13 (by decide) ?_
  refine lv_icmp_ne (tgt := 21) hx hb d_M_paysOf_14 (by decide) (fun hc => ?_) (fun hc => ?_)
  · replace h := it_f h hc
    refine lv_aload_n hx hb d_M_paysOf_21 rfl (lv_at hl 1 rfl) ?_
    refine g_get C hG (hG.lt (Nat.le_of_ble_eq_true rfl)) (ce49 w _) rfl inC8 12 (Nat.le_of_ble_eq_true rfl) qw688 rfl d_M_paysOf_22 ?_
    refine lv_bipush (v := 10) hx hb d_M_paysOf_25 (by decide) ?_
    refine lv_iload_n hx hb d_M_paysOf_27 rfl (lv_at hl 2 rfl) ?_
    refine lv_imul hx hb d_M_paysOf_28 ?_
    refine lv_iload_n hx hb d_M_paysOf_29 rfl (lv_at hl 0 rfl) ?_
    refine lv_iadd hx hb d_M_paysOf_30 ?_
    obtain ⟨hi1, h⟩ := chk_some h
    refine g_iald (j := ix ((10 * x1) + z2.1)) C hG (hG.lt (Nat.le_of_ble_eq_true rfl)) (ce58 w _) (inb_in hi1) rfl d_M_paysOf_31 ?_
    exact J32 _ _ _ h ls _ _ hG (lv_sub hl [1, 2] rfl)
  · replace h := it_t h hc
    refine lv_iconst (v := 0) hx hb d_M_paysOf_17 (by decide) ?_
    refine lv_goto (tgt := 32) hx hb d_M_paysOf_18 (by decide) ?_
    exact J32 _ _ _ h ls _ _ hG (lv_sub hl [1, 2] rfl)
theorem d_M_pays_0 : decode b_M_pays 0 = .ok (.iload_n 1, 1) := by decide +kernel
theorem d_M_pays_1 : decode b_M_pays 1 = .ok (.invokestatic 140, 3) := by decide +kernel
theorem d_M_pays_4 : decode b_M_pays 4 = .ok (.ifCond .eq 11, 3) := by decide +kernel
theorem d_M_pays_7 : decode b_M_pays 7 = .ok (.aload_n 0, 1) := by decide +kernel
theorem d_M_pays_8 : decode b_M_pays 8 = .ok (.iload_n 1, 1) := by decide +kernel
theorem d_M_pays_9 : decode b_M_pays 9 = .ok (.invokevirtual 232, 3) := by decide +kernel
theorem d_M_pays_12 : decode b_M_pays 12 = .ok (.goto 5, 3) := by decide +kernel
theorem d_M_pays_15 : decode b_M_pays 15 = .ok (.bipush (-2), 2) := by decide +kernel
theorem d_M_pays_17 : decode b_M_pays 17 = .ok (.ireturn, 1) := by decide +kernel
noncomputable def M_pays (S : St) (x1 : Int32) : Option (Int32 × St) :=
  if (M_isBidder x1) = 0 then
      some ((-2), S)
    else
      bnd (M_paysOf S x1) fun z1 =>
      some (z1.1, z1.2)
set_option maxHeartbeats 4000000 in
set_option maxRecDepth 100000 in
theorem c_M_pays (l : Launch) (w : gw) (S : St) (x1 : Int32)  {z : Int32 × St} (h : (M_pays S x1) = some z) : gMi l w y_M_pays b_M_pays 2 (some .int) (rmm 4 95) [.ref (gad w 49), .int x1] S z.1 z.2 := by
  unfold M_pays at h
  refine g_met (Qc := gQi w z.1 z.2) (by decide +kernel) (Nat.le_of_ble_eq_true rfl) ?_
  intro p e s m args below meth c A Q ls hQ C hG hl
  have hx := C.1
  have hb := C.2.1
  have hl : lv_has ls 2 [(0, .ref (gad w 49)), (1, .int x1)] := hl
  refine lv_iload_n hx hb d_M_pays_0 rfl (lv_at hl 1 rfl) ?_
  refine g_goi hG (g_runS (As := [.int x1]) (rest := []) C hG (c_M_isBidder l w S x1 _) sw_M_140 rfl rfl ⟨by decide, by decide⟩ rfl hl.1 rfl (Nat.le_of_ble_eq_true rfl) d_M_pays_1 ⟨Nat.zero_le _, Nat.zero_le _⟩) (fun H locs hG => ?_)
  refine lv_if_eq (tgt := 15) hx hb d_M_pays_4 (by decide) (fun hc => ?_) (fun hc => ?_)
  · replace h := it_t h hc
    refine lv_bipush (v := (-2)) hx hb d_M_pays_15 (by decide) ?_
    exact g_iret C hG (sm_fst h) (sm_snd h) hQ d_M_pays_17
  · replace h := it_f h hc
    refine lv_aload_n hx hb d_M_pays_7 rfl (lv_at hl 0 rfl) ?_
    refine lv_iload_n hx hb d_M_pays_8 rfl (lv_at hl 1 rfl) ?_
    obtain ⟨z1, hz1, h⟩ := bnd_some h
    refine g_goi hG (g_runV (As := [.int x1]) (rest := []) C hG (c_M_paysOf l w S x1 hz1 _) (hG.lt (Nat.le_of_ble_eq_true rfl)) (ce49 w _) rfl vw_M_232 rfl rfl ⟨by decide, by decide⟩ rfl hl.1 rfl (Nat.le_of_ble_eq_true rfl) d_M_pays_9 ⟨Nat.zero_le _, Nat.zero_le _⟩) (fun H locs hG => ?_)
    refine lv_goto (tgt := 17) hx hb d_M_pays_12 (by decide) ?_
    exact g_iret C hG (sm_fst h) (sm_snd h) hQ d_M_pays_17
theorem d_M_clubOf_0 : decode b_M_clubOf 0 = .ok (.iconst 0, 1) := by decide +kernel
theorem d_M_clubOf_1 : decode b_M_clubOf 1 = .ok (.istore_n 2, 1) := by decide +kernel
theorem d_M_clubOf_2 : decode b_M_clubOf 2 = .ok (.iconst 0, 1) := by decide +kernel
theorem d_M_clubOf_3 : decode b_M_clubOf 3 = .ok (.istore_n 3, 1) := by decide +kernel
theorem d_M_clubOf_4 : decode b_M_clubOf 4 = .ok (.iload_n 3, 1) := by decide +kernel
theorem d_M_clubOf_5 : decode b_M_clubOf 5 = .ok (.bipush 10, 2) := by decide +kernel
theorem d_M_clubOf_7 : decode b_M_clubOf 7 = .ok (.if_icmp .ge 82, 3) := by decide +kernel
theorem d_M_clubOf_10 : decode b_M_clubOf 10 = .ok (.iconst 0, 1) := by decide +kernel
theorem d_M_clubOf_11 : decode b_M_clubOf 11 = .ok (.istore 4, 2) := by decide +kernel
theorem d_M_clubOf_13 : decode b_M_clubOf 13 = .ok (.iconst 0, 1) := by decide +kernel
theorem d_M_clubOf_14 : decode b_M_clubOf 14 = .ok (.istore 5, 2) := by decide +kernel
theorem d_M_clubOf_16 : decode b_M_clubOf 16 = .ok (.iload 5, 2) := by decide +kernel
theorem d_M_clubOf_18 : decode b_M_clubOf 18 = .ok (.iconst 5, 1) := by decide +kernel
theorem d_M_clubOf_19 : decode b_M_clubOf 19 = .ok (.if_icmp .ge 59, 3) := by decide +kernel
theorem d_M_clubOf_22 : decode b_M_clubOf 22 = .ok (.iload_n 1, 1) := by decide +kernel
theorem d_M_clubOf_23 : decode b_M_clubOf 23 = .ok (.iload 5, 2) := by decide +kernel
theorem d_M_clubOf_25 : decode b_M_clubOf 25 = .ok (.invokestatic 190, 3) := by decide +kernel
theorem d_M_clubOf_28 : decode b_M_clubOf 28 = .ok (.ifCond .eq 25, 3) := by decide +kernel
theorem d_M_clubOf_31 : decode b_M_clubOf 31 = .ok (.aload_n 0, 1) := by decide +kernel
theorem d_M_clubOf_32 : decode b_M_clubOf 32 = .ok (.getfield 34, 3) := by decide +kernel
theorem d_M_clubOf_35 : decode b_M_clubOf 35 = .ok (.bipush 10, 2) := by decide +kernel
theorem d_M_clubOf_37 : decode b_M_clubOf 37 = .ok (.iload 5, 2) := by decide +kernel
theorem d_M_clubOf_39 : decode b_M_clubOf 39 = .ok (.imul, 1) := by decide +kernel
theorem d_M_clubOf_40 : decode b_M_clubOf 40 = .ok (.iload_n 3, 1) := by decide +kernel
theorem d_M_clubOf_41 : decode b_M_clubOf 41 = .ok (.iadd, 1) := by decide +kernel
theorem d_M_clubOf_42 : decode b_M_clubOf 42 = .ok (.iaload, 1) := by decide +kernel
theorem d_M_clubOf_43 : decode b_M_clubOf 43 = .ok (.aload_n 0, 1) := by decide +kernel
theorem d_M_clubOf_44 : decode b_M_clubOf 44 = .ok (.getfield 40, 3) := by decide +kernel
theorem d_M_clubOf_47 : decode b_M_clubOf 47 = .ok (.iload_n 3, 1) := by decide +kernel
theorem d_M_clubOf_48 : decode b_M_clubOf 48 = .ok (.iaload, 1) := by decide +kernel
theorem d_M_clubOf_49 : decode b_M_clubOf 49 = .ok (.isub, 1) := by decide +kernel
theorem d_M_clubOf_50 : decode b_M_clubOf 50 = .ok (.goto 4, 3) := by decide +kernel
theorem d_M_clubOf_53 : decode b_M_clubOf 53 = .ok (.iconst 0, 1) := by decide +kernel
theorem d_M_clubOf_54 : decode b_M_clubOf 54 = .ok (.istore 6, 2) := by decide +kernel
theorem d_M_clubOf_56 : decode b_M_clubOf 56 = .ok (.iload 6, 2) := by decide +kernel
theorem d_M_clubOf_58 : decode b_M_clubOf 58 = .ok (.iload 4, 2) := by decide +kernel
theorem d_M_clubOf_60 : decode b_M_clubOf 60 = .ok (.if_icmp .le 8, 3) := by decide +kernel
theorem d_M_clubOf_63 : decode b_M_clubOf 63 = .ok (.iload 6, 2) := by decide +kernel
theorem d_M_clubOf_65 : decode b_M_clubOf 65 = .ok (.goto 5, 3) := by decide +kernel
theorem d_M_clubOf_68 : decode b_M_clubOf 68 = .ok (.iload 4, 2) := by decide +kernel
theorem d_M_clubOf_70 : decode b_M_clubOf 70 = .ok (.istore 4, 2) := by decide +kernel
theorem d_M_clubOf_72 : decode b_M_clubOf 72 = .ok (.iinc 5 1, 3) := by decide +kernel
theorem d_M_clubOf_75 : decode b_M_clubOf 75 = .ok (.goto (-59), 3) := by decide +kernel
theorem d_M_clubOf_78 : decode b_M_clubOf 78 = .ok (.iload_n 2, 1) := by decide +kernel
theorem d_M_clubOf_79 : decode b_M_clubOf 79 = .ok (.iload 4, 2) := by decide +kernel
theorem d_M_clubOf_81 : decode b_M_clubOf 81 = .ok (.iadd, 1) := by decide +kernel
theorem d_M_clubOf_82 : decode b_M_clubOf 82 = .ok (.istore_n 2, 1) := by decide +kernel
theorem d_M_clubOf_83 : decode b_M_clubOf 83 = .ok (.iinc 3 1, 3) := by decide +kernel
theorem d_M_clubOf_86 : decode b_M_clubOf 86 = .ok (.goto (-82), 3) := by decide +kernel
theorem d_M_clubOf_89 : decode b_M_clubOf 89 = .ok (.iload_n 2, 1) := by decide +kernel
theorem d_M_clubOf_90 : decode b_M_clubOf 90 = .ok (.ireturn, 1) := by decide +kernel
noncomputable def M_clubOf_J54 (S : St) (x1 : Int32) (x2 : Int32) (x3 : Int32) (x4 : Int32) (x5 : Int32) (t0 : Int32) : Option ((Int32 × Int32) × Nat) :=
  if t0 ≤ x4 then
      some ((x4, x5 + 1), 0)
    else
      some ((t0, x5 + 1), 0)
noncomputable def M_clubOf_L16 (S : St) (x1 : Int32) (x2 : Int32) (x3 : Int32) (x4 : Int32) (x5 : Int32) : Option ((Int32 × Int32) × Nat) :=
  if 5 ≤ x5 then
      some ((x4, x5), 1)
    else
      if (M_isIn x1 x5) = 0 then
        M_clubOf_J54 S x1 x2 x3 x4 x5 0
      else
        chk (inb ((10 * x5) + x3) 50) <|
        chk (inb x3 10) <|
        M_clubOf_J54 S x1 x2 x3 x4 x5 ((S 58 (ix ((10 * x5) + x3))) - (S 60 (ix x3)))
noncomputable def M_clubOf_J78 (S : St) (x1 : Int32) (x2 : Int32) (x3 : Int32) (x4 : Int32) : Option ((Int32 × Int32) × Nat) :=
  some ((x2 + x4, x3 + 1), 0)
noncomputable def M_clubOf_L4 (S : St) (x1 : Int32) (x2 : Int32) (x3 : Int32) : Option ((Int32 × Int32) × Nat) :=
  if 10 ≤ x3 then
      some ((x2, x3), 1)
    else
      bnd (lp (σ := Int32 × Int32) (fun q => M_clubOf_L16 S x1 x2 x3 q.1 q.2) FZ (0, 0)) fun z1 =>
      M_clubOf_J78 S x1 x2 x3 z1.1.1
noncomputable def M_clubOf_J89 (S : St) (x2 : Int32) : Option (Int32) :=
  some x2
noncomputable def M_clubOf (S : St) (x1 : Int32) : Option (Int32) :=
  bnd (lp (σ := Int32 × Int32) (fun q => M_clubOf_L4 S x1 q.1 q.2) FZ (0, 0)) fun z2 =>
    M_clubOf_J89 S z2.1.1
set_option maxHeartbeats 4000000 in
set_option maxRecDepth 100000 in
theorem L_M_clubOf_16 (C : gCx p s m args meth c y_M_clubOf.cls b_M_clubOf 7 (some .int)) : ∀ (S : St) (x1 : Int32) (x2 : Int32) (x3 : Int32) (n : Nat) (x4 : Int32) (x5 : Int32) (r : (Int32 × Int32) × Nat), lp (σ := Int32 × Int32) (fun q => M_clubOf_L16 S x1 x2 x3 q.1 q.2) n (x4, x5) = some r → (∀ (y4 : Int32) (y5 : Int32), r = ((y4, y5), 1) → ∀ (ls : Array Slot) (H : Heap) (locs : List Loc), GH w s A S H locs → lv_has ls 7 [(0, .ref (gad w 49)), (1, .int x1), (2, .int x2), (3, .int x3), (4, .int y4)] → W p l e (rmm 1 21) s m args below meth c H locs 0 0 Q (F0 m 78 ls [])) → ∀ (ls : Array Slot) (H : Heap) (locs : List Loc), GH w s A S H locs → lv_has ls 7 [(0, .ref (gad w 49)), (1, .int x1), (2, .int x2), (3, .int x3), (4, .int x4), (5, .int x5)] → W p l e (rmm 1 21) s m args below meth c H locs 0 0 Q (F0 m 16 ls []) := by
  have hx := C.1
  have hb := C.2.1
  intro S x1 x2 x3 n
  induction n with
  | zero => intro x4 x5 r h; cases h
  | succ n ih =>
    intro x4 x5 r h k1 ls H locs hG hl
    obtain ⟨z, h, hr⟩ := lp_succ h
    have h : M_clubOf_L16 S x1 x2 x3 x4 x5 = some z := h
    have J54 : ∀ (x4 : Int32) (x5 : Int32) (t0 : Int32), M_clubOf_J54 S x1 x2 x3 x4 x5 t0 = some z → ∀ (ls : Array Slot) (H : Heap) (locs : List Loc), GH w s A S H locs → lv_has ls 7 [(0, .ref (gad w 49)), (1, .int x1), (2, .int x2), (3, .int x3), (4, .int x4), (5, .int x5)] → W p l e (rmm 1 21) s m args below meth c H locs 0 0 Q (F0 m 54 ls [.int t0]) := by
      intro x4 x5 t0 h ls H locs hG hl
      unfold M_clubOf_J54 at h
      refine lv_istore (lv' := [(6, .int t0), (0, .ref (gad w 49)), (1, .int x1), (2, .int x2), (3, .int x3), (4, .int x4), (5, .int x5)]) hx hb d_M_clubOf_54 hl (by decide) rfl (fun ls hl => ?_)
      refine lv_iload hx hb d_M_clubOf_56 (lv_at hl 0 rfl) ?_
      refine lv_iload hx hb d_M_clubOf_58 (lv_at hl 5 rfl) ?_
      refine lv_icmp_le (tgt := 68) hx hb d_M_clubOf_60 (by decide) (fun hc => ?_) (fun hc => ?_)
      · replace h := it_t h hc
        refine lv_iload hx hb d_M_clubOf_68 (lv_at hl 5 rfl) ?_
        refine lv_istore (lv' := [(4, .int x4), (6, .int t0), (0, .ref (gad w 49)), (1, .int x1), (2, .int x2), (3, .int x3), (5, .int x5)]) hx hb d_M_clubOf_70 hl (by decide) rfl (fun ls hl => ?_)
        refine lv_iinc (v := x5 + 1) (lv' := [(5, .int (x5 + 1)), (4, .int x4), (6, .int t0), (0, .ref (gad w 49)), (1, .int x1), (2, .int x2), (3, .int x3)]) hx hb d_M_clubOf_72 hl (k := 6) rfl (congrArg (HAdd.hAdd x5) (by decide : Int32.ofInt 1 = 1)) (by decide) rfl (fun ls hl => ?_)
        refine lv_goto (tgt := 16) hx hb d_M_clubOf_75 (by decide) ?_
        exact ih _ _ _ (lp_back h hr) k1 ls _ _ hG (lv_sub hl [3, 4, 5, 6, 1, 0] rfl)
      · replace h := it_f h hc
        refine lv_iload hx hb d_M_clubOf_63 (lv_at hl 0 rfl) ?_
        refine lv_goto (tgt := 70) hx hb d_M_clubOf_65 (by decide) ?_
        refine lv_istore (lv' := [(4, .int t0), (6, .int t0), (0, .ref (gad w 49)), (1, .int x1), (2, .int x2), (3, .int x3), (5, .int x5)]) hx hb d_M_clubOf_70 hl (by decide) rfl (fun ls hl => ?_)
        refine lv_iinc (v := x5 + 1) (lv' := [(5, .int (x5 + 1)), (4, .int t0), (6, .int t0), (0, .ref (gad w 49)), (1, .int x1), (2, .int x2), (3, .int x3)]) hx hb d_M_clubOf_72 hl (k := 6) rfl (congrArg (HAdd.hAdd x5) (by decide : Int32.ofInt 1 = 1)) (by decide) rfl (fun ls hl => ?_)
        refine lv_goto (tgt := 16) hx hb d_M_clubOf_75 (by decide) ?_
        exact ih _ _ _ (lp_back h hr) k1 ls _ _ hG (lv_sub hl [3, 4, 5, 6, 1, 0] rfl)
    unfold M_clubOf_L16 at h
    refine lv_iload hx hb d_M_clubOf_16 (lv_at hl 5 rfl) ?_
    refine lv_iconst (v := 5) hx hb d_M_clubOf_18 (by decide) ?_
    refine lv_icmp_ge (tgt := 78) hx hb d_M_clubOf_19 (by decide) (fun hc => ?_) (fun hc => ?_)
    · replace h := it_t h hc
      exact k1 _ _ (lp_exit h hr) ls _ _ hG (lv_sub hl [0, 1, 2, 3, 4] rfl)
    · replace h := it_f h hc
      refine lv_iload_n hx hb d_M_clubOf_22 rfl (lv_at hl 1 rfl) ?_
      refine lv_iload hx hb d_M_clubOf_23 (lv_at hl 5 rfl) ?_
      refine g_goi hG (g_runS (As := [.int x1, .int x5]) (rest := []) C hG (c_M_isIn l w S x1 x5 _) sw_M_190 rfl rfl ⟨by decide, by decide⟩ rfl hl.1 rfl (Nat.le_of_ble_eq_true rfl) d_M_clubOf_25 ⟨Nat.zero_le _, Nat.zero_le _⟩) (fun H locs hG => ?_)
      refine lv_if_eq (tgt := 53) hx hb d_M_clubOf_28 (by decide) (fun hc => ?_) (fun hc => ?_)
      · replace h := it_t h hc
        refine lv_iconst (v := 0) hx hb d_M_clubOf_53 (by decide) ?_
        exact J54 _ _ _ h ls _ _ hG (lv_sub hl [0, 1, 2, 3, 4, 5] rfl)
      · replace h := it_f h hc
        refine lv_aload_n hx hb d_M_clubOf_31 rfl (lv_at hl 0 rfl) ?_
        refine g_get C hG (hG.lt (Nat.le_of_ble_eq_true rfl)) (ce49 w _) rfl inC8 12 (Nat.le_of_ble_eq_true rfl) qw688 rfl d_M_clubOf_32 ?_
        refine lv_bipush (v := 10) hx hb d_M_clubOf_35 (by decide) ?_
        refine lv_iload hx hb d_M_clubOf_37 (lv_at hl 5 rfl) ?_
        refine lv_imul hx hb d_M_clubOf_39 ?_
        refine lv_iload_n hx hb d_M_clubOf_40 rfl (lv_at hl 3 rfl) ?_
        refine lv_iadd hx hb d_M_clubOf_41 ?_
        obtain ⟨hi1, h⟩ := chk_some h
        refine g_iald (j := ix ((10 * x5) + x3)) C hG (hG.lt (Nat.le_of_ble_eq_true rfl)) (ce58 w _) (inb_in hi1) rfl d_M_clubOf_42 ?_
        refine lv_aload_n hx hb d_M_clubOf_43 rfl (lv_at hl 0 rfl) ?_
        refine g_get C hG (hG.lt (Nat.le_of_ble_eq_true rfl)) (ce49 w _) rfl inC8 14 (Nat.le_of_ble_eq_true rfl) qw690 rfl d_M_clubOf_44 ?_
        refine lv_iload_n hx hb d_M_clubOf_47 rfl (lv_at hl 3 rfl) ?_
        obtain ⟨hi2, h⟩ := chk_some h
        refine g_iald (j := ix x3) C hG (hG.lt (Nat.le_of_ble_eq_true rfl)) (ce60 w _) (inb_in hi2) rfl d_M_clubOf_48 ?_
        refine lv_isub hx hb d_M_clubOf_49 ?_
        refine lv_goto (tgt := 54) hx hb d_M_clubOf_50 (by decide) ?_
        exact J54 _ _ _ h ls _ _ hG (lv_sub hl [0, 1, 2, 3, 4, 5] rfl)
set_option maxHeartbeats 4000000 in
set_option maxRecDepth 100000 in
theorem L_M_clubOf_4 (C : gCx p s m args meth c y_M_clubOf.cls b_M_clubOf 7 (some .int)) : ∀ (S : St) (x1 : Int32) (n : Nat) (x2 : Int32) (x3 : Int32) (r : (Int32 × Int32) × Nat), lp (σ := Int32 × Int32) (fun q => M_clubOf_L4 S x1 q.1 q.2) n (x2, x3) = some r → (∀ (y2 : Int32) (y3 : Int32), r = ((y2, y3), 1) → ∀ (ls : Array Slot) (H : Heap) (locs : List Loc), GH w s A S H locs → lv_has ls 7 [(2, .int y2)] → W p l e (rmm 1 21) s m args below meth c H locs 0 0 Q (F0 m 89 ls [])) → ∀ (ls : Array Slot) (H : Heap) (locs : List Loc), GH w s A S H locs → lv_has ls 7 [(0, .ref (gad w 49)), (1, .int x1), (2, .int x2), (3, .int x3)] → W p l e (rmm 1 21) s m args below meth c H locs 0 0 Q (F0 m 4 ls []) := by
  have hx := C.1
  have hb := C.2.1
  intro S x1 n
  induction n with
  | zero => intro x2 x3 r h; cases h
  | succ n ih =>
    intro x2 x3 r h k1 ls H locs hG hl
    obtain ⟨z, h, hr⟩ := lp_succ h
    have h : M_clubOf_L4 S x1 x2 x3 = some z := h
    have J78 : ∀ (x2 : Int32) (x3 : Int32) (x4 : Int32), M_clubOf_J78 S x1 x2 x3 x4 = some z → ∀ (ls : Array Slot) (H : Heap) (locs : List Loc), GH w s A S H locs → lv_has ls 7 [(0, .ref (gad w 49)), (1, .int x1), (2, .int x2), (3, .int x3), (4, .int x4)] → W p l e (rmm 1 21) s m args below meth c H locs 0 0 Q (F0 m 78 ls []) := by
      intro x2 x3 x4 h ls H locs hG hl
      unfold M_clubOf_J78 at h
      refine lv_iload_n hx hb d_M_clubOf_78 rfl (lv_at hl 2 rfl) ?_
      refine lv_iload hx hb d_M_clubOf_79 (lv_at hl 4 rfl) ?_
      refine lv_iadd hx hb d_M_clubOf_81 ?_
      refine lv_istore_n (lv' := [(2, .int (x2 + x4)), (0, .ref (gad w 49)), (1, .int x1), (3, .int x3), (4, .int x4)]) hx hb d_M_clubOf_82 rfl hl (by decide) rfl (fun ls hl => ?_)
      refine lv_iinc (v := x3 + 1) (lv' := [(3, .int (x3 + 1)), (2, .int (x2 + x4)), (0, .ref (gad w 49)), (1, .int x1), (4, .int x4)]) hx hb d_M_clubOf_83 hl (k := 3) rfl (congrArg (HAdd.hAdd x3) (by decide : Int32.ofInt 1 = 1)) (by decide) rfl (fun ls hl => ?_)
      refine lv_goto (tgt := 4) hx hb d_M_clubOf_86 (by decide) ?_
      exact ih _ _ _ (lp_back h hr) k1 ls _ _ hG (lv_sub hl [2, 3, 1, 0] rfl)
    unfold M_clubOf_L4 at h
    refine lv_iload_n hx hb d_M_clubOf_4 rfl (lv_at hl 3 rfl) ?_
    refine lv_bipush (v := 10) hx hb d_M_clubOf_5 (by decide) ?_
    refine lv_icmp_ge (tgt := 89) hx hb d_M_clubOf_7 (by decide) (fun hc => ?_) (fun hc => ?_)
    · replace h := it_t h hc
      exact k1 _ _ (lp_exit h hr) ls _ _ hG (lv_sub hl [2] rfl)
    · replace h := it_f h hc
      refine lv_iconst (v := 0) hx hb d_M_clubOf_10 (by decide) ?_
      refine lv_istore (lv' := [(4, .int 0), (0, .ref (gad w 49)), (1, .int x1), (2, .int x2), (3, .int x3)]) hx hb d_M_clubOf_11 hl (by decide) rfl (fun ls hl => ?_)
      refine lv_iconst (v := 0) hx hb d_M_clubOf_13 (by decide) ?_
      refine lv_istore (lv' := [(5, .int 0), (4, .int 0), (0, .ref (gad w 49)), (1, .int x1), (2, .int x2), (3, .int x3)]) hx hb d_M_clubOf_14 hl (by decide) rfl (fun ls hl => ?_)
      obtain ⟨z1, hz1, h⟩ := bnd_some h
      refine L_M_clubOf_16 C _ _ _ _ FZ _ _ _ hz1 ?_ ls _ _ hG (lv_sub hl [2, 3, 4, 5, 1, 0] rfl)
      intro y4 y5 e9 ls H locs hG hl
      subst e9
      exact J78 _ _ _ h ls _ _ hG (lv_sub hl [0, 1, 2, 3, 4] rfl)
set_option maxHeartbeats 4000000 in
set_option maxRecDepth 100000 in
theorem c_M_clubOf (l : Launch) (w : gw) (S : St) (x1 : Int32)  {z : Int32} (h : (M_clubOf S x1) = some z) : gMi l w y_M_clubOf b_M_clubOf 7 (some .int) (rmm 1 21) [.ref (gad w 49), .int x1] S z S := by
  unfold M_clubOf at h
  refine g_met (Qc := gQi w z S) (by decide +kernel) (Nat.le_of_ble_eq_true rfl) ?_
  intro p e s m args below meth c A Q ls hQ C hG hl
  have hx := C.1
  have hb := C.2.1
  have hl : lv_has ls 7 [(0, .ref (gad w 49)), (1, .int x1)] := hl
  have J89 : ∀ (x2 : Int32), M_clubOf_J89 S x2 = some z → ∀ (ls : Array Slot) (H : Heap) (locs : List Loc), GH w s A S H locs → lv_has ls 7 [(2, .int x2)] → W p l e (rmm 1 21) s m args below meth c H locs 0 0 Q (F0 m 89 ls []) := by
    intro x2 h ls H locs hG hl
    unfold M_clubOf_J89 at h
    refine lv_iload_n hx hb d_M_clubOf_89 rfl (lv_at hl 0 rfl) ?_
    exact g_iret C hG (Option.some.inj h) rfl hQ d_M_clubOf_90
  refine lv_iconst (v := 0) hx hb d_M_clubOf_0 (by decide) ?_
  refine lv_istore_n (lv' := [(2, .int 0), (0, .ref (gad w 49)), (1, .int x1)]) hx hb d_M_clubOf_1 rfl hl (by decide) rfl (fun ls hl => ?_)
  refine lv_iconst (v := 0) hx hb d_M_clubOf_2 (by decide) ?_
  refine lv_istore_n (lv' := [(3, .int 0), (2, .int 0), (0, .ref (gad w 49)), (1, .int x1)]) hx hb d_M_clubOf_3 rfl hl (by decide) rfl (fun ls hl => ?_)
  obtain ⟨z2, hz2, h⟩ := bnd_some h
  refine L_M_clubOf_4 C _ _ FZ _ _ _ hz2 ?_ ls _ _ hG (lv_sub hl [2, 3, 1, 0] rfl)
  intro y2 y3 e9 ls H locs hG hl
  subst e9
  exact J89 _ h ls _ _ hG (lv_sub hl [0] rfl)
theorem d_M_club_0 : decode b_M_club 0 = .ok (.iload_n 1, 1) := by decide +kernel
theorem d_M_club_1 : decode b_M_club 1 = .ok (.i2l, 1) := by decide +kernel
theorem d_M_club_2 : decode b_M_club 2 = .ok (.lconst 0, 1) := by decide +kernel
theorem d_M_club_3 : decode b_M_club 3 = .ok (.ldc2_w 219, 3) := by decide +kernel
theorem d_M_club_6 : decode b_M_club 6 = .ok (.invokestatic 82, 3) := by decide +kernel
theorem d_M_club_9 : decode b_M_club 9 = .ok (.ifCond .eq 11, 3) := by decide +kernel
theorem d_M_club_12 : decode b_M_club 12 = .ok (.aload_n 0, 1) := by decide +kernel
theorem d_M_club_13 : decode b_M_club 13 = .ok (.iload_n 1, 1) := by decide +kernel
theorem d_M_club_14 : decode b_M_club 14 = .ok (.invokevirtual 235, 3) := by decide +kernel
theorem d_M_club_17 : decode b_M_club 17 = .ok (.goto 5, 3) := by decide +kernel
theorem d_M_club_20 : decode b_M_club 20 = .ok (.bipush (-2), 2) := by decide +kernel
theorem d_M_club_22 : decode b_M_club 22 = .ok (.ireturn, 1) := by decide +kernel
noncomputable def M_club (S : St) (x1 : Int32) : Option (Int32) :=
  if (M_in x1.toInt64 0 31) = 0 then
      some (-2)
    else
      bnd (M_clubOf S x1) fun z1 =>
      some z1
set_option maxHeartbeats 4000000 in
set_option maxRecDepth 100000 in
theorem c_M_club (l : Launch) (w : gw) (S : St) (x1 : Int32)  {z : Int32} (h : (M_club S x1) = some z) : gMi l w y_M_club b_M_club 2 (some .int) (rmm 2 47) [.ref (gad w 49), .int x1] S z S := by
  unfold M_club at h
  refine g_met (Qc := gQi w z S) (by decide +kernel) (Nat.le_of_ble_eq_true rfl) ?_
  intro p e s m args below meth c A Q ls hQ C hG hl
  have hx := C.1
  have hb := C.2.1
  have hl : lv_has ls 2 [(0, .ref (gad w 49)), (1, .int x1)] := hl
  refine lv_iload_n hx hb d_M_club_0 rfl (lv_at hl 1 rfl) ?_
  refine lv_i2l (v := x1.toInt64) hx hb d_M_club_1 rfl ?_
  refine lv_lconst (v := 0) hx hb d_M_club_2 (by decide) ?_
  refine lv_ldc2 (v := 31) hx hb C.2.2.2.1 (C.2.2.2.2.1 _ qw987) d_M_club_3 ?_
  refine g_goi hG (g_runS (As := [.long x1.toInt64, .long 0, .long 31]) (rest := []) C hG (c_M_in l w S x1.toInt64 0 31 _) sw_M_82 rfl rfl ⟨by decide, by decide⟩ rfl hl.1 rfl (Nat.le_of_ble_eq_true rfl) d_M_club_6 ⟨Nat.zero_le _, Nat.zero_le _⟩) (fun H locs hG => ?_)
  refine lv_if_eq (tgt := 20) hx hb d_M_club_9 (by decide) (fun hc => ?_) (fun hc => ?_)
  · replace h := it_t h hc
    refine lv_bipush (v := (-2)) hx hb d_M_club_20 (by decide) ?_
    exact g_iret C hG (Option.some.inj h) rfl hQ d_M_club_22
  · replace h := it_f h hc
    refine lv_aload_n hx hb d_M_club_12 rfl (lv_at hl 0 rfl) ?_
    refine lv_iload_n hx hb d_M_club_13 rfl (lv_at hl 1 rfl) ?_
    obtain ⟨z1, hz1, h⟩ := bnd_some h
    refine g_goi hG (g_runV (As := [.int x1]) (rest := []) C hG (c_M_clubOf l w S x1 hz1 _) (hG.lt (Nat.le_of_ble_eq_true rfl)) (ce49 w _) rfl vw_M_235 rfl rfl ⟨by decide, by decide⟩ rfl hl.1 rfl (Nat.le_of_ble_eq_true rfl) d_M_club_14 ⟨Nat.zero_le _, Nat.zero_le _⟩) (fun H locs hG => ?_)
    refine lv_goto (tgt := 22) hx hb d_M_club_17 (by decide) ?_
    exact g_iret C hG (Option.some.inj h) rfl hQ d_M_club_22
theorem d_M_part_0 : decode b_M_part 0 = .ok (.lload_n 0, 1) := by decide +kernel
theorem d_M_part_1 : decode b_M_part 1 = .ok (.lconst 0, 1) := by decide +kernel
theorem d_M_part_2 : decode b_M_part 2 = .ok (.lcmp, 1) := by decide +kernel
theorem d_M_part_3 : decode b_M_part 3 = .ok (.ifCond .ge 8, 3) := by decide +kernel
theorem d_M_part_6 : decode b_M_part 6 = .ok (.lload_n 0, 1) := by decide +kernel
theorem d_M_part_7 : decode b_M_part 7 = .ok (.lneg, 1) := by decide +kernel
theorem d_M_part_8 : decode b_M_part 8 = .ok (.goto 4, 3) := by decide +kernel
theorem d_M_part_11 : decode b_M_part 11 = .ok (.lload_n 0, 1) := by decide +kernel
theorem d_M_part_12 : decode b_M_part 12 = .ok (.lstore 5, 2) := by decide +kernel
theorem d_M_part_14 : decode b_M_part 14 = .ok (.lload_n 2, 1) := by decide +kernel
theorem d_M_part_15 : decode b_M_part 15 = .ok (.lstore 7, 2) := by decide +kernel
theorem d_M_part_17 : decode b_M_part 17 = .ok (.lload 7, 2) := by decide +kernel
theorem d_M_part_19 : decode b_M_part 19 = .ok (.lconst 0, 1) := by decide +kernel
theorem d_M_part_20 : decode b_M_part 20 = .ok (.lcmp, 1) := by decide +kernel
theorem d_M_part_21 : decode b_M_part 21 = .ok (.ifCond .eq 21, 3) := by decide +kernel
theorem d_M_part_24 : decode b_M_part 24 = .ok (.lload 5, 2) := by decide +kernel
theorem d_M_part_26 : decode b_M_part 26 = .ok (.lload 7, 2) := by decide +kernel
theorem d_M_part_28 : decode b_M_part 28 = .ok (.lrem, 1) := by decide +kernel
theorem d_M_part_29 : decode b_M_part 29 = .ok (.lstore 9, 2) := by decide +kernel
theorem d_M_part_31 : decode b_M_part 31 = .ok (.lload 7, 2) := by decide +kernel
theorem d_M_part_33 : decode b_M_part 33 = .ok (.lstore 5, 2) := by decide +kernel
theorem d_M_part_35 : decode b_M_part 35 = .ok (.lload 9, 2) := by decide +kernel
theorem d_M_part_37 : decode b_M_part 37 = .ok (.lstore 7, 2) := by decide +kernel
theorem d_M_part_39 : decode b_M_part 39 = .ok (.goto (-22), 3) := by decide +kernel
theorem d_M_part_42 : decode b_M_part 42 = .ok (.iload 4, 2) := by decide +kernel
theorem d_M_part_44 : decode b_M_part 44 = .ok (.ifCond .ne 7, 3) := by decide +kernel
theorem d_M_part_47 : decode b_M_part 47 = .ok (.lload_n 0, 1) := by decide +kernel
theorem d_M_part_48 : decode b_M_part 48 = .ok (.goto 4, 3) := by decide +kernel
theorem d_M_part_51 : decode b_M_part 51 = .ok (.lload_n 2, 1) := by decide +kernel
theorem d_M_part_52 : decode b_M_part 52 = .ok (.lload 5, 2) := by decide +kernel
theorem d_M_part_54 : decode b_M_part 54 = .ok (.ldiv, 1) := by decide +kernel
theorem d_M_part_55 : decode b_M_part 55 = .ok (.lreturn, 1) := by decide +kernel
noncomputable def M_part_L17 (x0 : Int64) (x2 : Int64) (x4 : Int32) (x5 : Int64) (x7 : Int64) : Option ((Int64 × Int64) × Nat) :=
  if (lg_cmp x7 0) = 0 then
      some ((x5, x7), 1)
    else
      chk (nz64 x7) <|
      some ((x7, x5 - x5 / x7 * x7), 0)
noncomputable def M_part_J42 (x0 : Int64) (x2 : Int64) (x4 : Int32) (x5 : Int64) : Option (Int64) :=
  if x4 = 0 then
      chk (nz64 x5) <|
      some (x0 / x5)
    else
      chk (nz64 x5) <|
      some (x2 / x5)
noncomputable def M_part_J12 (x0 : Int64) (x2 : Int64) (x4 : Int32) (t0 : Int64) : Option (Int64) :=
  bnd (lp (σ := Int64 × Int64) (fun q => M_part_L17 x0 x2 x4 q.1 q.2) FZ (t0, x2)) fun z1 =>
    M_part_J42 x0 x2 x4 z1.1.1
noncomputable def M_part (x0 : Int64) (x2 : Int64) (x4 : Int32) : Option (Int64) :=
  if 0 ≤ (lg_cmp x0 0) then
      M_part_J12 x0 x2 x4 x0
    else
      M_part_J12 x0 x2 x4 (-x0)
set_option maxHeartbeats 4000000 in
set_option maxRecDepth 100000 in
theorem L_M_part_17 (C : gCx p s m args meth c y_M_part.cls b_M_part 11 (some .long)) : ∀ (x0 : Int64) (x2 : Int64) (x4 : Int32) (n : Nat) (x5 : Int64) (x7 : Int64) (r : (Int64 × Int64) × Nat), lp (σ := Int64 × Int64) (fun q => M_part_L17 x0 x2 x4 q.1 q.2) n (x5, x7) = some r → (∀ (y5 : Int64) (y7 : Int64), r = ((y5, y7), 1) → ∀ (ls : Array Slot) (H : Heap) (locs : List Loc), GH w s A S H locs → lv_has ls 11 [(0, .long x0), (2, .long x2), (4, .int x4), (5, .long y5)] → W p l e (rmm 0 0) s m args below meth c H locs 0 0 Q (F0 m 42 ls [])) → ∀ (ls : Array Slot) (H : Heap) (locs : List Loc), GH w s A S H locs → lv_has ls 11 [(0, .long x0), (2, .long x2), (4, .int x4), (5, .long x5), (7, .long x7)] → W p l e (rmm 0 0) s m args below meth c H locs 0 0 Q (F0 m 17 ls []) := by
  have hx := C.1
  have hb := C.2.1
  intro x0 x2 x4 n
  induction n with
  | zero => intro x5 x7 r h; cases h
  | succ n ih =>
    intro x5 x7 r h k1 ls H locs hG hl
    obtain ⟨z, h, hr⟩ := lp_succ h
    have h : M_part_L17 x0 x2 x4 x5 x7 = some z := h
    unfold M_part_L17 at h
    refine lv_lload hx hb d_M_part_17 (lv_at hl 4 rfl) ?_
    refine lv_lconst (v := 0) hx hb d_M_part_19 (by decide) ?_
    refine W.lcmp hx hb d_M_part_20 ?_
    refine lv_if_eq (tgt := 42) hx hb d_M_part_21 (by decide) (fun hc => ?_) (fun hc => ?_)
    · replace h := it_t h hc
      exact k1 _ _ (lp_exit h hr) ls _ _ hG (lv_sub hl [0, 1, 2, 3] rfl)
    · replace h := it_f h hc
      refine lv_lload hx hb d_M_part_24 (lv_at hl 3 rfl) ?_
      refine lv_lload hx hb d_M_part_26 (lv_at hl 4 rfl) ?_
      obtain ⟨hi1, h⟩ := chk_some h
      refine lv_lrem hx hb d_M_part_28 (nz64_in hi1) ?_
      refine lv_lstore (lv' := [(9, .long (x5 - x5 / x7 * x7)), (0, .long x0), (2, .long x2), (4, .int x4), (5, .long x5), (7, .long x7)]) hx hb d_M_part_29 hl (by decide) rfl (fun ls hl => ?_)
      refine lv_lload hx hb d_M_part_31 (lv_at hl 5 rfl) ?_
      refine lv_lstore (lv' := [(5, .long x7), (9, .long (x5 - x5 / x7 * x7)), (0, .long x0), (2, .long x2), (4, .int x4), (7, .long x7)]) hx hb d_M_part_33 hl (by decide) rfl (fun ls hl => ?_)
      refine lv_lload hx hb d_M_part_35 (lv_at hl 1 rfl) ?_
      refine lv_lstore (lv' := [(7, .long (x5 - x5 / x7 * x7)), (5, .long x7), (9, .long (x5 - x5 / x7 * x7)), (0, .long x0), (2, .long x2), (4, .int x4)]) hx hb d_M_part_37 hl (by decide) rfl (fun ls hl => ?_)
      refine lv_goto (tgt := 17) hx hb d_M_part_39 (by decide) ?_
      exact ih _ _ _ (lp_back h hr) k1 ls _ _ hG (lv_sub hl [3, 4, 5, 1, 0] rfl)
set_option maxHeartbeats 4000000 in
set_option maxRecDepth 100000 in
theorem c_M_part (l : Launch) (w : gw) (S : St) (x0 : Int64) (x2 : Int64) (x4 : Int32)  {z : Int64} (h : (M_part x0 x2 x4) = some z) : gMl l w y_M_part b_M_part 11 (some .long) (rmm 0 0) [.long x0, .long x2, .int x4] S z S := by
  unfold M_part at h
  refine g_met (Qc := gQl w z S) (by decide +kernel) (Nat.le_of_ble_eq_true rfl) ?_
  intro p e s m args below meth c A Q ls hQ C hG hl
  have hx := C.1
  have hb := C.2.1
  have hl : lv_has ls 11 [(0, .long x0), (2, .long x2), (4, .int x4)] := hl
  have J42 : ∀ (x5 : Int64), M_part_J42 x0 x2 x4 x5 = some z → ∀ (ls : Array Slot) (H : Heap) (locs : List Loc), GH w s A S H locs → lv_has ls 11 [(0, .long x0), (2, .long x2), (4, .int x4), (5, .long x5)] → W p l e (rmm 0 0) s m args below meth c H locs 0 0 Q (F0 m 42 ls []) := by
    intro x5 h ls H locs hG hl
    unfold M_part_J42 at h
    refine lv_iload hx hb d_M_part_42 (lv_at hl 2 rfl) ?_
    refine lv_if_ne (tgt := 51) hx hb d_M_part_44 (by decide) (fun hc => ?_) (fun hc => ?_)
    · replace h := it_f h hc
      refine lv_lload_n hx hb d_M_part_51 rfl (lv_at hl 1 rfl) ?_
      refine lv_lload hx hb d_M_part_52 (lv_at hl 3 rfl) ?_
      obtain ⟨hi2, h⟩ := chk_some h
      refine lv_ldiv hx hb d_M_part_54 (nz64_in hi2) ?_
      exact g_lret C hG (Option.some.inj h) rfl hQ d_M_part_55
    · replace h := it_t h hc
      refine lv_lload_n hx hb d_M_part_47 rfl (lv_at hl 0 rfl) ?_
      refine lv_goto (tgt := 52) hx hb d_M_part_48 (by decide) ?_
      refine lv_lload hx hb d_M_part_52 (lv_at hl 3 rfl) ?_
      obtain ⟨hi3, h⟩ := chk_some h
      refine lv_ldiv hx hb d_M_part_54 (nz64_in hi3) ?_
      exact g_lret C hG (Option.some.inj h) rfl hQ d_M_part_55
  have J12 : ∀ (t0 : Int64), M_part_J12 x0 x2 x4 t0 = some z → ∀ (ls : Array Slot) (H : Heap) (locs : List Loc), GH w s A S H locs → lv_has ls 11 [(0, .long x0), (2, .long x2), (4, .int x4)] → W p l e (rmm 0 0) s m args below meth c H locs 0 0 Q (F0 m 12 ls [.long t0]) := by
    intro t0 h ls H locs hG hl
    unfold M_part_J12 at h
    refine lv_lstore (lv' := [(5, .long t0), (0, .long x0), (2, .long x2), (4, .int x4)]) hx hb d_M_part_12 hl (by decide) rfl (fun ls hl => ?_)
    refine lv_lload_n hx hb d_M_part_14 rfl (lv_at hl 2 rfl) ?_
    refine lv_lstore (lv' := [(7, .long x2), (5, .long t0), (0, .long x0), (2, .long x2), (4, .int x4)]) hx hb d_M_part_15 hl (by decide) rfl (fun ls hl => ?_)
    obtain ⟨z1, hz1, h⟩ := bnd_some h
    refine L_M_part_17 C _ _ _ FZ _ _ _ hz1 ?_ ls _ _ hG (lv_sub hl [2, 3, 4, 1, 0] rfl)
    intro y5 y7 e9 ls H locs hG hl
    subst e9
    exact J42 _ h ls _ _ hG (lv_sub hl [0, 1, 2, 3] rfl)
  refine lv_lload_n hx hb d_M_part_0 rfl (lv_at hl 0 rfl) ?_
  refine lv_lconst (v := 0) hx hb d_M_part_1 (by decide) ?_
  refine W.lcmp hx hb d_M_part_2 ?_
  refine lv_if_ge (tgt := 11) hx hb d_M_part_3 (by decide) (fun hc => ?_) (fun hc => ?_)
  · replace h := it_t h hc
    refine lv_lload_n hx hb d_M_part_11 rfl (lv_at hl 0 rfl) ?_
    exact J12 _ h ls _ _ hG (lv_sub hl [0, 1, 2] rfl)
  · replace h := it_f h hc
    refine lv_lload_n hx hb d_M_part_6 rfl (lv_at hl 0 rfl) ?_
    refine lv_lneg hx hb d_M_part_7 ?_
    refine lv_goto (tgt := 12) hx hb d_M_part_8 (by decide) ?_
    exact J12 _ h ls _ _ hG (lv_sub hl [0, 1, 2] rfl)
theorem d_M_shareOf_0 : decode b_M_shareOf 0 = .ok (.lconst 0, 1) := by decide +kernel
theorem d_M_shareOf_1 : decode b_M_shareOf 1 = .ok (.lstore_n 3, 1) := by decide +kernel
theorem d_M_shareOf_2 : decode b_M_shareOf 2 = .ok (.iconst 0, 1) := by decide +kernel
theorem d_M_shareOf_3 : decode b_M_shareOf 3 = .ok (.istore 5, 2) := by decide +kernel
theorem d_M_shareOf_5 : decode b_M_shareOf 5 = .ok (.iload 5, 2) := by decide +kernel
theorem d_M_shareOf_7 : decode b_M_shareOf 7 = .ok (.bipush 32, 2) := by decide +kernel
theorem d_M_shareOf_9 : decode b_M_shareOf 9 = .ok (.if_icmp .ge 80, 3) := by decide +kernel
theorem d_M_shareOf_12 : decode b_M_shareOf 12 = .ok (.iload 5, 2) := by decide +kernel
theorem d_M_shareOf_14 : decode b_M_shareOf 14 = .ok (.iload_n 1, 1) := by decide +kernel
theorem d_M_shareOf_15 : decode b_M_shareOf 15 = .ok (.invokestatic 190, 3) := by decide +kernel
theorem d_M_shareOf_18 : decode b_M_shareOf 18 = .ok (.ifCond .ne 65, 3) := by decide +kernel
theorem d_M_shareOf_21 : decode b_M_shareOf 21 = .ok (.iload 5, 2) := by decide +kernel
theorem d_M_shareOf_23 : decode b_M_shareOf 23 = .ok (.invokestatic 213, 3) := by decide +kernel
theorem d_M_shareOf_26 : decode b_M_shareOf 26 = .ok (.istore 6, 2) := by decide +kernel
theorem d_M_shareOf_28 : decode b_M_shareOf 28 = .ok (.iload 6, 2) := by decide +kernel
theorem d_M_shareOf_30 : decode b_M_shareOf 30 = .ok (.ifCond .eq 9, 3) := by decide +kernel
theorem d_M_shareOf_33 : decode b_M_shareOf 33 = .ok (.iload 6, 2) := by decide +kernel
theorem d_M_shareOf_35 : decode b_M_shareOf 35 = .ok (.iconst 4, 1) := by decide +kernel
theorem d_M_shareOf_36 : decode b_M_shareOf 36 = .ok (.if_icmp .ne 8, 3) := by decide +kernel
theorem d_M_shareOf_39 : decode b_M_shareOf 39 = .ok (.bipush 24, 2) := by decide +kernel
theorem d_M_shareOf_41 : decode b_M_shareOf 41 = .ok (.goto 15, 3) := by decide +kernel
theorem d_M_shareOf_44 : decode b_M_shareOf 44 = .ok (.iload 6, 2) := by decide +kernel
theorem d_M_shareOf_46 : decode b_M_shareOf 46 = .ok (.iconst 2, 1) := by decide +kernel
theorem d_M_shareOf_47 : decode b_M_shareOf 47 = .ok (.if_icmp .ne 7, 3) := by decide +kernel
theorem d_M_shareOf_50 : decode b_M_shareOf 50 = .ok (.iconst 4, 1) := by decide +kernel
theorem d_M_shareOf_51 : decode b_M_shareOf 51 = .ok (.goto 5, 3) := by decide +kernel
theorem d_M_shareOf_54 : decode b_M_shareOf 54 = .ok (.bipush 6, 2) := by decide +kernel
theorem d_M_shareOf_56 : decode b_M_shareOf 56 = .ok (.istore 7, 2) := by decide +kernel
theorem d_M_shareOf_58 : decode b_M_shareOf 58 = .ok (.lload_n 3, 1) := by decide +kernel
theorem d_M_shareOf_59 : decode b_M_shareOf 59 = .ok (.iload 7, 2) := by decide +kernel
theorem d_M_shareOf_61 : decode b_M_shareOf 61 = .ok (.i2l, 1) := by decide +kernel
theorem d_M_shareOf_62 : decode b_M_shareOf 62 = .ok (.aload_n 0, 1) := by decide +kernel
theorem d_M_shareOf_63 : decode b_M_shareOf 63 = .ok (.iload 5, 2) := by decide +kernel
theorem d_M_shareOf_65 : decode b_M_shareOf 65 = .ok (.iconst 1, 1) := by decide +kernel
theorem d_M_shareOf_66 : decode b_M_shareOf 66 = .ok (.iload_n 1, 1) := by decide +kernel
theorem d_M_shareOf_67 : decode b_M_shareOf 67 = .ok (.ishl, 1) := by decide +kernel
theorem d_M_shareOf_68 : decode b_M_shareOf 68 = .ok (.ior, 1) := by decide +kernel
theorem d_M_shareOf_69 : decode b_M_shareOf 69 = .ok (.invokevirtual 235, 3) := by decide +kernel
theorem d_M_shareOf_72 : decode b_M_shareOf 72 = .ok (.aload_n 0, 1) := by decide +kernel
theorem d_M_shareOf_73 : decode b_M_shareOf 73 = .ok (.iload 5, 2) := by decide +kernel
theorem d_M_shareOf_75 : decode b_M_shareOf 75 = .ok (.invokevirtual 235, 3) := by decide +kernel
theorem d_M_shareOf_78 : decode b_M_shareOf 78 = .ok (.isub, 1) := by decide +kernel
theorem d_M_shareOf_79 : decode b_M_shareOf 79 = .ok (.i2l, 1) := by decide +kernel
theorem d_M_shareOf_80 : decode b_M_shareOf 80 = .ok (.lmul, 1) := by decide +kernel
theorem d_M_shareOf_81 : decode b_M_shareOf 81 = .ok (.ladd, 1) := by decide +kernel
theorem d_M_shareOf_82 : decode b_M_shareOf 82 = .ok (.lstore_n 3, 1) := by decide +kernel
theorem d_M_shareOf_83 : decode b_M_shareOf 83 = .ok (.iinc 5 1, 3) := by decide +kernel
theorem d_M_shareOf_86 : decode b_M_shareOf 86 = .ok (.goto (-81), 3) := by decide +kernel
theorem d_M_shareOf_89 : decode b_M_shareOf 89 = .ok (.lload_n 3, 1) := by decide +kernel
theorem d_M_shareOf_90 : decode b_M_shareOf 90 = .ok (.ldc2_w 238, 3) := by decide +kernel
theorem d_M_shareOf_93 : decode b_M_shareOf 93 = .ok (.iload_n 2, 1) := by decide +kernel
theorem d_M_shareOf_94 : decode b_M_shareOf 94 = .ok (.invokestatic 240, 3) := by decide +kernel
theorem d_M_shareOf_97 : decode b_M_shareOf 97 = .ok (.lreturn, 1) := by decide +kernel
noncomputable def M_shareOf_J56 (S : St) (x1 : Int32) (x2 : Int32) (x3 : Int64) (x5 : Int32) (t0 : Int32) : Option ((Int64 × Int32) × Nat) :=
  bnd (M_clubOf S (x5 ||| ((1 : Int32) <<< (x1 &&& 31)))) fun z1 =>
    bnd (M_clubOf S x5) fun z2 =>
    some ((x3 + (t0.toInt64 * ((z1 - z2).toInt64)), x5 + 1), 0)
noncomputable def M_shareOf_J39 (S : St) (x1 : Int32) (x2 : Int32) (x3 : Int64) (x5 : Int32) : Option ((Int64 × Int32) × Nat) :=
  M_shareOf_J56 S x1 x2 x3 x5 24
noncomputable def M_shareOf_L5 (S : St) (x1 : Int32) (x2 : Int32) (x3 : Int64) (x5 : Int32) : Option ((Int64 × Int32) × Nat) :=
  if 32 ≤ x5 then
      some ((x3, x5), 1)
    else
      if (M_isIn x5 x1) = 0 then
        bnd (M_ones x5) fun z3 =>
        if z3 = 0 then
          M_shareOf_J39 S x1 x2 x3 x5
        else
          if z3 = 4 then
            M_shareOf_J39 S x1 x2 x3 x5
          else
            if z3 = 2 then
              M_shareOf_J56 S x1 x2 x3 x5 4
            else
              M_shareOf_J56 S x1 x2 x3 x5 6
      else
        some ((x3, x5 + 1), 0)
noncomputable def M_shareOf_J89 (S : St) (x2 : Int32) (x3 : Int64) : Option (Int64) :=
  bnd (M_part x3 120 x2) fun z4 =>
    some z4
noncomputable def M_shareOf (S : St) (x1 : Int32) (x2 : Int32) : Option (Int64) :=
  bnd (lp (σ := Int64 × Int32) (fun q => M_shareOf_L5 S x1 x2 q.1 q.2) FZ (0, 0)) fun z5 =>
    M_shareOf_J89 S x2 z5.1.1
set_option maxHeartbeats 4000000 in
set_option maxRecDepth 100000 in
theorem L_M_shareOf_5 (C : gCx p s m args meth c y_M_shareOf.cls b_M_shareOf 8 (some .long)) : ∀ (S : St) (x1 : Int32) (x2 : Int32) (n : Nat) (x3 : Int64) (x5 : Int32) (r : (Int64 × Int32) × Nat), lp (σ := Int64 × Int32) (fun q => M_shareOf_L5 S x1 x2 q.1 q.2) n (x3, x5) = some r → (∀ (y3 : Int64) (y5 : Int32), r = ((y3, y5), 1) → ∀ (ls : Array Slot) (H : Heap) (locs : List Loc), GH w s A S H locs → lv_has ls 8 [(2, .int x2), (3, .long y3)] → W p l e (rmm 2 47) s m args below meth c H locs 0 0 Q (F0 m 89 ls [])) → ∀ (ls : Array Slot) (H : Heap) (locs : List Loc), GH w s A S H locs → lv_has ls 8 [(0, .ref (gad w 49)), (1, .int x1), (2, .int x2), (3, .long x3), (5, .int x5)] → W p l e (rmm 2 47) s m args below meth c H locs 0 0 Q (F0 m 5 ls []) := by
  have hx := C.1
  have hb := C.2.1
  intro S x1 x2 n
  induction n with
  | zero => intro x3 x5 r h; cases h
  | succ n ih =>
    intro x3 x5 r h k1 ls H locs hG hl
    obtain ⟨z, h, hr⟩ := lp_succ h
    have h : M_shareOf_L5 S x1 x2 x3 x5 = some z := h
    have J56 : ∀ (x3 : Int64) (x5 : Int32) (t0 : Int32), M_shareOf_J56 S x1 x2 x3 x5 t0 = some z → ∀ (ls : Array Slot) (H : Heap) (locs : List Loc), GH w s A S H locs → lv_has ls 8 [(0, .ref (gad w 49)), (1, .int x1), (2, .int x2), (3, .long x3), (5, .int x5)] → W p l e (rmm 2 47) s m args below meth c H locs 0 0 Q (F0 m 56 ls [.int t0]) := by
      intro x3 x5 t0 h ls H locs hG hl
      unfold M_shareOf_J56 at h
      refine lv_istore (lv' := [(7, .int t0), (0, .ref (gad w 49)), (1, .int x1), (2, .int x2), (3, .long x3), (5, .int x5)]) hx hb d_M_shareOf_56 hl (by decide) rfl (fun ls hl => ?_)
      refine lv_lload_n hx hb d_M_shareOf_58 rfl (lv_at hl 4 rfl) ?_
      refine lv_iload hx hb d_M_shareOf_59 (lv_at hl 0 rfl) ?_
      refine lv_i2l (v := t0.toInt64) hx hb d_M_shareOf_61 rfl ?_
      refine lv_aload_n hx hb d_M_shareOf_62 rfl (lv_at hl 1 rfl) ?_
      refine lv_iload hx hb d_M_shareOf_63 (lv_at hl 5 rfl) ?_
      refine lv_iconst (v := 1) hx hb d_M_shareOf_65 (by decide) ?_
      refine lv_iload_n hx hb d_M_shareOf_66 rfl (lv_at hl 2 rfl) ?_
      refine lv_ishl hx hb d_M_shareOf_67 ?_
      refine lv_ior hx hb d_M_shareOf_68 ?_
      obtain ⟨z1, hz1, h⟩ := bnd_some h
      refine g_goi hG (g_runV (As := [.int (x5 ||| ((1 : Int32) <<< (x1 &&& 31)))]) (rest := [.long t0.toInt64, .long x3]) C hG (c_M_clubOf l w S (x5 ||| ((1 : Int32) <<< (x1 &&& 31))) hz1 _) (hG.lt (Nat.le_of_ble_eq_true rfl)) (ce49 w _) rfl vw_M_235 rfl rfl ⟨by decide, by decide⟩ rfl hl.1 rfl (Nat.le_of_ble_eq_true rfl) d_M_shareOf_69 ⟨Nat.zero_le _, Nat.zero_le _⟩) (fun H locs hG => ?_)
      refine lv_aload_n hx hb d_M_shareOf_72 rfl (lv_at hl 1 rfl) ?_
      refine lv_iload hx hb d_M_shareOf_73 (lv_at hl 5 rfl) ?_
      obtain ⟨z2, hz2, h⟩ := bnd_some h
      refine g_goi hG (g_runV (As := [.int x5]) (rest := [.int z1, .long t0.toInt64, .long x3]) C hG (c_M_clubOf l w S x5 hz2 _) (hG.lt (Nat.le_of_ble_eq_true rfl)) (ce49 w _) rfl vw_M_235 rfl rfl ⟨by decide, by decide⟩ rfl hl.1 rfl (Nat.le_of_ble_eq_true rfl) d_M_shareOf_75 ⟨Nat.zero_le _, Nat.zero_le _⟩) (fun H locs hG => ?_)
      refine lv_isub hx hb d_M_shareOf_78 ?_
      refine lv_i2l (v := (z1 - z2).toInt64) hx hb d_M_shareOf_79 rfl ?_
      refine lv_lmul hx hb d_M_shareOf_80 ?_
      refine lv_ladd hx hb d_M_shareOf_81 ?_
      refine lv_lstore_n (lv' := [(3, .long (x3 + (t0.toInt64 * ((z1 - z2).toInt64)))), (7, .int t0), (0, .ref (gad w 49)), (1, .int x1), (2, .int x2), (5, .int x5)]) hx hb d_M_shareOf_82 rfl hl (by decide) rfl (fun ls hl => ?_)
      refine lv_iinc (v := x5 + 1) (lv' := [(5, .int (x5 + 1)), (3, .long (x3 + (t0.toInt64 * ((z1 - z2).toInt64)))), (7, .int t0), (0, .ref (gad w 49)), (1, .int x1), (2, .int x2)]) hx hb d_M_shareOf_83 hl (k := 5) rfl (congrArg (HAdd.hAdd x5) (by decide : Int32.ofInt 1 = 1)) (by decide) rfl (fun ls hl => ?_)
      refine lv_goto (tgt := 5) hx hb d_M_shareOf_86 (by decide) ?_
      exact ih _ _ _ (lp_back h hr) k1 ls _ _ hG (lv_sub hl [3, 4, 5, 1, 0] rfl)
    have J39 : ∀ (x3 : Int64) (x5 : Int32), M_shareOf_J39 S x1 x2 x3 x5 = some z → ∀ (ls : Array Slot) (H : Heap) (locs : List Loc), GH w s A S H locs → lv_has ls 8 [(0, .ref (gad w 49)), (1, .int x1), (2, .int x2), (3, .long x3), (5, .int x5)] → W p l e (rmm 2 47) s m args below meth c H locs 0 0 Q (F0 m 39 ls []) := by
      intro x3 x5 h ls H locs hG hl
      unfold M_shareOf_J39 at h
      refine lv_bipush (v := 24) hx hb d_M_shareOf_39 (by decide) ?_
      refine lv_goto (tgt := 56) hx hb d_M_shareOf_41 (by decide) ?_
      exact J56 _ _ _ h ls _ _ hG (lv_sub hl [0, 1, 2, 3, 4] rfl)
    unfold M_shareOf_L5 at h
    refine lv_iload hx hb d_M_shareOf_5 (lv_at hl 4 rfl) ?_
    refine lv_bipush (v := 32) hx hb d_M_shareOf_7 (by decide) ?_
    refine lv_icmp_ge (tgt := 89) hx hb d_M_shareOf_9 (by decide) (fun hc => ?_) (fun hc => ?_)
    · replace h := it_t h hc
      exact k1 _ _ (lp_exit h hr) ls _ _ hG (lv_sub hl [2, 3] rfl)
    · replace h := it_f h hc
      refine lv_iload hx hb d_M_shareOf_12 (lv_at hl 4 rfl) ?_
      refine lv_iload_n hx hb d_M_shareOf_14 rfl (lv_at hl 1 rfl) ?_
      refine g_goi hG (g_runS (As := [.int x5, .int x1]) (rest := []) C hG (c_M_isIn l w S x5 x1 _) sw_M_190 rfl rfl ⟨by decide, by decide⟩ rfl hl.1 rfl (Nat.le_of_ble_eq_true rfl) d_M_shareOf_15 ⟨Nat.zero_le _, Nat.zero_le _⟩) (fun H locs hG => ?_)
      refine lv_if_ne (tgt := 83) hx hb d_M_shareOf_18 (by decide) (fun hc => ?_) (fun hc => ?_)
      · replace h := it_f h hc
        refine lv_iinc (v := x5 + 1) (lv' := [(5, .int (x5 + 1)), (0, .ref (gad w 49)), (1, .int x1), (2, .int x2), (3, .long x3)]) hx hb d_M_shareOf_83 hl (k := 4) rfl (congrArg (HAdd.hAdd x5) (by decide : Int32.ofInt 1 = 1)) (by decide) rfl (fun ls hl => ?_)
        refine lv_goto (tgt := 5) hx hb d_M_shareOf_86 (by decide) ?_
        exact ih _ _ _ (lp_back h hr) k1 ls _ _ hG (lv_sub hl [1, 2, 3, 4, 0] rfl)
      · replace h := it_t h hc
        refine lv_iload hx hb d_M_shareOf_21 (lv_at hl 4 rfl) ?_
        obtain ⟨z3, hz3, h⟩ := bnd_some h
        refine g_goi hG (g_runS (As := [.int x5]) (rest := []) C hG (c_M_ones l w S x5 hz3 _) sw_M_213 rfl rfl ⟨by decide, by decide⟩ rfl hl.1 rfl (Nat.le_of_ble_eq_true rfl) d_M_shareOf_23 ⟨Nat.zero_le _, Nat.zero_le _⟩) (fun H locs hG => ?_)
        refine lv_istore (lv' := [(6, .int z3), (0, .ref (gad w 49)), (1, .int x1), (2, .int x2), (3, .long x3), (5, .int x5)]) hx hb d_M_shareOf_26 hl (by decide) rfl (fun ls hl => ?_)
        refine lv_iload hx hb d_M_shareOf_28 (lv_at hl 0 rfl) ?_
        refine lv_if_eq (tgt := 39) hx hb d_M_shareOf_30 (by decide) (fun hc => ?_) (fun hc => ?_)
        · replace h := it_t h hc
          exact J39 _ _ h ls _ _ hG (lv_sub hl [1, 2, 3, 4, 5] rfl)
        · replace h := it_f h hc
          refine lv_iload hx hb d_M_shareOf_33 (lv_at hl 0 rfl) ?_
          refine lv_iconst (v := 4) hx hb d_M_shareOf_35 (by decide) ?_
          refine lv_icmp_ne (tgt := 44) hx hb d_M_shareOf_36 (by decide) (fun hc => ?_) (fun hc => ?_)
          · replace h := it_f h hc
            refine lv_iload hx hb d_M_shareOf_44 (lv_at hl 0 rfl) ?_
            refine lv_iconst (v := 2) hx hb d_M_shareOf_46 (by decide) ?_
            refine lv_icmp_ne (tgt := 54) hx hb d_M_shareOf_47 (by decide) (fun hc => ?_) (fun hc => ?_)
            · replace h := it_f h hc
              refine lv_bipush (v := 6) hx hb d_M_shareOf_54 (by decide) ?_
              exact J56 _ _ _ h ls _ _ hG (lv_sub hl [1, 2, 3, 4, 5] rfl)
            · replace h := it_t h hc
              refine lv_iconst (v := 4) hx hb d_M_shareOf_50 (by decide) ?_
              refine lv_goto (tgt := 56) hx hb d_M_shareOf_51 (by decide) ?_
              exact J56 _ _ _ h ls _ _ hG (lv_sub hl [1, 2, 3, 4, 5] rfl)
          · replace h := it_t h hc
            exact J39 _ _ h ls _ _ hG (lv_sub hl [1, 2, 3, 4, 5] rfl)
set_option maxHeartbeats 4000000 in
set_option maxRecDepth 100000 in
theorem c_M_shareOf (l : Launch) (w : gw) (S : St) (x1 : Int32) (x2 : Int32)  {z : Int64} (h : (M_shareOf S x1 x2) = some z) : gMl l w y_M_shareOf b_M_shareOf 8 (some .long) (rmm 2 47) [.ref (gad w 49), .int x1, .int x2] S z S := by
  unfold M_shareOf at h
  refine g_met (Qc := gQl w z S) (by decide +kernel) (Nat.le_of_ble_eq_true rfl) ?_
  intro p e s m args below meth c A Q ls hQ C hG hl
  have hx := C.1
  have hb := C.2.1
  have hl : lv_has ls 8 [(0, .ref (gad w 49)), (1, .int x1), (2, .int x2)] := hl
  have J89 : ∀ (x3 : Int64), M_shareOf_J89 S x2 x3 = some z → ∀ (ls : Array Slot) (H : Heap) (locs : List Loc), GH w s A S H locs → lv_has ls 8 [(2, .int x2), (3, .long x3)] → W p l e (rmm 2 47) s m args below meth c H locs 0 0 Q (F0 m 89 ls []) := by
    intro x3 h ls H locs hG hl
    unfold M_shareOf_J89 at h
    refine lv_lload_n hx hb d_M_shareOf_89 rfl (lv_at hl 1 rfl) ?_
    refine lv_ldc2 (v := 120) hx hb C.2.2.2.1 (C.2.2.2.2.1 _ qw1036) d_M_shareOf_90 ?_
    refine lv_iload_n hx hb d_M_shareOf_93 rfl (lv_at hl 0 rfl) ?_
    obtain ⟨z4, hz4, h⟩ := bnd_some h
    refine g_gol hG (g_runS (As := [.long x3, .long 120, .int x2]) (rest := []) C hG (c_M_part l w S x3 120 x2 hz4 _) sw_M_240 rfl rfl ⟨by decide, by decide⟩ rfl hl.1 rfl (Nat.le_of_ble_eq_true rfl) d_M_shareOf_94 ⟨Nat.zero_le _, Nat.zero_le _⟩) (fun H locs hG => ?_)
    exact g_lret C hG (Option.some.inj h) rfl hQ d_M_shareOf_97
  refine lv_lconst (v := 0) hx hb d_M_shareOf_0 (by decide) ?_
  refine lv_lstore_n (lv' := [(3, .long 0), (0, .ref (gad w 49)), (1, .int x1), (2, .int x2)]) hx hb d_M_shareOf_1 rfl hl (by decide) rfl (fun ls hl => ?_)
  refine lv_iconst (v := 0) hx hb d_M_shareOf_2 (by decide) ?_
  refine lv_istore (lv' := [(5, .int 0), (3, .long 0), (0, .ref (gad w 49)), (1, .int x1), (2, .int x2)]) hx hb d_M_shareOf_3 hl (by decide) rfl (fun ls hl => ?_)
  obtain ⟨z5, hz5, h⟩ := bnd_some h
  refine L_M_shareOf_5 C _ _ _ FZ _ _ _ hz5 ?_ ls _ _ hG (lv_sub hl [2, 3, 4, 1, 0] rfl)
  intro y3 y5 e9 ls H locs hG hl
  subst e9
  exact J89 _ h ls _ _ hG (lv_sub hl [0, 1] rfl)
theorem d_M_share_0 : decode b_M_share 0 = .ok (.iload_n 1, 1) := by decide +kernel
theorem d_M_share_1 : decode b_M_share 1 = .ok (.invokestatic 140, 3) := by decide +kernel
theorem d_M_share_4 : decode b_M_share 4 = .ok (.ifCond .eq 19, 3) := by decide +kernel
theorem d_M_share_7 : decode b_M_share 7 = .ok (.iload_n 2, 1) := by decide +kernel
theorem d_M_share_8 : decode b_M_share 8 = .ok (.invokestatic 143, 3) := by decide +kernel
theorem d_M_share_11 : decode b_M_share 11 = .ok (.ifCond .eq 12, 3) := by decide +kernel
theorem d_M_share_14 : decode b_M_share 14 = .ok (.aload_n 0, 1) := by decide +kernel
theorem d_M_share_15 : decode b_M_share 15 = .ok (.iload_n 1, 1) := by decide +kernel
theorem d_M_share_16 : decode b_M_share 16 = .ok (.iload_n 2, 1) := by decide +kernel
theorem d_M_share_17 : decode b_M_share 17 = .ok (.invokevirtual 244, 3) := by decide +kernel
theorem d_M_share_20 : decode b_M_share 20 = .ok (.goto 8, 3) := by decide +kernel
theorem d_M_share_23 : decode b_M_share 23 = .ok (.bipush (-2), 2) := by decide +kernel
theorem d_M_share_25 : decode b_M_share 25 = .ok (.invokestatic 248, 3) := by decide +kernel
theorem d_M_share_28 : decode b_M_share 28 = .ok (.lreturn, 1) := by decide +kernel
noncomputable def M_share_J23 (S : St) : Option (Int64) :=
  some (M_no (-2))
noncomputable def M_share (S : St) (x1 : Int32) (x2 : Int32) : Option (Int64) :=
  if (M_isBidder x1) = 0 then
      M_share_J23 S
    else
      if (M_isTwo x2) = 0 then
        M_share_J23 S
      else
        bnd (M_shareOf S x1 x2) fun z1 =>
        some z1
set_option maxHeartbeats 4000000 in
set_option maxRecDepth 100000 in
theorem c_M_share (l : Launch) (w : gw) (S : St) (x1 : Int32) (x2 : Int32)  {z : Int64} (h : (M_share S x1 x2) = some z) : gMl l w y_M_share b_M_share 3 (some .long) (rmm 3 74) [.ref (gad w 49), .int x1, .int x2] S z S := by
  unfold M_share at h
  refine g_met (Qc := gQl w z S) (by decide +kernel) (Nat.le_of_ble_eq_true rfl) ?_
  intro p e s m args below meth c A Q ls hQ C hG hl
  have hx := C.1
  have hb := C.2.1
  have hl : lv_has ls 3 [(0, .ref (gad w 49)), (1, .int x1), (2, .int x2)] := hl
  have J23 : M_share_J23 S = some z → ∀ (ls : Array Slot) (H : Heap) (locs : List Loc), GH w s A S H locs → lv_has ls 3 [] → W p l e (rmm 3 74) s m args below meth c H locs 0 0 Q (F0 m 23 ls []) := by
    intro  h ls H locs hG hl
    unfold M_share_J23 at h
    refine lv_bipush (v := (-2)) hx hb d_M_share_23 (by decide) ?_
    refine g_gol hG (g_runS (As := [.int (-2)]) (rest := []) C hG (c_M_no l w S (-2) _) sw_M_248 rfl rfl ⟨by decide, by decide⟩ rfl hl.1 rfl (Nat.le_of_ble_eq_true rfl) d_M_share_25 ⟨Nat.zero_le _, Nat.zero_le _⟩) (fun H locs hG => ?_)
    exact g_lret C hG (Option.some.inj h) rfl hQ d_M_share_28
  refine lv_iload_n hx hb d_M_share_0 rfl (lv_at hl 1 rfl) ?_
  refine g_goi hG (g_runS (As := [.int x1]) (rest := []) C hG (c_M_isBidder l w S x1 _) sw_M_140 rfl rfl ⟨by decide, by decide⟩ rfl hl.1 rfl (Nat.le_of_ble_eq_true rfl) d_M_share_1 ⟨Nat.zero_le _, Nat.zero_le _⟩) (fun H locs hG => ?_)
  refine lv_if_eq (tgt := 23) hx hb d_M_share_4 (by decide) (fun hc => ?_) (fun hc => ?_)
  · replace h := it_t h hc
    exact J23 h ls _ _ hG (lv_sub hl [] rfl)
  · replace h := it_f h hc
    refine lv_iload_n hx hb d_M_share_7 rfl (lv_at hl 2 rfl) ?_
    refine g_goi hG (g_runS (As := [.int x2]) (rest := []) C hG (c_M_isTwo l w S x2 _) sw_M_143 rfl rfl ⟨by decide, by decide⟩ rfl hl.1 rfl (Nat.le_of_ble_eq_true rfl) d_M_share_8 ⟨Nat.zero_le _, Nat.zero_le _⟩) (fun H locs hG => ?_)
    refine lv_if_eq (tgt := 23) hx hb d_M_share_11 (by decide) (fun hc => ?_) (fun hc => ?_)
    · replace h := it_t h hc
      exact J23 h ls _ _ hG (lv_sub hl [] rfl)
    · replace h := it_f h hc
      refine lv_aload_n hx hb d_M_share_14 rfl (lv_at hl 0 rfl) ?_
      refine lv_iload_n hx hb d_M_share_15 rfl (lv_at hl 1 rfl) ?_
      refine lv_iload_n hx hb d_M_share_16 rfl (lv_at hl 2 rfl) ?_
      obtain ⟨z1, hz1, h⟩ := bnd_some h
      refine g_gol hG (g_runV (As := [.int x1, .int x2]) (rest := []) C hG (c_M_shareOf l w S x1 x2 hz1 _) (hG.lt (Nat.le_of_ble_eq_true rfl)) (ce49 w _) rfl vw_M_244 rfl rfl ⟨by decide, by decide⟩ rfl hl.1 rfl (Nat.le_of_ble_eq_true rfl) d_M_share_17 ⟨Nat.zero_le _, Nat.zero_le _⟩) (fun H locs hG => ?_)
      refine lv_goto (tgt := 28) hx hb d_M_share_20 (by decide) ?_
      exact g_lret C hG (Option.some.inj h) rfl hQ d_M_share_28
theorem d_M_rather_0 : decode b_M_rather 0 = .ok (.iload_n 1, 1) := by decide +kernel
theorem d_M_rather_1 : decode b_M_rather 1 = .ok (.invokestatic 92, 3) := by decide +kernel
theorem d_M_rather_4 : decode b_M_rather 4 = .ok (.ifCond .ne 6, 3) := by decide +kernel
theorem d_M_rather_7 : decode b_M_rather 7 = .ok (.bipush (-2), 2) := by decide +kernel
theorem d_M_rather_9 : decode b_M_rather 9 = .ok (.ireturn, 1) := by decide +kernel
theorem d_M_rather_10 : decode b_M_rather 10 = .ok (.aload_n 0, 1) := by decide +kernel
theorem d_M_rather_11 : decode b_M_rather 11 = .ok (.getfield 7, 3) := by decide +kernel
theorem d_M_rather_14 : decode b_M_rather 14 = .ok (.iload_n 1, 1) := by decide +kernel
theorem d_M_rather_15 : decode b_M_rather 15 = .ok (.iaload, 1) := by decide +kernel
theorem d_M_rather_16 : decode b_M_rather 16 = .ok (.ifCond .ge 9, 3) := by decide +kernel
theorem d_M_rather_19 : decode b_M_rather 19 = .ok (.aload_n 0, 1) := by decide +kernel
theorem d_M_rather_20 : decode b_M_rather 20 = .ok (.iconst 1, 1) := by decide +kernel
theorem d_M_rather_21 : decode b_M_rather 21 = .ok (.invokevirtual 98, 3) := by decide +kernel
theorem d_M_rather_24 : decode b_M_rather 24 = .ok (.ireturn, 1) := by decide +kernel
theorem d_M_rather_25 : decode b_M_rather 25 = .ok (.aload_n 0, 1) := by decide +kernel
theorem d_M_rather_26 : decode b_M_rather 26 = .ok (.getfield 13, 3) := by decide +kernel
theorem d_M_rather_29 : decode b_M_rather 29 = .ok (.iload_n 1, 1) := by decide +kernel
theorem d_M_rather_30 : decode b_M_rather 30 = .ok (.iaload, 1) := by decide +kernel
theorem d_M_rather_31 : decode b_M_rather 31 = .ok (.iconst 5, 1) := by decide +kernel
theorem d_M_rather_32 : decode b_M_rather 32 = .ok (.if_icmp .ge 6, 3) := by decide +kernel
theorem d_M_rather_35 : decode b_M_rather 35 = .ok (.bipush (-3), 2) := by decide +kernel
theorem d_M_rather_37 : decode b_M_rather 37 = .ok (.ireturn, 1) := by decide +kernel
theorem d_M_rather_38 : decode b_M_rather 38 = .ok (.iconst 1, 1) := by decide +kernel
theorem d_M_rather_39 : decode b_M_rather 39 = .ok (.istore_n 2, 1) := by decide +kernel
theorem d_M_rather_40 : decode b_M_rather 40 = .ok (.iload_n 2, 1) := by decide +kernel
theorem d_M_rather_41 : decode b_M_rather 41 = .ok (.bipush 32, 2) := by decide +kernel
theorem d_M_rather_43 : decode b_M_rather 43 = .ok (.if_icmp .ge 68, 3) := by decide +kernel
theorem d_M_rather_46 : decode b_M_rather 46 = .ok (.lconst 0, 1) := by decide +kernel
theorem d_M_rather_47 : decode b_M_rather 47 = .ok (.lstore_n 3, 1) := by decide +kernel
theorem d_M_rather_48 : decode b_M_rather 48 = .ok (.iconst 0, 1) := by decide +kernel
theorem d_M_rather_49 : decode b_M_rather 49 = .ok (.istore 5, 2) := by decide +kernel
theorem d_M_rather_51 : decode b_M_rather 51 = .ok (.iload 5, 2) := by decide +kernel
theorem d_M_rather_53 : decode b_M_rather 53 = .ok (.iconst 5, 1) := by decide +kernel
theorem d_M_rather_54 : decode b_M_rather 54 = .ok (.if_icmp .ge 38, 3) := by decide +kernel
theorem d_M_rather_57 : decode b_M_rather 57 = .ok (.lload_n 3, 1) := by decide +kernel
theorem d_M_rather_58 : decode b_M_rather 58 = .ok (.iload_n 2, 1) := by decide +kernel
theorem d_M_rather_59 : decode b_M_rather 59 = .ok (.iload 5, 2) := by decide +kernel
theorem d_M_rather_61 : decode b_M_rather 61 = .ok (.invokestatic 190, 3) := by decide +kernel
theorem d_M_rather_64 : decode b_M_rather 64 = .ok (.ifCond .eq 19, 3) := by decide +kernel
theorem d_M_rather_67 : decode b_M_rather 67 = .ok (.aload_n 0, 1) := by decide +kernel
theorem d_M_rather_68 : decode b_M_rather 68 = .ok (.getfield 16, 3) := by decide +kernel
theorem d_M_rather_71 : decode b_M_rather 71 = .ok (.bipush 60, 2) := by decide +kernel
theorem d_M_rather_73 : decode b_M_rather 73 = .ok (.iload_n 1, 1) := by decide +kernel
theorem d_M_rather_74 : decode b_M_rather 74 = .ok (.imul, 1) := by decide +kernel
theorem d_M_rather_75 : decode b_M_rather 75 = .ok (.iload 5, 2) := by decide +kernel
theorem d_M_rather_77 : decode b_M_rather 77 = .ok (.iadd, 1) := by decide +kernel
theorem d_M_rather_78 : decode b_M_rather 78 = .ok (.iaload, 1) := by decide +kernel
theorem d_M_rather_79 : decode b_M_rather 79 = .ok (.i2l, 1) := by decide +kernel
theorem d_M_rather_80 : decode b_M_rather 80 = .ok (.goto 4, 3) := by decide +kernel
theorem d_M_rather_83 : decode b_M_rather 83 = .ok (.lconst 0, 1) := by decide +kernel
theorem d_M_rather_84 : decode b_M_rather 84 = .ok (.ladd, 1) := by decide +kernel
theorem d_M_rather_85 : decode b_M_rather 85 = .ok (.lstore_n 3, 1) := by decide +kernel
theorem d_M_rather_86 : decode b_M_rather 86 = .ok (.iinc 5 1, 3) := by decide +kernel
theorem d_M_rather_89 : decode b_M_rather 89 = .ok (.goto (-38), 3) := by decide +kernel
theorem d_M_rather_92 : decode b_M_rather 92 = .ok (.lload_n 3, 1) := by decide +kernel
theorem d_M_rather_93 : decode b_M_rather 93 = .ok (.aload_n 0, 1) := by decide +kernel
theorem d_M_rather_94 : decode b_M_rather 94 = .ok (.iload_n 2, 1) := by decide +kernel
theorem d_M_rather_95 : decode b_M_rather 95 = .ok (.invokevirtual 235, 3) := by decide +kernel
theorem d_M_rather_98 : decode b_M_rather 98 = .ok (.i2l, 1) := by decide +kernel
theorem d_M_rather_99 : decode b_M_rather 99 = .ok (.lcmp, 1) := by decide +kernel
theorem d_M_rather_100 : decode b_M_rather 100 = .ok (.ifCond .ge 5, 3) := by decide +kernel
theorem d_M_rather_103 : decode b_M_rather 103 = .ok (.iload_n 2, 1) := by decide +kernel
theorem d_M_rather_104 : decode b_M_rather 104 = .ok (.ireturn, 1) := by decide +kernel
theorem d_M_rather_105 : decode b_M_rather 105 = .ok (.iinc 2 1, 3) := by decide +kernel
theorem d_M_rather_108 : decode b_M_rather 108 = .ok (.goto (-68), 3) := by decide +kernel
theorem d_M_rather_111 : decode b_M_rather 111 = .ok (.iconst (-1), 1) := by decide +kernel
theorem d_M_rather_112 : decode b_M_rather 112 = .ok (.ireturn, 1) := by decide +kernel
noncomputable def M_rather_L51 (S : St) (x1 : Int32) (x2 : Int32) (x3 : Int64) (x5 : Int32) : Option ((Int64 × Int32) × Nat) :=
  if 5 ≤ x5 then
      some ((x3, x5), 1)
    else
      if (M_isIn x2 x5) = 0 then
        some ((x3 + 0, x5 + 1), 0)
      else
        chk (inb ((60 * x1) + x5) 240) <|
        some ((x3 + ((S 52 (ix ((60 * x1) + x5))).toInt64), x5 + 1), 0)
noncomputable def M_rather_J92 (S : St) (x1 : Int32) (x2 : Int32) (x3 : Int64) : Option ((Int32) × Nat) :=
  bnd (M_clubOf S x2) fun z1 =>
    if 0 ≤ (lg_cmp x3 z1.toInt64) then
      some ((x2 + 1), 0)
    else
      some (x2, 1)
noncomputable def M_rather_L40 (S : St) (x1 : Int32) (x2 : Int32) : Option ((Int32) × Nat) :=
  if 32 ≤ x2 then
      some (x2, 2)
    else
      bnd (lp (σ := Int64 × Int32) (fun q => M_rather_L51 S x1 x2 q.1 q.2) FZ (0, 0)) fun z2 =>
      M_rather_J92 S x1 x2 z2.1.1
noncomputable def M_rather_J111 (S : St) : Option (Int32 × St) :=
  some ((-1), S)
noncomputable def M_rather_J103 (S : St) (x2 : Int32) : Option (Int32 × St) :=
  some (x2, S)
noncomputable def M_rather (S : St) (x1 : Int32) : Option (Int32 × St) :=
  if (M_isSheet x1) = 0 then
      some ((-2), S)
    else
      chk (inb x1 4) <|
      if 0 ≤ (S 50 (ix x1)) then
        chk (inb x1 4) <|
        if 5 ≤ (S 51 (ix x1)) then
          bnd (lp (σ := Int32) (fun q => M_rather_L40 S x1 q) FZ 1) fun z3 =>
          if z3.2 = 1 then
            M_rather_J103 S z3.1
          else M_rather_J111 S
        else
          some ((-3), S)
      else
        bnd (M_met S 1) fun z4 =>
        some (z4.1, z4.2)
set_option maxHeartbeats 4000000 in
set_option maxRecDepth 100000 in
theorem L_M_rather_51 (C : gCx p s m args meth c y_M_rather.cls b_M_rather 6 (some .int)) : ∀ (S : St) (x1 : Int32) (x2 : Int32) (n : Nat) (x3 : Int64) (x5 : Int32) (r : (Int64 × Int32) × Nat), lp (σ := Int64 × Int32) (fun q => M_rather_L51 S x1 x2 q.1 q.2) n (x3, x5) = some r → (∀ (y3 : Int64) (y5 : Int32), r = ((y3, y5), 1) → ∀ (ls : Array Slot) (H : Heap) (locs : List Loc), GH w s A S H locs → lv_has ls 6 [(0, .ref (gad w 49)), (1, .int x1), (2, .int x2), (3, .long y3)] → W p l e (rmm 2 47) s m args below meth c H locs 0 0 Q (F0 m 92 ls [])) → ∀ (ls : Array Slot) (H : Heap) (locs : List Loc), GH w s A S H locs → lv_has ls 6 [(0, .ref (gad w 49)), (1, .int x1), (2, .int x2), (3, .long x3), (5, .int x5)] → W p l e (rmm 2 47) s m args below meth c H locs 0 0 Q (F0 m 51 ls []) := by
  have hx := C.1
  have hb := C.2.1
  intro S x1 x2 n
  induction n with
  | zero => intro x3 x5 r h; cases h
  | succ n ih =>
    intro x3 x5 r h k1 ls H locs hG hl
    obtain ⟨z, h, hr⟩ := lp_succ h
    have h : M_rather_L51 S x1 x2 x3 x5 = some z := h
    unfold M_rather_L51 at h
    refine lv_iload hx hb d_M_rather_51 (lv_at hl 4 rfl) ?_
    refine lv_iconst (v := 5) hx hb d_M_rather_53 (by decide) ?_
    refine lv_icmp_ge (tgt := 92) hx hb d_M_rather_54 (by decide) (fun hc => ?_) (fun hc => ?_)
    · replace h := it_t h hc
      exact k1 _ _ (lp_exit h hr) ls _ _ hG (lv_sub hl [0, 1, 2, 3] rfl)
    · replace h := it_f h hc
      refine lv_lload_n hx hb d_M_rather_57 rfl (lv_at hl 3 rfl) ?_
      refine lv_iload_n hx hb d_M_rather_58 rfl (lv_at hl 2 rfl) ?_
      refine lv_iload hx hb d_M_rather_59 (lv_at hl 4 rfl) ?_
      refine g_goi hG (g_runS (As := [.int x2, .int x5]) (rest := [.long x3]) C hG (c_M_isIn l w S x2 x5 _) sw_M_190 rfl rfl ⟨by decide, by decide⟩ rfl hl.1 rfl (Nat.le_of_ble_eq_true rfl) d_M_rather_61 ⟨Nat.zero_le _, Nat.zero_le _⟩) (fun H locs hG => ?_)
      refine lv_if_eq (tgt := 83) hx hb d_M_rather_64 (by decide) (fun hc => ?_) (fun hc => ?_)
      · replace h := it_t h hc
        refine lv_lconst (v := 0) hx hb d_M_rather_83 (by decide) ?_
        refine lv_ladd hx hb d_M_rather_84 ?_
        refine lv_lstore_n (lv' := [(3, .long (x3 + 0)), (0, .ref (gad w 49)), (1, .int x1), (2, .int x2), (5, .int x5)]) hx hb d_M_rather_85 rfl hl (by decide) rfl (fun ls hl => ?_)
        refine lv_iinc (v := x5 + 1) (lv' := [(5, .int (x5 + 1)), (3, .long (x3 + 0)), (0, .ref (gad w 49)), (1, .int x1), (2, .int x2)]) hx hb d_M_rather_86 hl (k := 4) rfl (congrArg (HAdd.hAdd x5) (by decide : Int32.ofInt 1 = 1)) (by decide) rfl (fun ls hl => ?_)
        refine lv_goto (tgt := 51) hx hb d_M_rather_89 (by decide) ?_
        exact ih _ _ _ (lp_back h hr) k1 ls _ _ hG (lv_sub hl [2, 3, 4, 1, 0] rfl)
      · replace h := it_f h hc
        refine lv_aload_n hx hb d_M_rather_67 rfl (lv_at hl 0 rfl) ?_
        refine g_get C hG (hG.lt (Nat.le_of_ble_eq_true rfl)) (ce49 w _) rfl inC8 2 (Nat.le_of_ble_eq_true rfl) qw678 rfl d_M_rather_68 ?_
        refine lv_bipush (v := 60) hx hb d_M_rather_71 (by decide) ?_
        refine lv_iload_n hx hb d_M_rather_73 rfl (lv_at hl 1 rfl) ?_
        refine lv_imul hx hb d_M_rather_74 ?_
        refine lv_iload hx hb d_M_rather_75 (lv_at hl 4 rfl) ?_
        refine lv_iadd hx hb d_M_rather_77 ?_
        obtain ⟨hi1, h⟩ := chk_some h
        refine g_iald (j := ix ((60 * x1) + x5)) C hG (hG.lt (Nat.le_of_ble_eq_true rfl)) (ce52 w _) (inb_in hi1) rfl d_M_rather_78 ?_
        refine lv_i2l (v := (S 52 (ix ((60 * x1) + x5))).toInt64) hx hb d_M_rather_79 rfl ?_
        refine lv_goto (tgt := 84) hx hb d_M_rather_80 (by decide) ?_
        refine lv_ladd hx hb d_M_rather_84 ?_
        refine lv_lstore_n (lv' := [(3, .long (x3 + ((S 52 (ix ((60 * x1) + x5))).toInt64))), (0, .ref (gad w 49)), (1, .int x1), (2, .int x2), (5, .int x5)]) hx hb d_M_rather_85 rfl hl (by decide) rfl (fun ls hl => ?_)
        refine lv_iinc (v := x5 + 1) (lv' := [(5, .int (x5 + 1)), (3, .long (x3 + ((S 52 (ix ((60 * x1) + x5))).toInt64))), (0, .ref (gad w 49)), (1, .int x1), (2, .int x2)]) hx hb d_M_rather_86 hl (k := 4) rfl (congrArg (HAdd.hAdd x5) (by decide : Int32.ofInt 1 = 1)) (by decide) rfl (fun ls hl => ?_)
        refine lv_goto (tgt := 51) hx hb d_M_rather_89 (by decide) ?_
        exact ih _ _ _ (lp_back h hr) k1 ls _ _ hG (lv_sub hl [2, 3, 4, 1, 0] rfl)
set_option maxHeartbeats 4000000 in
set_option maxRecDepth 100000 in
theorem L_M_rather_40 (C : gCx p s m args meth c y_M_rather.cls b_M_rather 6 (some .int)) : ∀ (S : St) (x1 : Int32) (n : Nat) (x2 : Int32) (r : (Int32) × Nat), lp (σ := Int32) (fun q => M_rather_L40 S x1 q) n x2 = some r → (∀ (y2 : Int32), r = (y2, 1) → ∀ (ls : Array Slot) (H : Heap) (locs : List Loc), GH w s A S H locs → lv_has ls 6 [(2, .int y2)] → W p l e (rmm 2 47) s m args below meth c H locs 0 0 Q (F0 m 103 ls [])) → (∀ (y2 : Int32), r = (y2, 2) → ∀ (ls : Array Slot) (H : Heap) (locs : List Loc), GH w s A S H locs → lv_has ls 6 [] → W p l e (rmm 2 47) s m args below meth c H locs 0 0 Q (F0 m 111 ls [])) → ∀ (ls : Array Slot) (H : Heap) (locs : List Loc), GH w s A S H locs → lv_has ls 6 [(0, .ref (gad w 49)), (1, .int x1), (2, .int x2)] → W p l e (rmm 2 47) s m args below meth c H locs 0 0 Q (F0 m 40 ls []) := by
  have hx := C.1
  have hb := C.2.1
  intro S x1 n
  induction n with
  | zero => intro x2 r h; cases h
  | succ n ih =>
    intro x2 r h k1 k2 ls H locs hG hl
    obtain ⟨z, h, hr⟩ := lp_succ h
    have h : M_rather_L40 S x1 x2 = some z := h
    have J92 : ∀ (x2 : Int32) (x3 : Int64), M_rather_J92 S x1 x2 x3 = some z → ∀ (ls : Array Slot) (H : Heap) (locs : List Loc), GH w s A S H locs → lv_has ls 6 [(0, .ref (gad w 49)), (1, .int x1), (2, .int x2), (3, .long x3)] → W p l e (rmm 2 47) s m args below meth c H locs 0 0 Q (F0 m 92 ls []) := by
      intro x2 x3 h ls H locs hG hl
      unfold M_rather_J92 at h
      refine lv_lload_n hx hb d_M_rather_92 rfl (lv_at hl 3 rfl) ?_
      refine lv_aload_n hx hb d_M_rather_93 rfl (lv_at hl 0 rfl) ?_
      refine lv_iload_n hx hb d_M_rather_94 rfl (lv_at hl 2 rfl) ?_
      obtain ⟨z1, hz1, h⟩ := bnd_some h
      refine g_goi hG (g_runV (As := [.int x2]) (rest := [.long x3]) C hG (c_M_clubOf l w S x2 hz1 _) (hG.lt (Nat.le_of_ble_eq_true rfl)) (ce49 w _) rfl vw_M_235 rfl rfl ⟨by decide, by decide⟩ rfl hl.1 rfl (Nat.le_of_ble_eq_true rfl) d_M_rather_95 ⟨Nat.zero_le _, Nat.zero_le _⟩) (fun H locs hG => ?_)
      refine lv_i2l (v := z1.toInt64) hx hb d_M_rather_98 rfl ?_
      refine W.lcmp hx hb d_M_rather_99 ?_
      refine lv_if_ge (tgt := 105) hx hb d_M_rather_100 (by decide) (fun hc => ?_) (fun hc => ?_)
      · replace h := it_t h hc
        refine lv_iinc (v := x2 + 1) (lv' := [(2, .int (x2 + 1)), (0, .ref (gad w 49)), (1, .int x1), (3, .long x3)]) hx hb d_M_rather_105 hl (k := 2) rfl (congrArg (HAdd.hAdd x2) (by decide : Int32.ofInt 1 = 1)) (by decide) rfl (fun ls hl => ?_)
        refine lv_goto (tgt := 40) hx hb d_M_rather_108 (by decide) ?_
        exact ih _ _ (lp_back h hr) k1 k2 ls _ _ hG (lv_sub hl [1, 2, 0] rfl)
      · replace h := it_f h hc
        exact k1 _ (lp_exit h hr) ls _ _ hG (lv_sub hl [2] rfl)
    unfold M_rather_L40 at h
    refine lv_iload_n hx hb d_M_rather_40 rfl (lv_at hl 2 rfl) ?_
    refine lv_bipush (v := 32) hx hb d_M_rather_41 (by decide) ?_
    refine lv_icmp_ge (tgt := 111) hx hb d_M_rather_43 (by decide) (fun hc => ?_) (fun hc => ?_)
    · replace h := it_t h hc
      exact k2 _ (lp_exit h hr) ls _ _ hG (lv_sub hl [] rfl)
    · replace h := it_f h hc
      refine lv_lconst (v := 0) hx hb d_M_rather_46 (by decide) ?_
      refine lv_lstore_n (lv' := [(3, .long 0), (0, .ref (gad w 49)), (1, .int x1), (2, .int x2)]) hx hb d_M_rather_47 rfl hl (by decide) rfl (fun ls hl => ?_)
      refine lv_iconst (v := 0) hx hb d_M_rather_48 (by decide) ?_
      refine lv_istore (lv' := [(5, .int 0), (3, .long 0), (0, .ref (gad w 49)), (1, .int x1), (2, .int x2)]) hx hb d_M_rather_49 hl (by decide) rfl (fun ls hl => ?_)
      obtain ⟨z2, hz2, h⟩ := bnd_some h
      refine L_M_rather_51 C _ _ _ FZ _ _ _ hz2 ?_ ls _ _ hG (lv_sub hl [2, 3, 4, 1, 0] rfl)
      intro y3 y5 e9 ls H locs hG hl
      subst e9
      exact J92 _ _ h ls _ _ hG (lv_sub hl [0, 1, 2, 3] rfl)
set_option maxHeartbeats 4000000 in
set_option maxRecDepth 100000 in
theorem c_M_rather (l : Launch) (w : gw) (S : St) (x1 : Int32)  {z : Int32 × St} (h : (M_rather S x1) = some z) : gMi l w y_M_rather b_M_rather 6 (some .int) (rmm 2 47) [.ref (gad w 49), .int x1] S z.1 z.2 := by
  unfold M_rather at h
  refine g_met (Qc := gQi w z.1 z.2) (by decide +kernel) (Nat.le_of_ble_eq_true rfl) ?_
  intro p e s m args below meth c A Q ls hQ C hG hl
  have hx := C.1
  have hb := C.2.1
  have hl : lv_has ls 6 [(0, .ref (gad w 49)), (1, .int x1)] := hl
  have J111 : ∀ (S : St), M_rather_J111 S = some z → ∀ (ls : Array Slot) (H : Heap) (locs : List Loc), GH w s A S H locs → lv_has ls 6 [] → W p l e (rmm 2 47) s m args below meth c H locs 0 0 Q (F0 m 111 ls []) := by
    intro S h ls H locs hG hl
    unfold M_rather_J111 at h
    refine lv_iconst (v := (-1)) hx hb d_M_rather_111 (by decide) ?_
    exact g_iret C hG (sm_fst h) (sm_snd h) hQ d_M_rather_112
  have J103 : ∀ (S : St) (x2 : Int32), M_rather_J103 S x2 = some z → ∀ (ls : Array Slot) (H : Heap) (locs : List Loc), GH w s A S H locs → lv_has ls 6 [(2, .int x2)] → W p l e (rmm 2 47) s m args below meth c H locs 0 0 Q (F0 m 103 ls []) := by
    intro S x2 h ls H locs hG hl
    unfold M_rather_J103 at h
    refine lv_iload_n hx hb d_M_rather_103 rfl (lv_at hl 0 rfl) ?_
    exact g_iret C hG (sm_fst h) (sm_snd h) hQ d_M_rather_104
  refine lv_iload_n hx hb d_M_rather_0 rfl (lv_at hl 1 rfl) ?_
  refine g_goi hG (g_runS (As := [.int x1]) (rest := []) C hG (c_M_isSheet l w S x1 _) sw_M_92 rfl rfl ⟨by decide, by decide⟩ rfl hl.1 rfl (Nat.le_of_ble_eq_true rfl) d_M_rather_1 ⟨Nat.zero_le _, Nat.zero_le _⟩) (fun H locs hG => ?_)
  refine lv_if_ne (tgt := 10) hx hb d_M_rather_4 (by decide) (fun hc => ?_) (fun hc => ?_)
  · replace h := it_f h hc
    refine lv_aload_n hx hb d_M_rather_10 rfl (lv_at hl 0 rfl) ?_
    refine g_get C hG (hG.lt (Nat.le_of_ble_eq_true rfl)) (ce49 w _) rfl inC8 0 (Nat.le_of_ble_eq_true rfl) qw676 rfl d_M_rather_11 ?_
    refine lv_iload_n hx hb d_M_rather_14 rfl (lv_at hl 1 rfl) ?_
    obtain ⟨hi2, h⟩ := chk_some h
    refine g_iald (j := ix x1) C hG (hG.lt (Nat.le_of_ble_eq_true rfl)) (ce50 w _) (inb_in hi2) rfl d_M_rather_15 ?_
    refine lv_if_ge (tgt := 25) hx hb d_M_rather_16 (by decide) (fun hc => ?_) (fun hc => ?_)
    · replace h := it_t h hc
      refine lv_aload_n hx hb d_M_rather_25 rfl (lv_at hl 0 rfl) ?_
      refine g_get C hG (hG.lt (Nat.le_of_ble_eq_true rfl)) (ce49 w _) rfl inC8 1 (Nat.le_of_ble_eq_true rfl) qw677 rfl d_M_rather_26 ?_
      refine lv_iload_n hx hb d_M_rather_29 rfl (lv_at hl 1 rfl) ?_
      obtain ⟨hi3, h⟩ := chk_some h
      refine g_iald (j := ix x1) C hG (hG.lt (Nat.le_of_ble_eq_true rfl)) (ce51 w _) (inb_in hi3) rfl d_M_rather_30 ?_
      refine lv_iconst (v := 5) hx hb d_M_rather_31 (by decide) ?_
      refine lv_icmp_ge (tgt := 38) hx hb d_M_rather_32 (by decide) (fun hc => ?_) (fun hc => ?_)
      · replace h := it_t h hc
        refine lv_iconst (v := 1) hx hb d_M_rather_38 (by decide) ?_
        refine lv_istore_n (lv' := [(2, .int 1), (0, .ref (gad w 49)), (1, .int x1)]) hx hb d_M_rather_39 rfl hl (by decide) rfl (fun ls hl => ?_)
        obtain ⟨z3, hz3, h⟩ := bnd_some h
        refine L_M_rather_40 C _ _ FZ _ _ hz3 ?_ ?_ ls _ _ hG (lv_sub hl [1, 2, 0] rfl)
        · intro y2 e9 ls H locs hG hl
          subst e9
          replace h := it_t h rfl
          exact J103 _ _ h ls _ _ hG (lv_sub hl [0] rfl)
        · intro y2 e9 ls H locs hG hl
          subst e9
          replace h := it_f h (show ¬ (2 : Nat) = 1 by decide)
          exact J111 _ h ls _ _ hG (lv_sub hl [] rfl)
      · replace h := it_f h hc
        refine lv_bipush (v := (-3)) hx hb d_M_rather_35 (by decide) ?_
        exact g_iret C hG (sm_fst h) (sm_snd h) hQ d_M_rather_37
    · replace h := it_f h hc
      refine lv_aload_n hx hb d_M_rather_19 rfl (lv_at hl 0 rfl) ?_
      refine lv_iconst (v := 1) hx hb d_M_rather_20 (by decide) ?_
      obtain ⟨z4, hz4, h⟩ := bnd_some h
      refine g_goi hG (g_runV (As := [.int 1]) (rest := []) C hG (c_M_met l w S 1 hz4 _) (hG.lt (Nat.le_of_ble_eq_true rfl)) (ce49 w _) rfl vw_M_98 rfl rfl ⟨by decide, by decide⟩ rfl hl.1 rfl (Nat.le_of_ble_eq_true rfl) d_M_rather_21 ⟨Nat.zero_le _, Nat.zero_le _⟩) (fun H locs hG => ?_)
      exact g_iret C hG (sm_fst h) (sm_snd h) hQ d_M_rather_24
  · replace h := it_t h hc
    refine lv_bipush (v := (-2)) hx hb d_M_rather_7 (by decide) ?_
    exact g_iret C hG (sm_fst h) (sm_snd h) hQ d_M_rather_9
