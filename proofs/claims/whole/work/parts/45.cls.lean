variable {p : Program} {l : Launch} {e : Env} {s : State} {m : MethodId} {args : Array Value} {below : List Frame} {meth : Method} {c : Code} {A : Nat → Prop} {Q : State → Prop} {w : gw} {S : St}
theorem d_X_has_0 : decode b_X_has 0 = .ok (.iload_n 1, 1) := by decide +kernel
theorem d_X_has_1 : decode b_X_has 1 = .ok (.invokestatic 91, 3) := by decide +kernel
theorem d_X_has_4 : decode b_X_has 4 = .ok (.ifCond .ne 6, 3) := by decide +kernel
theorem d_X_has_7 : decode b_X_has 7 = .ok (.bipush (-2), 2) := by decide +kernel
theorem d_X_has_9 : decode b_X_has 9 = .ok (.ireturn, 1) := by decide +kernel
theorem d_X_has_10 : decode b_X_has 10 = .ok (.aload_n 0, 1) := by decide +kernel
theorem d_X_has_11 : decode b_X_has 11 = .ok (.invokevirtual 78, 3) := by decide +kernel
theorem d_X_has_14 : decode b_X_has 14 = .ok (.astore_n 3, 1) := by decide +kernel
theorem d_X_has_15 : decode b_X_has 15 = .ok (.iload_n 2, 1) := by decide +kernel
theorem d_X_has_16 : decode b_X_has 16 = .ok (.tableswitch 61 0 2 #[28, 34, 41], 28) := by decide +kernel
theorem d_X_has_44 : decode b_X_has 44 = .ok (.aload_n 3, 1) := by decide +kernel
theorem d_X_has_45 : decode b_X_has 45 = .ok (.iload_n 1, 1) := by decide +kernel
theorem d_X_has_46 : decode b_X_has 46 = .ok (.invokevirtual 170, 3) := by decide +kernel
theorem d_X_has_49 : decode b_X_has 49 = .ok (.ireturn, 1) := by decide +kernel
theorem d_X_has_50 : decode b_X_has 50 = .ok (.aload_n 3, 1) := by decide +kernel
theorem d_X_has_51 : decode b_X_has 51 = .ok (.getfield 173, 3) := by decide +kernel
theorem d_X_has_54 : decode b_X_has 54 = .ok (.iload_n 1, 1) := by decide +kernel
theorem d_X_has_55 : decode b_X_has 55 = .ok (.iaload, 1) := by decide +kernel
theorem d_X_has_56 : decode b_X_has 56 = .ok (.ireturn, 1) := by decide +kernel
theorem d_X_has_57 : decode b_X_has 57 = .ok (.aload_n 0, 1) := by decide +kernel
theorem d_X_has_58 : decode b_X_has 58 = .ok (.getfield 10, 3) := by decide +kernel
theorem d_X_has_61 : decode b_X_has 61 = .ok (.getfield 95, 3) := by decide +kernel
theorem d_X_has_64 : decode b_X_has 64 = .ok (.iload_n 1, 1) := by decide +kernel
theorem d_X_has_65 : decode b_X_has 65 = .ok (.iaload, 1) := by decide +kernel
theorem d_X_has_66 : decode b_X_has 66 = .ok (.aload_n 3, 1) := by decide +kernel
theorem d_X_has_67 : decode b_X_has 67 = .ok (.aload_n 0, 1) := by decide +kernel
theorem d_X_has_68 : decode b_X_has 68 = .ok (.getfield 10, 3) := by decide +kernel
theorem d_X_has_71 : decode b_X_has 71 = .ok (.iload_n 1, 1) := by decide +kernel
theorem d_X_has_72 : decode b_X_has 72 = .ok (.invokevirtual 176, 3) := by decide +kernel
theorem d_X_has_75 : decode b_X_has 75 = .ok (.isub, 1) := by decide +kernel
theorem d_X_has_76 : decode b_X_has 76 = .ok (.ireturn, 1) := by decide +kernel
theorem d_X_has_77 : decode b_X_has 77 = .ok (.bipush (-2), 2) := by decide +kernel
theorem d_X_has_79 : decode b_X_has 79 = .ok (.ireturn, 1) := by decide +kernel
noncomputable def X_has (S : St) (x1 : Int32) (x2 : Int32) : Option (Int32 × St) :=
  if (X_isBidder x1) = 0 then
      some ((-2), S)
    else
      bnd (X_judgedOutcome S) fun z1 =>
      if x2 = 0 then
        bnd (OC_eveningsOf z1 x1) fun z2 =>
        some (z2, z1)
      else if x2 = 1 then
        chk (inb x1 5) <|
        some (z1 32 (ix x1), z1)
      else if x2 = 2 then
        chk (inb x1 5) <|
        bnd (OC_pricesOf z1 x1) fun z3 =>
        some ((z1 2 (ix x1)) - z3, z1)
      else some ((-2), z1)
set_option maxHeartbeats 4000000 in
set_option maxRecDepth 100000 in
theorem c_X_has (l : Launch) (w : gw) (S : St) (x1 : Int32) (x2 : Int32)  {z : Int32 × St} (h : (X_has S x1 x2) = some z) : gMi l w y_X_has b_X_has 4 (some .int) (rmm 4 91) [.ref (gad w 0), .int x1, .int x2] S z.1 z.2 := by
  unfold X_has at h
  refine g_met (Qc := gQi w z.1 z.2) (by decide +kernel) (Nat.le_of_ble_eq_true rfl) ?_
  intro p e s m args below meth c A Q ls hQ C hG hl
  have hx := C.1
  have hb := C.2.1
  have hl : lv_has ls 4 [(0, .ref (gad w 0)), (1, .int x1), (2, .int x2)] := hl
  refine lv_iload_n hx hb d_X_has_0 rfl (lv_at hl 1 rfl) ?_
  refine g_goi hG (g_runS (As := [.int x1]) (rest := []) C hG (c_X_isBidder l w S x1 _) sw_X_91 rfl rfl ⟨by decide, by decide⟩ rfl hl.1 rfl (Nat.le_of_ble_eq_true rfl) d_X_has_1 ⟨Nat.zero_le _, Nat.zero_le _⟩) (fun H locs hG => ?_)
  refine lv_if_ne (tgt := 10) hx hb d_X_has_4 (by decide) (fun hc => ?_) (fun hc => ?_)
  · replace h := it_f h hc
    refine lv_aload_n hx hb d_X_has_10 rfl (lv_at hl 0 rfl) ?_
    obtain ⟨z1, hz1, h⟩ := bnd_some h
    refine g_gor hG (g_runV (As := []) (rest := []) C hG (c_X_judgedOutcome l w S hz1 _) (hG.lt (Nat.le_of_ble_eq_true rfl)) (ce0 w _) rfl vw_X_78 rfl rfl ⟨by decide, by decide⟩ rfl hl.1 rfl (Nat.le_of_ble_eq_true rfl) d_X_has_11 ⟨Nat.zero_le _, Nat.zero_le _⟩) (fun H locs hG => ?_)
    refine lv_astore_n (lv' := [(3, .ref (gad w 27)), (0, .ref (gad w 0)), (1, .int x1), (2, .int x2)]) hx hb d_X_has_14 rfl hl (by decide) rfl (fun ls hl => ?_)
    refine lv_iload_n hx hb d_X_has_15 rfl (lv_at hl 3 rfl) ?_
    by_cases hc0 : x2 = 0
    · replace h := it_t h hc0
      refine lv_tableIn (off := 28) (tgt := 44) hx hb d_X_has_16 (by rw [hc0]; decide) (by rw [hc0]; decide) (by rw [hc0]; rfl) (by decide) ?_
      refine lv_aload_n hx hb d_X_has_44 rfl (lv_at hl 0 rfl) ?_
      refine lv_iload_n hx hb d_X_has_45 rfl (lv_at hl 2 rfl) ?_
      obtain ⟨z2, hz2, h⟩ := bnd_some h
      refine g_goi hG (g_runV (As := [.int x1]) (rest := []) C hG (c_OC_eveningsOf l w z1 x1 hz2 _) (hG.lt (Nat.le_of_ble_eq_true rfl)) (ce27 w _) rfl vw_X_170 rfl rfl ⟨by decide, by decide⟩ rfl hl.1 rfl (Nat.le_of_ble_eq_true rfl) d_X_has_46 ⟨Nat.zero_le _, Nat.zero_le _⟩) (fun H locs hG => ?_)
      exact g_iret C hG (sm_fst h) (sm_snd h) hQ d_X_has_49
    replace h := it_f h hc0
    by_cases hc1 : x2 = 1
    · replace h := it_t h hc1
      refine lv_tableIn (off := 34) (tgt := 50) hx hb d_X_has_16 (by rw [hc1]; decide) (by rw [hc1]; decide) (by rw [hc1]; rfl) (by decide) ?_
      refine lv_aload_n hx hb d_X_has_50 rfl (lv_at hl 0 rfl) ?_
      refine g_get C hG (hG.lt (Nat.le_of_ble_eq_true rfl)) (ce27 w _) rfl inC3 4 (Nat.le_of_ble_eq_true rfl) qw106 rfl d_X_has_51 ?_
      refine lv_iload_n hx hb d_X_has_54 rfl (lv_at hl 2 rfl) ?_
      obtain ⟨hi1, h⟩ := chk_some h
      refine g_iald (j := ix x1) C hG (hG.lt (Nat.le_of_ble_eq_true rfl)) (ce32 w _) (inb_in hi1) rfl d_X_has_55 ?_
      exact g_iret C hG (sm_fst h) (sm_snd h) hQ d_X_has_56
    replace h := it_f h hc1
    by_cases hc2 : x2 = 2
    · replace h := it_t h hc2
      refine lv_tableIn (off := 41) (tgt := 57) hx hb d_X_has_16 (by rw [hc2]; decide) (by rw [hc2]; decide) (by rw [hc2]; rfl) (by decide) ?_
      refine lv_aload_n hx hb d_X_has_57 rfl (lv_at hl 1 rfl) ?_
      refine g_get C hG (hG.lt (Nat.le_of_ble_eq_true rfl)) (ce0 w _) rfl inC7 0 (Nat.le_of_ble_eq_true rfl) qw199 rfl d_X_has_58 ?_
      refine g_get C hG (hG.lt (Nat.le_of_ble_eq_true rfl)) (ce1 w _) rfl inC6 0 (Nat.le_of_ble_eq_true rfl) qw31 rfl d_X_has_61 ?_
      refine lv_iload_n hx hb d_X_has_64 rfl (lv_at hl 2 rfl) ?_
      obtain ⟨hi2, h⟩ := chk_some h
      refine g_iald (j := ix x1) C hG (hG.lt (Nat.le_of_ble_eq_true rfl)) (ce2 w _) (inb_in hi2) rfl d_X_has_65 ?_
      refine lv_aload_n hx hb d_X_has_66 rfl (lv_at hl 0 rfl) ?_
      refine lv_aload_n hx hb d_X_has_67 rfl (lv_at hl 1 rfl) ?_
      refine g_get C hG (hG.lt (Nat.le_of_ble_eq_true rfl)) (ce0 w _) rfl inC7 0 (Nat.le_of_ble_eq_true rfl) qw199 rfl d_X_has_68 ?_
      refine lv_iload_n hx hb d_X_has_71 rfl (lv_at hl 2 rfl) ?_
      obtain ⟨z3, hz3, h⟩ := bnd_some h
      refine g_goi hG (g_runV (As := [.ref (gad w 1), .int x1]) (rest := [.int (z1 2 (ix x1))]) C hG (c_OC_pricesOf l w z1 x1 hz3 _) (hG.lt (Nat.le_of_ble_eq_true rfl)) (ce27 w _) rfl vw_X_176 rfl rfl ⟨by decide, by decide⟩ rfl hl.1 rfl (Nat.le_of_ble_eq_true rfl) d_X_has_72 ⟨Nat.zero_le _, Nat.zero_le _⟩) (fun H locs hG => ?_)
      refine lv_isub hx hb d_X_has_75 ?_
      exact g_iret C hG (sm_fst h) (sm_snd h) hQ d_X_has_76
    replace h := it_f h hc2
    refine lv_tableOut (tgt := 77) hx hb d_X_has_16 (by have g0 := lv_neT hc0 (a := 0) (by decide); have g1 := lv_neT hc1 (a := 1) (by decide); have g2 := lv_neT hc2 (a := 2) (by decide); omega) (by decide) ?_
    refine lv_bipush (v := (-2)) hx hb d_X_has_77 (by decide) ?_
    exact g_iret C hG (sm_fst h) (sm_snd h) hQ d_X_has_79
  · replace h := it_t h hc
    refine lv_bipush (v := (-2)) hx hb d_X_has_7 (by decide) ?_
    exact g_iret C hG (sm_fst h) (sm_snd h) hQ d_X_has_9
theorem d_X_happy_0 : decode b_X_happy 0 = .ok (.iload_n 1, 1) := by decide +kernel
theorem d_X_happy_1 : decode b_X_happy 1 = .ok (.invokestatic 91, 3) := by decide +kernel
theorem d_X_happy_4 : decode b_X_happy 4 = .ok (.ifCond .ne 6, 3) := by decide +kernel
theorem d_X_happy_7 : decode b_X_happy 7 = .ok (.bipush (-2), 2) := by decide +kernel
theorem d_X_happy_9 : decode b_X_happy 9 = .ok (.ireturn, 1) := by decide +kernel
theorem d_X_happy_10 : decode b_X_happy 10 = .ok (.aload_n 0, 1) := by decide +kernel
theorem d_X_happy_11 : decode b_X_happy 11 = .ok (.invokevirtual 78, 3) := by decide +kernel
theorem d_X_happy_14 : decode b_X_happy 14 = .ok (.astore_n 2, 1) := by decide +kernel
theorem d_X_happy_15 : decode b_X_happy 15 = .ok (.iconst 0, 1) := by decide +kernel
theorem d_X_happy_16 : decode b_X_happy 16 = .ok (.istore_n 3, 1) := by decide +kernel
theorem d_X_happy_17 : decode b_X_happy 17 = .ok (.iconst 0, 1) := by decide +kernel
theorem d_X_happy_18 : decode b_X_happy 18 = .ok (.istore 4, 2) := by decide +kernel
theorem d_X_happy_20 : decode b_X_happy 20 = .ok (.iload 4, 2) := by decide +kernel
theorem d_X_happy_22 : decode b_X_happy 22 = .ok (.bipush 10, 2) := by decide +kernel
theorem d_X_happy_24 : decode b_X_happy 24 = .ok (.if_icmp .ge 27, 3) := by decide +kernel
theorem d_X_happy_27 : decode b_X_happy 27 = .ok (.iload_n 3, 1) := by decide +kernel
theorem d_X_happy_28 : decode b_X_happy 28 = .ok (.aload_n 0, 1) := by decide +kernel
theorem d_X_happy_29 : decode b_X_happy 29 = .ok (.getfield 10, 3) := by decide +kernel
theorem d_X_happy_32 : decode b_X_happy 32 = .ok (.aload_n 2, 1) := by decide +kernel
theorem d_X_happy_33 : decode b_X_happy 33 = .ok (.getfield 163, 3) := by decide +kernel
theorem d_X_happy_36 : decode b_X_happy 36 = .ok (.iload 4, 2) := by decide +kernel
theorem d_X_happy_38 : decode b_X_happy 38 = .ok (.iaload, 1) := by decide +kernel
theorem d_X_happy_39 : decode b_X_happy 39 = .ok (.iload_n 1, 1) := by decide +kernel
theorem d_X_happy_40 : decode b_X_happy 40 = .ok (.invokevirtual 179, 3) := by decide +kernel
theorem d_X_happy_43 : decode b_X_happy 43 = .ok (.iadd, 1) := by decide +kernel
theorem d_X_happy_44 : decode b_X_happy 44 = .ok (.istore_n 3, 1) := by decide +kernel
theorem d_X_happy_45 : decode b_X_happy 45 = .ok (.iinc 4 1, 3) := by decide +kernel
theorem d_X_happy_48 : decode b_X_happy 48 = .ok (.goto (-28), 3) := by decide +kernel
theorem d_X_happy_51 : decode b_X_happy 51 = .ok (.iload_n 3, 1) := by decide +kernel
theorem d_X_happy_52 : decode b_X_happy 52 = .ok (.ireturn, 1) := by decide +kernel
noncomputable def X_happy_L20 (S : St) (x1 : Int32) (x3 : Int32) (x4 : Int32) : Option ((Int32 × Int32) × Nat) :=
  if 10 ≤ x4 then
      some ((x3, x4), 1)
    else
      chk (inb x4 10) <|
      bnd (TW_joyBy S (S 29 (ix x4)) x1) fun z1 =>
      some ((x3 + z1, x4 + 1), 0)
noncomputable def X_happy_J51 (S : St) (x3 : Int32) : Option (Int32 × St) :=
  some (x3, S)
noncomputable def X_happy (S : St) (x1 : Int32) : Option (Int32 × St) :=
  if (X_isBidder x1) = 0 then
      some ((-2), S)
    else
      bnd (X_judgedOutcome S) fun z2 =>
      bnd (lp (σ := Int32 × Int32) (fun q => X_happy_L20 z2 x1 q.1 q.2) FZ (0, 0)) fun z3 =>
      X_happy_J51 z2 z3.1.1
set_option maxHeartbeats 4000000 in
set_option maxRecDepth 100000 in
theorem L_X_happy_20 (C : gCx p s m args meth c y_X_happy.cls b_X_happy 5 (some .int)) : ∀ (S : St) (x1 : Int32) (n : Nat) (x3 : Int32) (x4 : Int32) (r : (Int32 × Int32) × Nat), lp (σ := Int32 × Int32) (fun q => X_happy_L20 S x1 q.1 q.2) n (x3, x4) = some r → (∀ (y3 : Int32) (y4 : Int32), r = ((y3, y4), 1) → ∀ (ls : Array Slot) (H : Heap) (locs : List Loc), GH w s A S H locs → lv_has ls 5 [(3, .int y3)] → W p l e (rmm 4 91) s m args below meth c H locs 0 0 Q (F0 m 51 ls [])) → ∀ (ls : Array Slot) (H : Heap) (locs : List Loc), GH w s A S H locs → lv_has ls 5 [(0, .ref (gad w 0)), (1, .int x1), (2, .ref (gad w 27)), (3, .int x3), (4, .int x4)] → W p l e (rmm 4 91) s m args below meth c H locs 0 0 Q (F0 m 20 ls []) := by
  have hx := C.1
  have hb := C.2.1
  intro S x1 n
  induction n with
  | zero => intro x3 x4 r h; cases h
  | succ n ih =>
    intro x3 x4 r h k1 ls H locs hG hl
    obtain ⟨z, h, hr⟩ := lp_succ h
    have h : X_happy_L20 S x1 x3 x4 = some z := h
    unfold X_happy_L20 at h
    refine lv_iload hx hb d_X_happy_20 (lv_at hl 4 rfl) ?_
    refine lv_bipush (v := 10) hx hb d_X_happy_22 (by decide) ?_
    refine lv_icmp_ge (tgt := 51) hx hb d_X_happy_24 (by decide) (fun hc => ?_) (fun hc => ?_)
    · replace h := it_t h hc
      exact k1 _ _ (lp_exit h hr) ls _ _ hG (lv_sub hl [3] rfl)
    · replace h := it_f h hc
      refine lv_iload_n hx hb d_X_happy_27 rfl (lv_at hl 3 rfl) ?_
      refine lv_aload_n hx hb d_X_happy_28 rfl (lv_at hl 0 rfl) ?_
      refine g_get C hG (hG.lt (Nat.le_of_ble_eq_true rfl)) (ce0 w _) rfl inC7 0 (Nat.le_of_ble_eq_true rfl) qw199 rfl d_X_happy_29 ?_
      refine lv_aload_n hx hb d_X_happy_32 rfl (lv_at hl 2 rfl) ?_
      refine g_get C hG (hG.lt (Nat.le_of_ble_eq_true rfl)) (ce27 w _) rfl inC3 1 (Nat.le_of_ble_eq_true rfl) qw102 rfl d_X_happy_33 ?_
      refine lv_iload hx hb d_X_happy_36 (lv_at hl 4 rfl) ?_
      obtain ⟨hi1, h⟩ := chk_some h
      refine g_iald (j := ix x4) C hG (hG.lt (Nat.le_of_ble_eq_true rfl)) (ce29 w _) (inb_in hi1) rfl d_X_happy_38 ?_
      refine lv_iload_n hx hb d_X_happy_39 rfl (lv_at hl 1 rfl) ?_
      obtain ⟨z1, hz1, h⟩ := bnd_some h
      refine g_goi hG (g_runV (As := [.int (S 29 (ix x4)), .int x1]) (rest := [.int x3]) C hG (c_TW_joyBy l w S (S 29 (ix x4)) x1 hz1 _) (hG.lt (Nat.le_of_ble_eq_true rfl)) (ce1 w _) rfl vw_X_179 rfl rfl ⟨by decide, by decide⟩ rfl hl.1 rfl (Nat.le_of_ble_eq_true rfl) d_X_happy_40 ⟨Nat.zero_le _, Nat.zero_le _⟩) (fun H locs hG => ?_)
      refine lv_iadd hx hb d_X_happy_43 ?_
      refine lv_istore_n (lv' := [(3, .int (x3 + z1)), (0, .ref (gad w 0)), (1, .int x1), (2, .ref (gad w 27)), (4, .int x4)]) hx hb d_X_happy_44 rfl hl (by decide) rfl (fun ls hl => ?_)
      refine lv_iinc (v := x4 + 1) (lv' := [(4, .int (x4 + 1)), (3, .int (x3 + z1)), (0, .ref (gad w 0)), (1, .int x1), (2, .ref (gad w 27))]) hx hb d_X_happy_45 hl (k := 4) rfl (congrArg (HAdd.hAdd x4) (by decide : Int32.ofInt 1 = 1)) (by decide) rfl (fun ls hl => ?_)
      refine lv_goto (tgt := 20) hx hb d_X_happy_48 (by decide) ?_
      exact ih _ _ _ (lp_back h hr) k1 ls _ _ hG (lv_sub hl [2, 3, 4, 1, 0] rfl)
set_option maxHeartbeats 4000000 in
set_option maxRecDepth 100000 in
theorem c_X_happy (l : Launch) (w : gw) (S : St) (x1 : Int32)  {z : Int32 × St} (h : (X_happy S x1) = some z) : gMi l w y_X_happy b_X_happy 5 (some .int) (rmm 4 91) [.ref (gad w 0), .int x1] S z.1 z.2 := by
  unfold X_happy at h
  refine g_met (Qc := gQi w z.1 z.2) (by decide +kernel) (Nat.le_of_ble_eq_true rfl) ?_
  intro p e s m args below meth c A Q ls hQ C hG hl
  have hx := C.1
  have hb := C.2.1
  have hl : lv_has ls 5 [(0, .ref (gad w 0)), (1, .int x1)] := hl
  have J51 : ∀ (S : St) (x3 : Int32), X_happy_J51 S x3 = some z → ∀ (ls : Array Slot) (H : Heap) (locs : List Loc), GH w s A S H locs → lv_has ls 5 [(3, .int x3)] → W p l e (rmm 4 91) s m args below meth c H locs 0 0 Q (F0 m 51 ls []) := by
    intro S x3 h ls H locs hG hl
    unfold X_happy_J51 at h
    refine lv_iload_n hx hb d_X_happy_51 rfl (lv_at hl 0 rfl) ?_
    exact g_iret C hG (sm_fst h) (sm_snd h) hQ d_X_happy_52
  refine lv_iload_n hx hb d_X_happy_0 rfl (lv_at hl 1 rfl) ?_
  refine g_goi hG (g_runS (As := [.int x1]) (rest := []) C hG (c_X_isBidder l w S x1 _) sw_X_91 rfl rfl ⟨by decide, by decide⟩ rfl hl.1 rfl (Nat.le_of_ble_eq_true rfl) d_X_happy_1 ⟨Nat.zero_le _, Nat.zero_le _⟩) (fun H locs hG => ?_)
  refine lv_if_ne (tgt := 10) hx hb d_X_happy_4 (by decide) (fun hc => ?_) (fun hc => ?_)
  · replace h := it_f h hc
    refine lv_aload_n hx hb d_X_happy_10 rfl (lv_at hl 0 rfl) ?_
    obtain ⟨z2, hz2, h⟩ := bnd_some h
    refine g_gor hG (g_runV (As := []) (rest := []) C hG (c_X_judgedOutcome l w S hz2 _) (hG.lt (Nat.le_of_ble_eq_true rfl)) (ce0 w _) rfl vw_X_78 rfl rfl ⟨by decide, by decide⟩ rfl hl.1 rfl (Nat.le_of_ble_eq_true rfl) d_X_happy_11 ⟨Nat.zero_le _, Nat.zero_le _⟩) (fun H locs hG => ?_)
    refine lv_astore_n (lv' := [(2, .ref (gad w 27)), (0, .ref (gad w 0)), (1, .int x1)]) hx hb d_X_happy_14 rfl hl (by decide) rfl (fun ls hl => ?_)
    refine lv_iconst (v := 0) hx hb d_X_happy_15 (by decide) ?_
    refine lv_istore_n (lv' := [(3, .int 0), (2, .ref (gad w 27)), (0, .ref (gad w 0)), (1, .int x1)]) hx hb d_X_happy_16 rfl hl (by decide) rfl (fun ls hl => ?_)
    refine lv_iconst (v := 0) hx hb d_X_happy_17 (by decide) ?_
    refine lv_istore (lv' := [(4, .int 0), (3, .int 0), (2, .ref (gad w 27)), (0, .ref (gad w 0)), (1, .int x1)]) hx hb d_X_happy_18 hl (by decide) rfl (fun ls hl => ?_)
    obtain ⟨z3, hz3, h⟩ := bnd_some h
    refine L_X_happy_20 C _ _ FZ _ _ _ hz3 ?_ ls _ _ hG (lv_sub hl [3, 4, 2, 1, 0] rfl)
    intro y3 y4 e9 ls H locs hG hl
    subst e9
    exact J51 _ _ h ls _ _ hG (lv_sub hl [0] rfl)
  · replace h := it_t h hc
    refine lv_bipush (v := (-2)) hx hb d_X_happy_7 (by decide) ?_
    exact g_iret C hG (sm_fst h) (sm_snd h) hQ d_X_happy_9
theorem d_X_wet_0 : decode b_X_wet 0 = .ok (.iload_n 1, 1) := by decide +kernel
theorem d_X_wet_1 : decode b_X_wet 1 = .ok (.invokestatic 91, 3) := by decide +kernel
theorem d_X_wet_4 : decode b_X_wet 4 = .ok (.ifCond .ne 6, 3) := by decide +kernel
theorem d_X_wet_7 : decode b_X_wet 7 = .ok (.bipush (-2), 2) := by decide +kernel
theorem d_X_wet_9 : decode b_X_wet 9 = .ok (.ireturn, 1) := by decide +kernel
theorem d_X_wet_10 : decode b_X_wet 10 = .ok (.aload_n 0, 1) := by decide +kernel
theorem d_X_wet_11 : decode b_X_wet 11 = .ok (.invokevirtual 78, 3) := by decide +kernel
theorem d_X_wet_14 : decode b_X_wet 14 = .ok (.astore_n 3, 1) := by decide +kernel
theorem d_X_wet_15 : decode b_X_wet 15 = .ok (.iconst 0, 1) := by decide +kernel
theorem d_X_wet_16 : decode b_X_wet 16 = .ok (.istore 4, 2) := by decide +kernel
theorem d_X_wet_18 : decode b_X_wet 18 = .ok (.iload_n 2, 1) := by decide +kernel
theorem d_X_wet_19 : decode b_X_wet 19 = .ok (.istore 5, 2) := by decide +kernel
theorem d_X_wet_21 : decode b_X_wet 21 = .ok (.iconst 0, 1) := by decide +kernel
theorem d_X_wet_22 : decode b_X_wet 22 = .ok (.istore 6, 2) := by decide +kernel
theorem d_X_wet_24 : decode b_X_wet 24 = .ok (.iload 6, 2) := by decide +kernel
theorem d_X_wet_26 : decode b_X_wet 26 = .ok (.bipush 10, 2) := by decide +kernel
theorem d_X_wet_28 : decode b_X_wet 28 = .ok (.if_icmp .ge 73, 3) := by decide +kernel
theorem d_X_wet_31 : decode b_X_wet 31 = .ok (.ldc 182, 2) := by decide +kernel
theorem d_X_wet_33 : decode b_X_wet 33 = .ok (.iload 5, 2) := by decide +kernel
theorem d_X_wet_35 : decode b_X_wet 35 = .ok (.imul, 1) := by decide +kernel
theorem d_X_wet_36 : decode b_X_wet 36 = .ok (.sipush 12345, 3) := by decide +kernel
theorem d_X_wet_39 : decode b_X_wet 39 = .ok (.iadd, 1) := by decide +kernel
theorem d_X_wet_40 : decode b_X_wet 40 = .ok (.istore 5, 2) := by decide +kernel
theorem d_X_wet_42 : decode b_X_wet 42 = .ok (.iload 5, 2) := by decide +kernel
theorem d_X_wet_44 : decode b_X_wet 44 = .ok (.bipush 16, 2) := by decide +kernel
theorem d_X_wet_46 : decode b_X_wet 46 = .ok (.iushr, 1) := by decide +kernel
theorem d_X_wet_47 : decode b_X_wet 47 = .ok (.bipush 16, 2) := by decide +kernel
theorem d_X_wet_49 : decode b_X_wet 49 = .ok (.irem, 1) := by decide +kernel
theorem d_X_wet_50 : decode b_X_wet 50 = .ok (.aload_n 0, 1) := by decide +kernel
theorem d_X_wet_51 : decode b_X_wet 51 = .ok (.getfield 10, 3) := by decide +kernel
theorem d_X_wet_54 : decode b_X_wet 54 = .ok (.getfield 125, 3) := by decide +kernel
theorem d_X_wet_57 : decode b_X_wet 57 = .ok (.iload 6, 2) := by decide +kernel
theorem d_X_wet_59 : decode b_X_wet 59 = .ok (.iaload, 1) := by decide +kernel
theorem d_X_wet_60 : decode b_X_wet 60 = .ok (.if_icmp .ge 7, 3) := by decide +kernel
theorem d_X_wet_63 : decode b_X_wet 63 = .ok (.iconst 1, 1) := by decide +kernel
theorem d_X_wet_64 : decode b_X_wet 64 = .ok (.goto 4, 3) := by decide +kernel
theorem d_X_wet_67 : decode b_X_wet 67 = .ok (.iconst 0, 1) := by decide +kernel
theorem d_X_wet_68 : decode b_X_wet 68 = .ok (.istore 7, 2) := by decide +kernel
theorem d_X_wet_70 : decode b_X_wet 70 = .ok (.iload 7, 2) := by decide +kernel
theorem d_X_wet_72 : decode b_X_wet 72 = .ok (.ifCond .ne 23, 3) := by decide +kernel
theorem d_X_wet_75 : decode b_X_wet 75 = .ok (.iload 4, 2) := by decide +kernel
theorem d_X_wet_77 : decode b_X_wet 77 = .ok (.aload_n 0, 1) := by decide +kernel
theorem d_X_wet_78 : decode b_X_wet 78 = .ok (.getfield 10, 3) := by decide +kernel
theorem d_X_wet_81 : decode b_X_wet 81 = .ok (.aload_n 3, 1) := by decide +kernel
theorem d_X_wet_82 : decode b_X_wet 82 = .ok (.getfield 163, 3) := by decide +kernel
theorem d_X_wet_85 : decode b_X_wet 85 = .ok (.iload 6, 2) := by decide +kernel
theorem d_X_wet_87 : decode b_X_wet 87 = .ok (.iaload, 1) := by decide +kernel
theorem d_X_wet_88 : decode b_X_wet 88 = .ok (.iload_n 1, 1) := by decide +kernel
theorem d_X_wet_89 : decode b_X_wet 89 = .ok (.invokevirtual 179, 3) := by decide +kernel
theorem d_X_wet_92 : decode b_X_wet 92 = .ok (.iadd, 1) := by decide +kernel
theorem d_X_wet_93 : decode b_X_wet 93 = .ok (.istore 4, 2) := by decide +kernel
theorem d_X_wet_95 : decode b_X_wet 95 = .ok (.iinc 6 1, 3) := by decide +kernel
theorem d_X_wet_98 : decode b_X_wet 98 = .ok (.goto (-74), 3) := by decide +kernel
theorem d_X_wet_101 : decode b_X_wet 101 = .ok (.iload 4, 2) := by decide +kernel
theorem d_X_wet_103 : decode b_X_wet 103 = .ok (.ireturn, 1) := by decide +kernel
noncomputable def X_wet_J68 (S : St) (x1 : Int32) (x4 : Int32) (x5 : Int32) (x6 : Int32) (t0 : Int32) : Option ((Int32 × Int32 × Int32) × Nat) :=
  if t0 = 0 then
      chk (inb x6 10) <|
      bnd (TW_joyBy S (S 29 (ix x6)) x1) fun z1 =>
      some ((x4 + z1, x5, x6 + 1), 0)
    else
      some ((x4, x5, x6 + 1), 0)
noncomputable def X_wet_L24 (S : St) (x1 : Int32) (x4 : Int32) (x5 : Int32) (x6 : Int32) : Option ((Int32 × Int32 × Int32) × Nat) :=
  if 10 ≤ x6 then
      some ((x4, x5, x6), 1)
    else
      chk (inb x6 10) <|
      if (S 23 (ix x6)) ≤ (((((1103515245 * x5) + 12345).toUInt32 >>> ((16 : Int32).toUInt32 &&& Int32.toUInt32 31)).toInt32) - ((((1103515245 * x5) + 12345).toUInt32 >>> ((16 : Int32).toUInt32 &&& Int32.toUInt32 31)).toInt32) / 16 * 16) then
        X_wet_J68 S x1 x4 ((1103515245 * x5) + 12345) x6 0
      else
        X_wet_J68 S x1 x4 ((1103515245 * x5) + 12345) x6 1
noncomputable def X_wet_J101 (S : St) (x4 : Int32) : Option (Int32 × St) :=
  some (x4, S)
noncomputable def X_wet (S : St) (x1 : Int32) (x2 : Int32) : Option (Int32 × St) :=
  if (X_isBidder x1) = 0 then
      some ((-2), S)
    else
      bnd (X_judgedOutcome S) fun z2 =>
      bnd (lp (σ := Int32 × Int32 × Int32) (fun q => X_wet_L24 z2 x1 q.1 q.2.1 q.2.2) FZ (0, x2, 0)) fun z3 =>
      X_wet_J101 z2 z3.1.1
set_option maxHeartbeats 4000000 in
set_option maxRecDepth 100000 in
theorem L_X_wet_24 (C : gCx p s m args meth c y_X_wet.cls b_X_wet 8 (some .int)) : ∀ (S : St) (x1 : Int32) (n : Nat) (x4 : Int32) (x5 : Int32) (x6 : Int32) (r : (Int32 × Int32 × Int32) × Nat), lp (σ := Int32 × Int32 × Int32) (fun q => X_wet_L24 S x1 q.1 q.2.1 q.2.2) n (x4, x5, x6) = some r → (∀ (y4 : Int32) (y5 : Int32) (y6 : Int32), r = ((y4, y5, y6), 1) → ∀ (ls : Array Slot) (H : Heap) (locs : List Loc), GH w s A S H locs → lv_has ls 8 [(4, .int y4)] → W p l e (rmm 4 91) s m args below meth c H locs 0 0 Q (F0 m 101 ls [])) → ∀ (ls : Array Slot) (H : Heap) (locs : List Loc), GH w s A S H locs → lv_has ls 8 [(0, .ref (gad w 0)), (1, .int x1), (3, .ref (gad w 27)), (4, .int x4), (5, .int x5), (6, .int x6)] → W p l e (rmm 4 91) s m args below meth c H locs 0 0 Q (F0 m 24 ls []) := by
  have hx := C.1
  have hb := C.2.1
  intro S x1 n
  induction n with
  | zero => intro x4 x5 x6 r h; cases h
  | succ n ih =>
    intro x4 x5 x6 r h k1 ls H locs hG hl
    obtain ⟨z, h, hr⟩ := lp_succ h
    have h : X_wet_L24 S x1 x4 x5 x6 = some z := h
    have J68 : ∀ (x4 : Int32) (x5 : Int32) (x6 : Int32) (t0 : Int32), X_wet_J68 S x1 x4 x5 x6 t0 = some z → ∀ (ls : Array Slot) (H : Heap) (locs : List Loc), GH w s A S H locs → lv_has ls 8 [(0, .ref (gad w 0)), (1, .int x1), (3, .ref (gad w 27)), (4, .int x4), (5, .int x5), (6, .int x6)] → W p l e (rmm 4 91) s m args below meth c H locs 0 0 Q (F0 m 68 ls [.int t0]) := by
      intro x4 x5 x6 t0 h ls H locs hG hl
      unfold X_wet_J68 at h
      refine lv_istore (lv' := [(7, .int t0), (0, .ref (gad w 0)), (1, .int x1), (3, .ref (gad w 27)), (4, .int x4), (5, .int x5), (6, .int x6)]) hx hb d_X_wet_68 hl (by decide) rfl (fun ls hl => ?_)
      refine lv_iload hx hb d_X_wet_70 (lv_at hl 0 rfl) ?_
      refine lv_if_ne (tgt := 95) hx hb d_X_wet_72 (by decide) (fun hc => ?_) (fun hc => ?_)
      · replace h := it_f h hc
        refine lv_iinc (v := x6 + 1) (lv' := [(6, .int (x6 + 1)), (7, .int t0), (0, .ref (gad w 0)), (1, .int x1), (3, .ref (gad w 27)), (4, .int x4), (5, .int x5)]) hx hb d_X_wet_95 hl (k := 6) rfl (congrArg (HAdd.hAdd x6) (by decide : Int32.ofInt 1 = 1)) (by decide) rfl (fun ls hl => ?_)
        refine lv_goto (tgt := 24) hx hb d_X_wet_98 (by decide) ?_
        exact ih _ _ _ _ (lp_back h hr) k1 ls _ _ hG (lv_sub hl [2, 3, 4, 5, 6, 0] rfl)
      · replace h := it_t h hc
        refine lv_iload hx hb d_X_wet_75 (lv_at hl 4 rfl) ?_
        refine lv_aload_n hx hb d_X_wet_77 rfl (lv_at hl 1 rfl) ?_
        refine g_get C hG (hG.lt (Nat.le_of_ble_eq_true rfl)) (ce0 w _) rfl inC7 0 (Nat.le_of_ble_eq_true rfl) qw199 rfl d_X_wet_78 ?_
        refine lv_aload_n hx hb d_X_wet_81 rfl (lv_at hl 3 rfl) ?_
        refine g_get C hG (hG.lt (Nat.le_of_ble_eq_true rfl)) (ce27 w _) rfl inC3 1 (Nat.le_of_ble_eq_true rfl) qw102 rfl d_X_wet_82 ?_
        refine lv_iload hx hb d_X_wet_85 (lv_at hl 6 rfl) ?_
        obtain ⟨hi1, h⟩ := chk_some h
        refine g_iald (j := ix x6) C hG (hG.lt (Nat.le_of_ble_eq_true rfl)) (ce29 w _) (inb_in hi1) rfl d_X_wet_87 ?_
        refine lv_iload_n hx hb d_X_wet_88 rfl (lv_at hl 2 rfl) ?_
        obtain ⟨z1, hz1, h⟩ := bnd_some h
        refine g_goi hG (g_runV (As := [.int (S 29 (ix x6)), .int x1]) (rest := [.int x4]) C hG (c_TW_joyBy l w S (S 29 (ix x6)) x1 hz1 _) (hG.lt (Nat.le_of_ble_eq_true rfl)) (ce1 w _) rfl vw_X_179 rfl rfl ⟨by decide, by decide⟩ rfl hl.1 rfl (Nat.le_of_ble_eq_true rfl) d_X_wet_89 ⟨Nat.zero_le _, Nat.zero_le _⟩) (fun H locs hG => ?_)
        refine lv_iadd hx hb d_X_wet_92 ?_
        refine lv_istore (lv' := [(4, .int (x4 + z1)), (7, .int t0), (0, .ref (gad w 0)), (1, .int x1), (3, .ref (gad w 27)), (5, .int x5), (6, .int x6)]) hx hb d_X_wet_93 hl (by decide) rfl (fun ls hl => ?_)
        refine lv_iinc (v := x6 + 1) (lv' := [(6, .int (x6 + 1)), (4, .int (x4 + z1)), (7, .int t0), (0, .ref (gad w 0)), (1, .int x1), (3, .ref (gad w 27)), (5, .int x5)]) hx hb d_X_wet_95 hl (k := 6) rfl (congrArg (HAdd.hAdd x6) (by decide : Int32.ofInt 1 = 1)) (by decide) rfl (fun ls hl => ?_)
        refine lv_goto (tgt := 24) hx hb d_X_wet_98 (by decide) ?_
        exact ih _ _ _ _ (lp_back h hr) k1 ls _ _ hG (lv_sub hl [3, 4, 5, 1, 6, 0] rfl)
    unfold X_wet_L24 at h
    refine lv_iload hx hb d_X_wet_24 (lv_at hl 5 rfl) ?_
    refine lv_bipush (v := 10) hx hb d_X_wet_26 (by decide) ?_
    refine lv_icmp_ge (tgt := 101) hx hb d_X_wet_28 (by decide) (fun hc => ?_) (fun hc => ?_)
    · replace h := it_t h hc
      exact k1 _ _ _ (lp_exit h hr) ls _ _ hG (lv_sub hl [3] rfl)
    · replace h := it_f h hc
      refine lv_ldc (v := 1103515245) hx hb C.2.2.2.1 (C.2.2.2.2.1 _ qw405) d_X_wet_31 ?_
      refine lv_iload hx hb d_X_wet_33 (lv_at hl 4 rfl) ?_
      refine lv_imul hx hb d_X_wet_35 ?_
      refine lv_sipush (v := 12345) hx hb d_X_wet_36 (by decide) ?_
      refine lv_iadd hx hb d_X_wet_39 ?_
      refine lv_istore (lv' := [(5, .int ((1103515245 * x5) + 12345)), (0, .ref (gad w 0)), (1, .int x1), (3, .ref (gad w 27)), (4, .int x4), (6, .int x6)]) hx hb d_X_wet_40 hl (by decide) rfl (fun ls hl => ?_)
      refine lv_iload hx hb d_X_wet_42 (lv_at hl 0 rfl) ?_
      refine lv_bipush (v := 16) hx hb d_X_wet_44 (by decide) ?_
      refine lv_iushr (v := (((1103515245 * x5) + 12345).toUInt32 >>> ((16 : Int32).toUInt32 &&& Int32.toUInt32 31)).toInt32) hx hb d_X_wet_46 rfl ?_
      refine lv_bipush (v := 16) hx hb d_X_wet_47 (by decide) ?_
      refine lv_irem hx hb d_X_wet_49 (by decide) ?_
      refine lv_aload_n hx hb d_X_wet_50 rfl (lv_at hl 1 rfl) ?_
      refine g_get C hG (hG.lt (Nat.le_of_ble_eq_true rfl)) (ce0 w _) rfl inC7 0 (Nat.le_of_ble_eq_true rfl) qw199 rfl d_X_wet_51 ?_
      refine g_get C hG (hG.lt (Nat.le_of_ble_eq_true rfl)) (ce1 w _) rfl inC6 6 (Nat.le_of_ble_eq_true rfl) qw47 rfl d_X_wet_54 ?_
      refine lv_iload hx hb d_X_wet_57 (lv_at hl 5 rfl) ?_
      obtain ⟨hi2, h⟩ := chk_some h
      refine g_iald (j := ix x6) C hG (hG.lt (Nat.le_of_ble_eq_true rfl)) (ce23 w _) (inb_in hi2) rfl d_X_wet_59 ?_
      refine lv_icmp_ge (tgt := 67) hx hb d_X_wet_60 (by decide) (fun hc => ?_) (fun hc => ?_)
      · replace h := it_t h hc
        refine lv_iconst (v := 0) hx hb d_X_wet_67 (by decide) ?_
        exact J68 _ _ _ _ h ls _ _ hG (lv_sub hl [1, 2, 3, 4, 0, 5] rfl)
      · replace h := it_f h hc
        refine lv_iconst (v := 1) hx hb d_X_wet_63 (by decide) ?_
        refine lv_goto (tgt := 68) hx hb d_X_wet_64 (by decide) ?_
        exact J68 _ _ _ _ h ls _ _ hG (lv_sub hl [1, 2, 3, 4, 0, 5] rfl)
set_option maxHeartbeats 4000000 in
set_option maxRecDepth 100000 in
theorem c_X_wet (l : Launch) (w : gw) (S : St) (x1 : Int32) (x2 : Int32)  {z : Int32 × St} (h : (X_wet S x1 x2) = some z) : gMi l w y_X_wet b_X_wet 8 (some .int) (rmm 4 91) [.ref (gad w 0), .int x1, .int x2] S z.1 z.2 := by
  unfold X_wet at h
  refine g_met (Qc := gQi w z.1 z.2) (by decide +kernel) (Nat.le_of_ble_eq_true rfl) ?_
  intro p e s m args below meth c A Q ls hQ C hG hl
  have hx := C.1
  have hb := C.2.1
  have hl : lv_has ls 8 [(0, .ref (gad w 0)), (1, .int x1), (2, .int x2)] := hl
  have J101 : ∀ (S : St) (x4 : Int32), X_wet_J101 S x4 = some z → ∀ (ls : Array Slot) (H : Heap) (locs : List Loc), GH w s A S H locs → lv_has ls 8 [(4, .int x4)] → W p l e (rmm 4 91) s m args below meth c H locs 0 0 Q (F0 m 101 ls []) := by
    intro S x4 h ls H locs hG hl
    unfold X_wet_J101 at h
    refine lv_iload hx hb d_X_wet_101 (lv_at hl 0 rfl) ?_
    exact g_iret C hG (sm_fst h) (sm_snd h) hQ d_X_wet_103
  refine lv_iload_n hx hb d_X_wet_0 rfl (lv_at hl 1 rfl) ?_
  refine g_goi hG (g_runS (As := [.int x1]) (rest := []) C hG (c_X_isBidder l w S x1 _) sw_X_91 rfl rfl ⟨by decide, by decide⟩ rfl hl.1 rfl (Nat.le_of_ble_eq_true rfl) d_X_wet_1 ⟨Nat.zero_le _, Nat.zero_le _⟩) (fun H locs hG => ?_)
  refine lv_if_ne (tgt := 10) hx hb d_X_wet_4 (by decide) (fun hc => ?_) (fun hc => ?_)
  · replace h := it_f h hc
    refine lv_aload_n hx hb d_X_wet_10 rfl (lv_at hl 0 rfl) ?_
    obtain ⟨z2, hz2, h⟩ := bnd_some h
    refine g_gor hG (g_runV (As := []) (rest := []) C hG (c_X_judgedOutcome l w S hz2 _) (hG.lt (Nat.le_of_ble_eq_true rfl)) (ce0 w _) rfl vw_X_78 rfl rfl ⟨by decide, by decide⟩ rfl hl.1 rfl (Nat.le_of_ble_eq_true rfl) d_X_wet_11 ⟨Nat.zero_le _, Nat.zero_le _⟩) (fun H locs hG => ?_)
    refine lv_astore_n (lv' := [(3, .ref (gad w 27)), (0, .ref (gad w 0)), (1, .int x1), (2, .int x2)]) hx hb d_X_wet_14 rfl hl (by decide) rfl (fun ls hl => ?_)
    refine lv_iconst (v := 0) hx hb d_X_wet_15 (by decide) ?_
    refine lv_istore (lv' := [(4, .int 0), (3, .ref (gad w 27)), (0, .ref (gad w 0)), (1, .int x1), (2, .int x2)]) hx hb d_X_wet_16 hl (by decide) rfl (fun ls hl => ?_)
    refine lv_iload_n hx hb d_X_wet_18 rfl (lv_at hl 4 rfl) ?_
    refine lv_istore (lv' := [(5, .int x2), (4, .int 0), (3, .ref (gad w 27)), (0, .ref (gad w 0)), (1, .int x1), (2, .int x2)]) hx hb d_X_wet_19 hl (by decide) rfl (fun ls hl => ?_)
    refine lv_iconst (v := 0) hx hb d_X_wet_21 (by decide) ?_
    refine lv_istore (lv' := [(6, .int 0), (5, .int x2), (4, .int 0), (3, .ref (gad w 27)), (0, .ref (gad w 0)), (1, .int x1), (2, .int x2)]) hx hb d_X_wet_22 hl (by decide) rfl (fun ls hl => ?_)
    obtain ⟨z3, hz3, h⟩ := bnd_some h
    refine L_X_wet_24 C _ _ FZ _ _ _ _ hz3 ?_ ls _ _ hG (lv_sub hl [4, 5, 3, 2, 1, 0] rfl)
    intro y4 y5 y6 e9 ls H locs hG hl
    subst e9
    exact J101 _ _ h ls _ _ hG (lv_sub hl [0] rfl)
  · replace h := it_t h hc
    refine lv_bipush (v := (-2)) hx hb d_X_wet_7 (by decide) ?_
    exact g_iret C hG (sm_fst h) (sm_snd h) hQ d_X_wet_9
theorem d_X_harm_0 : decode b_X_harm 0 = .ok (.iload_n 1, 1) := by decide +kernel
theorem d_X_harm_1 : decode b_X_harm 1 = .ok (.invokestatic 109, 3) := by decide +kernel
theorem d_X_harm_4 : decode b_X_harm 4 = .ok (.ifCond .ne 6, 3) := by decide +kernel
theorem d_X_harm_7 : decode b_X_harm 7 = .ok (.bipush (-2), 2) := by decide +kernel
theorem d_X_harm_9 : decode b_X_harm 9 = .ok (.ireturn, 1) := by decide +kernel
theorem d_X_harm_10 : decode b_X_harm 10 = .ok (.aload_n 0, 1) := by decide +kernel
theorem d_X_harm_11 : decode b_X_harm 11 = .ok (.invokevirtual 78, 3) := by decide +kernel
theorem d_X_harm_14 : decode b_X_harm 14 = .ok (.getfield 163, 3) := by decide +kernel
theorem d_X_harm_17 : decode b_X_harm 17 = .ok (.iload_n 1, 1) := by decide +kernel
theorem d_X_harm_18 : decode b_X_harm 18 = .ok (.iaload, 1) := by decide +kernel
theorem d_X_harm_19 : decode b_X_harm 19 = .ok (.istore_n 2, 1) := by decide +kernel
theorem d_X_harm_20 : decode b_X_harm 20 = .ok (.iload_n 2, 1) := by decide +kernel
theorem d_X_harm_21 : decode b_X_harm 21 = .ok (.invokestatic 91, 3) := by decide +kernel
theorem d_X_harm_24 : decode b_X_harm 24 = .ok (.ifCond .ne 6, 3) := by decide +kernel
theorem d_X_harm_27 : decode b_X_harm 27 = .ok (.bipush (-3), 2) := by decide +kernel
theorem d_X_harm_29 : decode b_X_harm 29 = .ok (.ireturn, 1) := by decide +kernel
theorem d_X_harm_30 : decode b_X_harm 30 = .ok (.iconst 0, 1) := by decide +kernel
theorem d_X_harm_31 : decode b_X_harm 31 = .ok (.istore_n 3, 1) := by decide +kernel
theorem d_X_harm_32 : decode b_X_harm 32 = .ok (.iconst 0, 1) := by decide +kernel
theorem d_X_harm_33 : decode b_X_harm 33 = .ok (.istore 4, 2) := by decide +kernel
theorem d_X_harm_35 : decode b_X_harm 35 = .ok (.iload 4, 2) := by decide +kernel
theorem d_X_harm_37 : decode b_X_harm 37 = .ok (.iconst 5, 1) := by decide +kernel
theorem d_X_harm_38 : decode b_X_harm 38 = .ok (.if_icmp .ge 23, 3) := by decide +kernel
theorem d_X_harm_41 : decode b_X_harm 41 = .ok (.iload_n 3, 1) := by decide +kernel
theorem d_X_harm_42 : decode b_X_harm 42 = .ok (.aload_n 0, 1) := by decide +kernel
theorem d_X_harm_43 : decode b_X_harm 43 = .ok (.getfield 10, 3) := by decide +kernel
theorem d_X_harm_46 : decode b_X_harm 46 = .ok (.iload 4, 2) := by decide +kernel
theorem d_X_harm_48 : decode b_X_harm 48 = .ok (.invokevirtual 183, 3) := by decide +kernel
theorem d_X_harm_51 : decode b_X_harm 51 = .ok (.invokestatic 186, 3) := by decide +kernel
theorem d_X_harm_54 : decode b_X_harm 54 = .ok (.istore_n 3, 1) := by decide +kernel
theorem d_X_harm_55 : decode b_X_harm 55 = .ok (.iinc 4 1, 3) := by decide +kernel
theorem d_X_harm_58 : decode b_X_harm 58 = .ok (.goto (-23), 3) := by decide +kernel
theorem d_X_harm_61 : decode b_X_harm 61 = .ok (.iload_n 3, 1) := by decide +kernel
theorem d_X_harm_62 : decode b_X_harm 62 = .ok (.aload_n 0, 1) := by decide +kernel
theorem d_X_harm_63 : decode b_X_harm 63 = .ok (.getfield 10, 3) := by decide +kernel
theorem d_X_harm_66 : decode b_X_harm 66 = .ok (.aload_n 0, 1) := by decide +kernel
theorem d_X_harm_67 : decode b_X_harm 67 = .ok (.getfield 10, 3) := by decide +kernel
theorem d_X_harm_70 : decode b_X_harm 70 = .ok (.getfield 106, 3) := by decide +kernel
theorem d_X_harm_73 : decode b_X_harm 73 = .ok (.iload_n 2, 1) := by decide +kernel
theorem d_X_harm_74 : decode b_X_harm 74 = .ok (.iaload, 1) := by decide +kernel
theorem d_X_harm_75 : decode b_X_harm 75 = .ok (.invokevirtual 183, 3) := by decide +kernel
theorem d_X_harm_78 : decode b_X_harm 78 = .ok (.isub, 1) := by decide +kernel
theorem d_X_harm_79 : decode b_X_harm 79 = .ok (.ireturn, 1) := by decide +kernel
noncomputable def X_harm_L35 (S : St) (x2 : Int32) (x3 : Int32) (x4 : Int32) : Option ((Int32 × Int32) × Nat) :=
  if 5 ≤ x4 then
      some ((x3, x4), 1)
    else
      bnd (TW_joyOfAll S x4) fun z1 =>
      some ((mx x3 z1, x4 + 1), 0)
noncomputable def X_harm_J61 (S : St) (x2 : Int32) (x3 : Int32) : Option (Int32 × St) :=
  chk (inb x2 5) <|
    bnd (TW_joyOfAll S (S 3 (ix x2))) fun z2 =>
    some (x3 - z2, S)
noncomputable def X_harm (S : St) (x1 : Int32) : Option (Int32 × St) :=
  if (X_isEvening x1) = 0 then
      some ((-2), S)
    else
      bnd (X_judgedOutcome S) fun z3 =>
      chk (inb x1 10) <|
      if (X_isBidder (z3 29 (ix x1))) = 0 then
        some ((-3), z3)
      else
        bnd (lp (σ := Int32 × Int32) (fun q => X_harm_L35 z3 (z3 29 (ix x1)) q.1 q.2) FZ (0, 0)) fun z4 =>
        X_harm_J61 z3 (z3 29 (ix x1)) z4.1.1
set_option maxHeartbeats 4000000 in
set_option maxRecDepth 100000 in
theorem L_X_harm_35 (C : gCx p s m args meth c y_X_harm.cls b_X_harm 5 (some .int)) : ∀ (S : St) (x2 : Int32) (n : Nat) (x3 : Int32) (x4 : Int32) (r : (Int32 × Int32) × Nat), lp (σ := Int32 × Int32) (fun q => X_harm_L35 S x2 q.1 q.2) n (x3, x4) = some r → (∀ (y3 : Int32) (y4 : Int32), r = ((y3, y4), 1) → ∀ (ls : Array Slot) (H : Heap) (locs : List Loc), GH w s A S H locs → lv_has ls 5 [(0, .ref (gad w 0)), (2, .int x2), (3, .int y3)] → W p l e (rmm 4 91) s m args below meth c H locs 0 0 Q (F0 m 61 ls [])) → ∀ (ls : Array Slot) (H : Heap) (locs : List Loc), GH w s A S H locs → lv_has ls 5 [(0, .ref (gad w 0)), (2, .int x2), (3, .int x3), (4, .int x4)] → W p l e (rmm 4 91) s m args below meth c H locs 0 0 Q (F0 m 35 ls []) := by
  have hx := C.1
  have hb := C.2.1
  intro S x2 n
  induction n with
  | zero => intro x3 x4 r h; cases h
  | succ n ih =>
    intro x3 x4 r h k1 ls H locs hG hl
    obtain ⟨z, h, hr⟩ := lp_succ h
    have h : X_harm_L35 S x2 x3 x4 = some z := h
    unfold X_harm_L35 at h
    refine lv_iload hx hb d_X_harm_35 (lv_at hl 3 rfl) ?_
    refine lv_iconst (v := 5) hx hb d_X_harm_37 (by decide) ?_
    refine lv_icmp_ge (tgt := 61) hx hb d_X_harm_38 (by decide) (fun hc => ?_) (fun hc => ?_)
    · replace h := it_t h hc
      exact k1 _ _ (lp_exit h hr) ls _ _ hG (lv_sub hl [0, 1, 2] rfl)
    · replace h := it_f h hc
      refine lv_iload_n hx hb d_X_harm_41 rfl (lv_at hl 2 rfl) ?_
      refine lv_aload_n hx hb d_X_harm_42 rfl (lv_at hl 0 rfl) ?_
      refine g_get C hG (hG.lt (Nat.le_of_ble_eq_true rfl)) (ce0 w _) rfl inC7 0 (Nat.le_of_ble_eq_true rfl) qw199 rfl d_X_harm_43 ?_
      refine lv_iload hx hb d_X_harm_46 (lv_at hl 3 rfl) ?_
      obtain ⟨z1, hz1, h⟩ := bnd_some h
      refine g_goi hG (g_runV (As := [.int x4]) (rest := [.int x3]) C hG (c_TW_joyOfAll l w S x4 hz1 _) (hG.lt (Nat.le_of_ble_eq_true rfl)) (ce1 w _) rfl vw_X_183 rfl rfl ⟨by decide, by decide⟩ rfl hl.1 rfl (Nat.le_of_ble_eq_true rfl) d_X_harm_48 ⟨Nat.zero_le _, Nat.zero_le _⟩) (fun H locs hG => ?_)
      refine g_max C hl.1 qw414 ⟨by decide, by decide⟩ (Nat.le_of_ble_eq_true rfl) ⟨Nat.zero_le _, Nat.zero_le _⟩ d_X_harm_51 ?_
      refine lv_istore_n (lv' := [(3, .int (mx x3 z1)), (0, .ref (gad w 0)), (2, .int x2), (4, .int x4)]) hx hb d_X_harm_54 rfl hl (by decide) rfl (fun ls hl => ?_)
      refine lv_iinc (v := x4 + 1) (lv' := [(4, .int (x4 + 1)), (3, .int (mx x3 z1)), (0, .ref (gad w 0)), (2, .int x2)]) hx hb d_X_harm_55 hl (k := 3) rfl (congrArg (HAdd.hAdd x4) (by decide : Int32.ofInt 1 = 1)) (by decide) rfl (fun ls hl => ?_)
      refine lv_goto (tgt := 35) hx hb d_X_harm_58 (by decide) ?_
      exact ih _ _ _ (lp_back h hr) k1 ls _ _ hG (lv_sub hl [2, 3, 1, 0] rfl)
set_option maxHeartbeats 4000000 in
set_option maxRecDepth 100000 in
theorem c_X_harm (l : Launch) (w : gw) (S : St) (x1 : Int32)  {z : Int32 × St} (h : (X_harm S x1) = some z) : gMi l w y_X_harm b_X_harm 5 (some .int) (rmm 4 91) [.ref (gad w 0), .int x1] S z.1 z.2 := by
  unfold X_harm at h
  refine g_met (Qc := gQi w z.1 z.2) (by decide +kernel) (Nat.le_of_ble_eq_true rfl) ?_
  intro p e s m args below meth c A Q ls hQ C hG hl
  have hx := C.1
  have hb := C.2.1
  have hl : lv_has ls 5 [(0, .ref (gad w 0)), (1, .int x1)] := hl
  have J61 : ∀ (S : St) (x2 : Int32) (x3 : Int32), X_harm_J61 S x2 x3 = some z → ∀ (ls : Array Slot) (H : Heap) (locs : List Loc), GH w s A S H locs → lv_has ls 5 [(0, .ref (gad w 0)), (2, .int x2), (3, .int x3)] → W p l e (rmm 4 91) s m args below meth c H locs 0 0 Q (F0 m 61 ls []) := by
    intro S x2 x3 h ls H locs hG hl
    unfold X_harm_J61 at h
    refine lv_iload_n hx hb d_X_harm_61 rfl (lv_at hl 2 rfl) ?_
    refine lv_aload_n hx hb d_X_harm_62 rfl (lv_at hl 0 rfl) ?_
    refine g_get C hG (hG.lt (Nat.le_of_ble_eq_true rfl)) (ce0 w _) rfl inC7 0 (Nat.le_of_ble_eq_true rfl) qw199 rfl d_X_harm_63 ?_
    refine lv_aload_n hx hb d_X_harm_66 rfl (lv_at hl 0 rfl) ?_
    refine g_get C hG (hG.lt (Nat.le_of_ble_eq_true rfl)) (ce0 w _) rfl inC7 0 (Nat.le_of_ble_eq_true rfl) qw199 rfl d_X_harm_67 ?_
    refine g_get C hG (hG.lt (Nat.le_of_ble_eq_true rfl)) (ce1 w _) rfl inC6 1 (Nat.le_of_ble_eq_true rfl) qw33 rfl d_X_harm_70 ?_
    refine lv_iload_n hx hb d_X_harm_73 rfl (lv_at hl 1 rfl) ?_
    obtain ⟨hi1, h⟩ := chk_some h
    refine g_iald (j := ix x2) C hG (hG.lt (Nat.le_of_ble_eq_true rfl)) (ce3 w _) (inb_in hi1) rfl d_X_harm_74 ?_
    obtain ⟨z2, hz2, h⟩ := bnd_some h
    refine g_goi hG (g_runV (As := [.int (S 3 (ix x2))]) (rest := [.int x3]) C hG (c_TW_joyOfAll l w S (S 3 (ix x2)) hz2 _) (hG.lt (Nat.le_of_ble_eq_true rfl)) (ce1 w _) rfl vw_X_183 rfl rfl ⟨by decide, by decide⟩ rfl hl.1 rfl (Nat.le_of_ble_eq_true rfl) d_X_harm_75 ⟨Nat.zero_le _, Nat.zero_le _⟩) (fun H locs hG => ?_)
    refine lv_isub hx hb d_X_harm_78 ?_
    exact g_iret C hG (sm_fst h) (sm_snd h) hQ d_X_harm_79
  refine lv_iload_n hx hb d_X_harm_0 rfl (lv_at hl 1 rfl) ?_
  refine g_goi hG (g_runS (As := [.int x1]) (rest := []) C hG (c_X_isEvening l w S x1 _) sw_X_109 rfl rfl ⟨by decide, by decide⟩ rfl hl.1 rfl (Nat.le_of_ble_eq_true rfl) d_X_harm_1 ⟨Nat.zero_le _, Nat.zero_le _⟩) (fun H locs hG => ?_)
  refine lv_if_ne (tgt := 10) hx hb d_X_harm_4 (by decide) (fun hc => ?_) (fun hc => ?_)
  · replace h := it_f h hc
    refine lv_aload_n hx hb d_X_harm_10 rfl (lv_at hl 0 rfl) ?_
    obtain ⟨z3, hz3, h⟩ := bnd_some h
    refine g_gor hG (g_runV (As := []) (rest := []) C hG (c_X_judgedOutcome l w S hz3 _) (hG.lt (Nat.le_of_ble_eq_true rfl)) (ce0 w _) rfl vw_X_78 rfl rfl ⟨by decide, by decide⟩ rfl hl.1 rfl (Nat.le_of_ble_eq_true rfl) d_X_harm_11 ⟨Nat.zero_le _, Nat.zero_le _⟩) (fun H locs hG => ?_)
    refine g_get C hG (hG.lt (Nat.le_of_ble_eq_true rfl)) (ce27 w _) rfl inC3 1 (Nat.le_of_ble_eq_true rfl) qw102 rfl d_X_harm_14 ?_
    refine lv_iload_n hx hb d_X_harm_17 rfl (lv_at hl 1 rfl) ?_
    obtain ⟨hi2, h⟩ := chk_some h
    refine g_iald (j := ix x1) C hG (hG.lt (Nat.le_of_ble_eq_true rfl)) (ce29 w _) (inb_in hi2) rfl d_X_harm_18 ?_
    refine lv_istore_n (lv' := [(2, .int (z3 29 (ix x1))), (0, .ref (gad w 0)), (1, .int x1)]) hx hb d_X_harm_19 rfl hl (by decide) rfl (fun ls hl => ?_)
    refine lv_iload_n hx hb d_X_harm_20 rfl (lv_at hl 0 rfl) ?_
    refine g_goi hG (g_runS (As := [.int (z3 29 (ix x1))]) (rest := []) C hG (c_X_isBidder l w z3 (z3 29 (ix x1)) _) sw_X_91 rfl rfl ⟨by decide, by decide⟩ rfl hl.1 rfl (Nat.le_of_ble_eq_true rfl) d_X_harm_21 ⟨Nat.zero_le _, Nat.zero_le _⟩) (fun H locs hG => ?_)
    refine lv_if_ne (tgt := 30) hx hb d_X_harm_24 (by decide) (fun hc => ?_) (fun hc => ?_)
    · replace h := it_f h hc
      refine lv_iconst (v := 0) hx hb d_X_harm_30 (by decide) ?_
      refine lv_istore_n (lv' := [(3, .int 0), (2, .int (z3 29 (ix x1))), (0, .ref (gad w 0)), (1, .int x1)]) hx hb d_X_harm_31 rfl hl (by decide) rfl (fun ls hl => ?_)
      refine lv_iconst (v := 0) hx hb d_X_harm_32 (by decide) ?_
      refine lv_istore (lv' := [(4, .int 0), (3, .int 0), (2, .int (z3 29 (ix x1))), (0, .ref (gad w 0)), (1, .int x1)]) hx hb d_X_harm_33 hl (by decide) rfl (fun ls hl => ?_)
      obtain ⟨z4, hz4, h⟩ := bnd_some h
      refine L_X_harm_35 C _ _ FZ _ _ _ hz4 ?_ ls _ _ hG (lv_sub hl [3, 2, 1, 0] rfl)
      intro y3 y4 e9 ls H locs hG hl
      subst e9
      exact J61 _ _ _ h ls _ _ hG (lv_sub hl [0, 1, 2] rfl)
    · replace h := it_t h hc
      refine lv_bipush (v := (-3)) hx hb d_X_harm_27 (by decide) ?_
      exact g_iret C hG (sm_fst h) (sm_snd h) hQ d_X_harm_29
  · replace h := it_t h hc
    refine lv_bipush (v := (-2)) hx hb d_X_harm_7 (by decide) ?_
    exact g_iret C hG (sm_fst h) (sm_snd h) hQ d_X_harm_9
theorem d_X_gain_0 : decode b_X_gain 0 = .ok (.iload_n 1, 1) := by decide +kernel
theorem d_X_gain_1 : decode b_X_gain 1 = .ok (.invokestatic 91, 3) := by decide +kernel
theorem d_X_gain_4 : decode b_X_gain 4 = .ok (.ifCond .ne 7, 3) := by decide +kernel
theorem d_X_gain_7 : decode b_X_gain 7 = .ok (.sipush (-10002), 3) := by decide +kernel
theorem d_X_gain_10 : decode b_X_gain 10 = .ok (.ireturn, 1) := by decide +kernel
theorem d_X_gain_11 : decode b_X_gain 11 = .ok (.aload_n 0, 1) := by decide +kernel
theorem d_X_gain_12 : decode b_X_gain 12 = .ok (.invokevirtual 78, 3) := by decide +kernel
theorem d_X_gain_15 : decode b_X_gain 15 = .ok (.astore_n 2, 1) := by decide +kernel
theorem d_X_gain_16 : decode b_X_gain 16 = .ok (.iconst 0, 1) := by decide +kernel
theorem d_X_gain_17 : decode b_X_gain 17 = .ok (.istore_n 3, 1) := by decide +kernel
theorem d_X_gain_18 : decode b_X_gain 18 = .ok (.iconst 0, 1) := by decide +kernel
theorem d_X_gain_19 : decode b_X_gain 19 = .ok (.istore 4, 2) := by decide +kernel
theorem d_X_gain_21 : decode b_X_gain 21 = .ok (.iload 4, 2) := by decide +kernel
theorem d_X_gain_23 : decode b_X_gain 23 = .ok (.bipush 10, 2) := by decide +kernel
theorem d_X_gain_25 : decode b_X_gain 25 = .ok (.if_icmp .ge 35, 3) := by decide +kernel
theorem d_X_gain_28 : decode b_X_gain 28 = .ok (.aload_n 2, 1) := by decide +kernel
theorem d_X_gain_29 : decode b_X_gain 29 = .ok (.getfield 163, 3) := by decide +kernel
theorem d_X_gain_32 : decode b_X_gain 32 = .ok (.iload 4, 2) := by decide +kernel
theorem d_X_gain_34 : decode b_X_gain 34 = .ok (.iaload, 1) := by decide +kernel
theorem d_X_gain_35 : decode b_X_gain 35 = .ok (.iload_n 1, 1) := by decide +kernel
theorem d_X_gain_36 : decode b_X_gain 36 = .ok (.if_icmp .ne 18, 3) := by decide +kernel
theorem d_X_gain_39 : decode b_X_gain 39 = .ok (.iload_n 3, 1) := by decide +kernel
theorem d_X_gain_40 : decode b_X_gain 40 = .ok (.aload_n 0, 1) := by decide +kernel
theorem d_X_gain_41 : decode b_X_gain 41 = .ok (.getfield 10, 3) := by decide +kernel
theorem d_X_gain_44 : decode b_X_gain 44 = .ok (.getfield 115, 3) := by decide +kernel
theorem d_X_gain_47 : decode b_X_gain 47 = .ok (.iload_n 1, 1) := by decide +kernel
theorem d_X_gain_48 : decode b_X_gain 48 = .ok (.aaload, 1) := by decide +kernel
theorem d_X_gain_49 : decode b_X_gain 49 = .ok (.iload 4, 2) := by decide +kernel
theorem d_X_gain_51 : decode b_X_gain 51 = .ok (.iaload, 1) := by decide +kernel
theorem d_X_gain_52 : decode b_X_gain 52 = .ok (.iadd, 1) := by decide +kernel
theorem d_X_gain_53 : decode b_X_gain 53 = .ok (.istore_n 3, 1) := by decide +kernel
theorem d_X_gain_54 : decode b_X_gain 54 = .ok (.iinc 4 1, 3) := by decide +kernel
theorem d_X_gain_57 : decode b_X_gain 57 = .ok (.goto (-36), 3) := by decide +kernel
theorem d_X_gain_60 : decode b_X_gain 60 = .ok (.iload_n 3, 1) := by decide +kernel
theorem d_X_gain_61 : decode b_X_gain 61 = .ok (.aload_n 2, 1) := by decide +kernel
theorem d_X_gain_62 : decode b_X_gain 62 = .ok (.aload_n 0, 1) := by decide +kernel
theorem d_X_gain_63 : decode b_X_gain 63 = .ok (.getfield 10, 3) := by decide +kernel
theorem d_X_gain_66 : decode b_X_gain 66 = .ok (.iload_n 1, 1) := by decide +kernel
theorem d_X_gain_67 : decode b_X_gain 67 = .ok (.invokevirtual 176, 3) := by decide +kernel
theorem d_X_gain_70 : decode b_X_gain 70 = .ok (.isub, 1) := by decide +kernel
theorem d_X_gain_71 : decode b_X_gain 71 = .ok (.ireturn, 1) := by decide +kernel
noncomputable def X_gain_L21 (S : St) (x1 : Int32) (x3 : Int32) (x4 : Int32) : Option ((Int32 × Int32) × Nat) :=
  if 10 ≤ x4 then
      some ((x3, x4), 1)
    else
      chk (inb x4 10) <|
      if (S 29 (ix x4)) = x1 then
        chk (inb x1 5) <|
        chk (inb x4 10) <|
        some ((x3 + (S (5 + (ix x1)) (ix x4)), x4 + 1), 0)
      else
        some ((x3, x4 + 1), 0)
noncomputable def X_gain_J60 (S : St) (x1 : Int32) (x3 : Int32) : Option (Int32 × St) :=
  bnd (OC_pricesOf S x1) fun z1 =>
    some (x3 - z1, S)
noncomputable def X_gain (S : St) (x1 : Int32) : Option (Int32 × St) :=
  if (X_isBidder x1) = 0 then
      some ((-10002), S)
    else
      bnd (X_judgedOutcome S) fun z2 =>
      bnd (lp (σ := Int32 × Int32) (fun q => X_gain_L21 z2 x1 q.1 q.2) FZ (0, 0)) fun z3 =>
      X_gain_J60 z2 x1 z3.1.1
set_option maxHeartbeats 4000000 in
set_option maxRecDepth 100000 in
theorem L_X_gain_21 (C : gCx p s m args meth c y_X_gain.cls b_X_gain 5 (some .int)) : ∀ (S : St) (x1 : Int32) (n : Nat) (x3 : Int32) (x4 : Int32) (r : (Int32 × Int32) × Nat), lp (σ := Int32 × Int32) (fun q => X_gain_L21 S x1 q.1 q.2) n (x3, x4) = some r → (∀ (y3 : Int32) (y4 : Int32), r = ((y3, y4), 1) → ∀ (ls : Array Slot) (H : Heap) (locs : List Loc), GH w s A S H locs → lv_has ls 5 [(0, .ref (gad w 0)), (1, .int x1), (2, .ref (gad w 27)), (3, .int y3)] → W p l e (rmm 4 91) s m args below meth c H locs 0 0 Q (F0 m 60 ls [])) → ∀ (ls : Array Slot) (H : Heap) (locs : List Loc), GH w s A S H locs → lv_has ls 5 [(0, .ref (gad w 0)), (1, .int x1), (2, .ref (gad w 27)), (3, .int x3), (4, .int x4)] → W p l e (rmm 4 91) s m args below meth c H locs 0 0 Q (F0 m 21 ls []) := by
  have hx := C.1
  have hb := C.2.1
  intro S x1 n
  induction n with
  | zero => intro x3 x4 r h; cases h
  | succ n ih =>
    intro x3 x4 r h k1 ls H locs hG hl
    obtain ⟨z, h, hr⟩ := lp_succ h
    have h : X_gain_L21 S x1 x3 x4 = some z := h
    unfold X_gain_L21 at h
    refine lv_iload hx hb d_X_gain_21 (lv_at hl 4 rfl) ?_
    refine lv_bipush (v := 10) hx hb d_X_gain_23 (by decide) ?_
    refine lv_icmp_ge (tgt := 60) hx hb d_X_gain_25 (by decide) (fun hc => ?_) (fun hc => ?_)
    · replace h := it_t h hc
      exact k1 _ _ (lp_exit h hr) ls _ _ hG (lv_sub hl [0, 1, 2, 3] rfl)
    · replace h := it_f h hc
      refine lv_aload_n hx hb d_X_gain_28 rfl (lv_at hl 2 rfl) ?_
      refine g_get C hG (hG.lt (Nat.le_of_ble_eq_true rfl)) (ce27 w _) rfl inC3 1 (Nat.le_of_ble_eq_true rfl) qw102 rfl d_X_gain_29 ?_
      refine lv_iload hx hb d_X_gain_32 (lv_at hl 4 rfl) ?_
      obtain ⟨hi1, h⟩ := chk_some h
      refine g_iald (j := ix x4) C hG (hG.lt (Nat.le_of_ble_eq_true rfl)) (ce29 w _) (inb_in hi1) rfl d_X_gain_34 ?_
      refine lv_iload_n hx hb d_X_gain_35 rfl (lv_at hl 1 rfl) ?_
      refine lv_icmp_ne (tgt := 54) hx hb d_X_gain_36 (by decide) (fun hc => ?_) (fun hc => ?_)
      · replace h := it_f h hc
        refine lv_iinc (v := x4 + 1) (lv' := [(4, .int (x4 + 1)), (0, .ref (gad w 0)), (1, .int x1), (2, .ref (gad w 27)), (3, .int x3)]) hx hb d_X_gain_54 hl (k := 4) rfl (congrArg (HAdd.hAdd x4) (by decide : Int32.ofInt 1 = 1)) (by decide) rfl (fun ls hl => ?_)
        refine lv_goto (tgt := 21) hx hb d_X_gain_57 (by decide) ?_
        exact ih _ _ _ (lp_back h hr) k1 ls _ _ hG (lv_sub hl [1, 2, 3, 4, 0] rfl)
      · replace h := it_t h hc
        refine lv_iload_n hx hb d_X_gain_39 rfl (lv_at hl 3 rfl) ?_
        refine lv_aload_n hx hb d_X_gain_40 rfl (lv_at hl 0 rfl) ?_
        refine g_get C hG (hG.lt (Nat.le_of_ble_eq_true rfl)) (ce0 w _) rfl inC7 0 (Nat.le_of_ble_eq_true rfl) qw199 rfl d_X_gain_41 ?_
        refine g_get C hG (hG.lt (Nat.le_of_ble_eq_true rfl)) (ce1 w _) rfl inC6 2 (Nat.le_of_ble_eq_true rfl) qw37 rfl d_X_gain_44 ?_
        refine lv_iload_n hx hb d_X_gain_47 rfl (lv_at hl 1 rfl) ?_
        obtain ⟨hi2, h⟩ := chk_some h
        refine g_ald2 (j := ix x1) C hG (hG.lt (Nat.le_of_ble_eq_true rfl)) (ce4 w _) (inb_in hi2) rfl d_X_gain_48 ?_
        have hr3 : ix x1 < 5 := row_lt (inb_in hi2)
        refine lv_iload hx hb d_X_gain_49 (lv_at hl 4 rfl) ?_
        obtain ⟨hi4, h⟩ := chk_some h
        refine g_iald (j := ix x4) C hG (hG.lt (by omega)) (cr4 w _ hr3) (inb_in hi4) rfl d_X_gain_51 ?_
        refine lv_iadd hx hb d_X_gain_52 ?_
        refine lv_istore_n (lv' := [(3, .int (x3 + (S (5 + (ix x1)) (ix x4)))), (0, .ref (gad w 0)), (1, .int x1), (2, .ref (gad w 27)), (4, .int x4)]) hx hb d_X_gain_53 rfl hl (by decide) rfl (fun ls hl => ?_)
        refine lv_iinc (v := x4 + 1) (lv' := [(4, .int (x4 + 1)), (3, .int (x3 + (S (5 + (ix x1)) (ix x4)))), (0, .ref (gad w 0)), (1, .int x1), (2, .ref (gad w 27))]) hx hb d_X_gain_54 hl (k := 4) rfl (congrArg (HAdd.hAdd x4) (by decide : Int32.ofInt 1 = 1)) (by decide) rfl (fun ls hl => ?_)
        refine lv_goto (tgt := 21) hx hb d_X_gain_57 (by decide) ?_
        exact ih _ _ _ (lp_back h hr) k1 ls _ _ hG (lv_sub hl [2, 3, 4, 1, 0] rfl)
set_option maxHeartbeats 4000000 in
set_option maxRecDepth 100000 in
theorem c_X_gain (l : Launch) (w : gw) (S : St) (x1 : Int32)  {z : Int32 × St} (h : (X_gain S x1) = some z) : gMi l w y_X_gain b_X_gain 5 (some .int) (rmm 4 91) [.ref (gad w 0), .int x1] S z.1 z.2 := by
  unfold X_gain at h
  refine g_met (Qc := gQi w z.1 z.2) (by decide +kernel) (Nat.le_of_ble_eq_true rfl) ?_
  intro p e s m args below meth c A Q ls hQ C hG hl
  have hx := C.1
  have hb := C.2.1
  have hl : lv_has ls 5 [(0, .ref (gad w 0)), (1, .int x1)] := hl
  have J60 : ∀ (S : St) (x3 : Int32), X_gain_J60 S x1 x3 = some z → ∀ (ls : Array Slot) (H : Heap) (locs : List Loc), GH w s A S H locs → lv_has ls 5 [(0, .ref (gad w 0)), (1, .int x1), (2, .ref (gad w 27)), (3, .int x3)] → W p l e (rmm 4 91) s m args below meth c H locs 0 0 Q (F0 m 60 ls []) := by
    intro S x3 h ls H locs hG hl
    unfold X_gain_J60 at h
    refine lv_iload_n hx hb d_X_gain_60 rfl (lv_at hl 3 rfl) ?_
    refine lv_aload_n hx hb d_X_gain_61 rfl (lv_at hl 2 rfl) ?_
    refine lv_aload_n hx hb d_X_gain_62 rfl (lv_at hl 0 rfl) ?_
    refine g_get C hG (hG.lt (Nat.le_of_ble_eq_true rfl)) (ce0 w _) rfl inC7 0 (Nat.le_of_ble_eq_true rfl) qw199 rfl d_X_gain_63 ?_
    refine lv_iload_n hx hb d_X_gain_66 rfl (lv_at hl 1 rfl) ?_
    obtain ⟨z1, hz1, h⟩ := bnd_some h
    refine g_goi hG (g_runV (As := [.ref (gad w 1), .int x1]) (rest := [.int x3]) C hG (c_OC_pricesOf l w S x1 hz1 _) (hG.lt (Nat.le_of_ble_eq_true rfl)) (ce27 w _) rfl vw_X_176 rfl rfl ⟨by decide, by decide⟩ rfl hl.1 rfl (Nat.le_of_ble_eq_true rfl) d_X_gain_67 ⟨Nat.zero_le _, Nat.zero_le _⟩) (fun H locs hG => ?_)
    refine lv_isub hx hb d_X_gain_70 ?_
    exact g_iret C hG (sm_fst h) (sm_snd h) hQ d_X_gain_71
  refine lv_iload_n hx hb d_X_gain_0 rfl (lv_at hl 1 rfl) ?_
  refine g_goi hG (g_runS (As := [.int x1]) (rest := []) C hG (c_X_isBidder l w S x1 _) sw_X_91 rfl rfl ⟨by decide, by decide⟩ rfl hl.1 rfl (Nat.le_of_ble_eq_true rfl) d_X_gain_1 ⟨Nat.zero_le _, Nat.zero_le _⟩) (fun H locs hG => ?_)
  refine lv_if_ne (tgt := 11) hx hb d_X_gain_4 (by decide) (fun hc => ?_) (fun hc => ?_)
  · replace h := it_f h hc
    refine lv_aload_n hx hb d_X_gain_11 rfl (lv_at hl 0 rfl) ?_
    obtain ⟨z2, hz2, h⟩ := bnd_some h
    refine g_gor hG (g_runV (As := []) (rest := []) C hG (c_X_judgedOutcome l w S hz2 _) (hG.lt (Nat.le_of_ble_eq_true rfl)) (ce0 w _) rfl vw_X_78 rfl rfl ⟨by decide, by decide⟩ rfl hl.1 rfl (Nat.le_of_ble_eq_true rfl) d_X_gain_12 ⟨Nat.zero_le _, Nat.zero_le _⟩) (fun H locs hG => ?_)
    refine lv_astore_n (lv' := [(2, .ref (gad w 27)), (0, .ref (gad w 0)), (1, .int x1)]) hx hb d_X_gain_15 rfl hl (by decide) rfl (fun ls hl => ?_)
    refine lv_iconst (v := 0) hx hb d_X_gain_16 (by decide) ?_
    refine lv_istore_n (lv' := [(3, .int 0), (2, .ref (gad w 27)), (0, .ref (gad w 0)), (1, .int x1)]) hx hb d_X_gain_17 rfl hl (by decide) rfl (fun ls hl => ?_)
    refine lv_iconst (v := 0) hx hb d_X_gain_18 (by decide) ?_
    refine lv_istore (lv' := [(4, .int 0), (3, .int 0), (2, .ref (gad w 27)), (0, .ref (gad w 0)), (1, .int x1)]) hx hb d_X_gain_19 hl (by decide) rfl (fun ls hl => ?_)
    obtain ⟨z3, hz3, h⟩ := bnd_some h
    refine L_X_gain_21 C _ _ FZ _ _ _ hz3 ?_ ls _ _ hG (lv_sub hl [3, 4, 2, 1, 0] rfl)
    intro y3 y4 e9 ls H locs hG hl
    subst e9
    exact J60 _ _ h ls _ _ hG (lv_sub hl [0, 1, 2, 3] rfl)
  · replace h := it_t h hc
    refine lv_sipush (v := (-10002)) hx hb d_X_gain_7 (by decide) ?_
    exact g_iret C hG (sm_fst h) (sm_snd h) hQ d_X_gain_10
theorem d_X_without_0 : decode b_X_without 0 = .ok (.aload_n 0, 1) := by decide +kernel
theorem d_X_without_1 : decode b_X_without 1 = .ok (.invokevirtual 78, 3) := by decide +kernel
theorem d_X_without_4 : decode b_X_without 4 = .ok (.pop, 1) := by decide +kernel
theorem d_X_without_5 : decode b_X_without 5 = .ok (.iload_n 1, 1) := by decide +kernel
theorem d_X_without_6 : decode b_X_without 6 = .ok (.iconst 0, 1) := by decide +kernel
theorem d_X_without_7 : decode b_X_without 7 = .ok (.aload_n 0, 1) := by decide +kernel
theorem d_X_without_8 : decode b_X_without 8 = .ok (.getfield 19, 3) := by decide +kernel
theorem d_X_without_11 : decode b_X_without 11 = .ok (.getfield 85, 3) := by decide +kernel
theorem d_X_without_14 : decode b_X_without 14 = .ok (.iconst 1, 1) := by decide +kernel
theorem d_X_without_15 : decode b_X_without 15 = .ok (.isub, 1) := by decide +kernel
theorem d_X_without_16 : decode b_X_without 16 = .ok (.invokestatic 67, 3) := by decide +kernel
theorem d_X_without_19 : decode b_X_without 19 = .ok (.ifCond .eq 10, 3) := by decide +kernel
theorem d_X_without_22 : decode b_X_without 22 = .ok (.iload_n 2, 1) := by decide +kernel
theorem d_X_without_23 : decode b_X_without 23 = .ok (.invokestatic 109, 3) := by decide +kernel
theorem d_X_without_26 : decode b_X_without 26 = .ok (.ifCond .ne 6, 3) := by decide +kernel
theorem d_X_without_29 : decode b_X_without 29 = .ok (.bipush (-2), 2) := by decide +kernel
theorem d_X_without_31 : decode b_X_without 31 = .ok (.ireturn, 1) := by decide +kernel
theorem d_X_without_32 : decode b_X_without 32 = .ok (.aload_n 0, 1) := by decide +kernel
theorem d_X_without_33 : decode b_X_without 33 = .ok (.getfield 30, 3) := by decide +kernel
theorem d_X_without_36 : decode b_X_without 36 = .ok (.aload_n 0, 1) := by decide +kernel
theorem d_X_without_37 : decode b_X_without 37 = .ok (.getfield 10, 3) := by decide +kernel
theorem d_X_without_40 : decode b_X_without 40 = .ok (.aload_n 0, 1) := by decide +kernel
theorem d_X_without_41 : decode b_X_without 41 = .ok (.getfield 19, 3) := by decide +kernel
theorem d_X_without_44 : decode b_X_without 44 = .ok (.iload_n 1, 1) := by decide +kernel
theorem d_X_without_45 : decode b_X_without 45 = .ok (.invokevirtual 189, 3) := by decide +kernel
theorem d_X_without_48 : decode b_X_without 48 = .ok (.aload_n 0, 1) := by decide +kernel
theorem d_X_without_49 : decode b_X_without 49 = .ok (.getfield 30, 3) := by decide +kernel
theorem d_X_without_52 : decode b_X_without 52 = .ok (.getfield 163, 3) := by decide +kernel
theorem d_X_without_55 : decode b_X_without 55 = .ok (.iload_n 2, 1) := by decide +kernel
theorem d_X_without_56 : decode b_X_without 56 = .ok (.iaload, 1) := by decide +kernel
theorem d_X_without_57 : decode b_X_without 57 = .ok (.ireturn, 1) := by decide +kernel
noncomputable def X_without (S : St) (x1 : Int32) (x2 : Int32) : Option (Int32 × St) :=
  bnd (X_judgedOutcome S) fun z1 =>
    if (X_within x1 0 ((z1 25 3) - 1)) = 0 then
      some ((-2), z1)
    else
      if (X_isEvening x2) = 0 then
        some ((-2), z1)
      else
        bnd (OC_judge_b z1 x1) fun z2 =>
        chk (inb x2 10) <|
        some (z2 35 (ix x2), z2)
set_option maxHeartbeats 4000000 in
set_option maxRecDepth 100000 in
theorem c_X_without (l : Launch) (w : gw) (S : St) (x1 : Int32) (x2 : Int32)  {z : Int32 × St} (h : (X_without S x1 x2) = some z) : gMi l w y_X_without b_X_without 3 (some .int) (rmm 4 91) [.ref (gad w 0), .int x1, .int x2] S z.1 z.2 := by
  unfold X_without at h
  refine g_met (Qc := gQi w z.1 z.2) (by decide +kernel) (Nat.le_of_ble_eq_true rfl) ?_
  intro p e s m args below meth c A Q ls hQ C hG hl
  have hx := C.1
  have hb := C.2.1
  have hl : lv_has ls 3 [(0, .ref (gad w 0)), (1, .int x1), (2, .int x2)] := hl
  refine lv_aload_n hx hb d_X_without_0 rfl (lv_at hl 0 rfl) ?_
  obtain ⟨z1, hz1, h⟩ := bnd_some h
  refine g_gor hG (g_runV (As := []) (rest := []) C hG (c_X_judgedOutcome l w S hz1 _) (hG.lt (Nat.le_of_ble_eq_true rfl)) (ce0 w _) rfl vw_X_78 rfl rfl ⟨by decide, by decide⟩ rfl hl.1 rfl (Nat.le_of_ble_eq_true rfl) d_X_without_1 ⟨Nat.zero_le _, Nat.zero_le _⟩) (fun H locs hG => ?_)
  refine lv_pop hx hb d_X_without_4 rfl ?_
  refine lv_iload_n hx hb d_X_without_5 rfl (lv_at hl 1 rfl) ?_
  refine lv_iconst (v := 0) hx hb d_X_without_6 (by decide) ?_
  refine lv_aload_n hx hb d_X_without_7 rfl (lv_at hl 0 rfl) ?_
  refine g_get C hG (hG.lt (Nat.le_of_ble_eq_true rfl)) (ce0 w _) rfl inC7 1 (Nat.le_of_ble_eq_true rfl) qw200 rfl d_X_without_8 ?_
  refine g_get C hG (hG.lt (Nat.le_of_ble_eq_true rfl)) (ce25 w _) rfl inC0 3 (Nat.le_of_ble_eq_true rfl) qw83 rfl d_X_without_11 ?_
  refine lv_iconst (v := 1) hx hb d_X_without_14 (by decide) ?_
  refine lv_isub hx hb d_X_without_15 ?_
  refine g_goi hG (g_runS (As := [.int x1, .int 0, .int ((z1 25 3) - 1)]) (rest := []) C hG (c_X_within l w z1 x1 0 ((z1 25 3) - 1) _) sw_X_67 rfl rfl ⟨by decide, by decide⟩ rfl hl.1 rfl (Nat.le_of_ble_eq_true rfl) d_X_without_16 ⟨Nat.zero_le _, Nat.zero_le _⟩) (fun H locs hG => ?_)
  refine lv_if_eq (tgt := 29) hx hb d_X_without_19 (by decide) (fun hc => ?_) (fun hc => ?_)
  · replace h := it_t h hc
    refine lv_bipush (v := (-2)) hx hb d_X_without_29 (by decide) ?_
    exact g_iret C hG (sm_fst h) (sm_snd h) hQ d_X_without_31
  · replace h := it_f h hc
    refine lv_iload_n hx hb d_X_without_22 rfl (lv_at hl 2 rfl) ?_
    refine g_goi hG (g_runS (As := [.int x2]) (rest := []) C hG (c_X_isEvening l w z1 x2 _) sw_X_109 rfl rfl ⟨by decide, by decide⟩ rfl hl.1 rfl (Nat.le_of_ble_eq_true rfl) d_X_without_23 ⟨Nat.zero_le _, Nat.zero_le _⟩) (fun H locs hG => ?_)
    refine lv_if_ne (tgt := 32) hx hb d_X_without_26 (by decide) (fun hc => ?_) (fun hc => ?_)
    · replace h := it_f h hc
      refine lv_aload_n hx hb d_X_without_32 rfl (lv_at hl 0 rfl) ?_
      refine g_get C hG (hG.lt (Nat.le_of_ble_eq_true rfl)) (ce0 w _) rfl inC7 3 (Nat.le_of_ble_eq_true rfl) qw202 rfl d_X_without_33 ?_
      refine lv_aload_n hx hb d_X_without_36 rfl (lv_at hl 0 rfl) ?_
      refine g_get C hG (hG.lt (Nat.le_of_ble_eq_true rfl)) (ce0 w _) rfl inC7 0 (Nat.le_of_ble_eq_true rfl) qw199 rfl d_X_without_37 ?_
      refine lv_aload_n hx hb d_X_without_40 rfl (lv_at hl 0 rfl) ?_
      refine g_get C hG (hG.lt (Nat.le_of_ble_eq_true rfl)) (ce0 w _) rfl inC7 1 (Nat.le_of_ble_eq_true rfl) qw200 rfl d_X_without_41 ?_
      refine lv_iload_n hx hb d_X_without_44 rfl (lv_at hl 1 rfl) ?_
      obtain ⟨z2, hz2, h⟩ := bnd_some h
      refine g_gov hG (g_runV (As := [.ref (gad w 1), .ref (gad w 25), .int x1]) (rest := []) C hG (c_OC_judge_b l w z1 x1 hz2 _) (hG.lt (Nat.le_of_ble_eq_true rfl)) (ce33 w _) rfl vw_X_189 rfl rfl ⟨by decide, by decide⟩ rfl hl.1 rfl (Nat.le_of_ble_eq_true rfl) d_X_without_45 ⟨Nat.zero_le _, Nat.zero_le _⟩) (fun H locs hG => ?_)
      refine lv_aload_n hx hb d_X_without_48 rfl (lv_at hl 0 rfl) ?_
      refine g_get C hG (hG.lt (Nat.le_of_ble_eq_true rfl)) (ce0 w _) rfl inC7 3 (Nat.le_of_ble_eq_true rfl) qw202 rfl d_X_without_49 ?_
      refine g_get C hG (hG.lt (Nat.le_of_ble_eq_true rfl)) (ce33 w _) rfl inC3 1 (Nat.le_of_ble_eq_true rfl) qw102 rfl d_X_without_52 ?_
      refine lv_iload_n hx hb d_X_without_55 rfl (lv_at hl 2 rfl) ?_
      obtain ⟨hi1, h⟩ := chk_some h
      refine g_iald (j := ix x2) C hG (hG.lt (Nat.le_of_ble_eq_true rfl)) (ce35 w _) (inb_in hi1) rfl d_X_without_56 ?_
      exact g_iret C hG (sm_fst h) (sm_snd h) hQ d_X_without_57
    · replace h := it_t h hc
      refine lv_bipush (v := (-2)) hx hb d_X_without_29 (by decide) ?_
      exact g_iret C hG (sm_fst h) (sm_snd h) hQ d_X_without_31
theorem d_X_meet_0 : decode b_X_meet 0 = .ok (.iload_n 1, 1) := by decide +kernel
theorem d_X_meet_1 : decode b_X_meet 1 = .ok (.iconst 1, 1) := by decide +kernel
theorem d_X_meet_2 : decode b_X_meet 2 = .ok (.bipush 31, 2) := by decide +kernel
theorem d_X_meet_4 : decode b_X_meet 4 = .ok (.invokestatic 67, 3) := by decide +kernel
theorem d_X_meet_7 : decode b_X_meet 7 = .ok (.ifCond .eq 21, 3) := by decide +kernel
theorem d_X_meet_10 : decode b_X_meet 10 = .ok (.iload_n 2, 1) := by decide +kernel
theorem d_X_meet_11 : decode b_X_meet 11 = .ok (.iconst 1, 1) := by decide +kernel
theorem d_X_meet_12 : decode b_X_meet 12 = .ok (.iconst 4, 1) := by decide +kernel
theorem d_X_meet_13 : decode b_X_meet 13 = .ok (.invokestatic 67, 3) := by decide +kernel
theorem d_X_meet_16 : decode b_X_meet 16 = .ok (.ifCond .eq 12, 3) := by decide +kernel
theorem d_X_meet_19 : decode b_X_meet 19 = .ok (.iload_n 3, 1) := by decide +kernel
theorem d_X_meet_20 : decode b_X_meet 20 = .ok (.iconst 0, 1) := by decide +kernel
theorem d_X_meet_21 : decode b_X_meet 21 = .ok (.iconst 1, 1) := by decide +kernel
theorem d_X_meet_22 : decode b_X_meet 22 = .ok (.invokestatic 67, 3) := by decide +kernel
theorem d_X_meet_25 : decode b_X_meet 25 = .ok (.ifCond .ne 6, 3) := by decide +kernel
theorem d_X_meet_28 : decode b_X_meet 28 = .ok (.bipush (-2), 2) := by decide +kernel
theorem d_X_meet_30 : decode b_X_meet 30 = .ok (.ireturn, 1) := by decide +kernel
theorem d_X_meet_31 : decode b_X_meet 31 = .ok (.aload_n 0, 1) := by decide +kernel
theorem d_X_meet_32 : decode b_X_meet 32 = .ok (.invokevirtual 78, 3) := by decide +kernel
theorem d_X_meet_35 : decode b_X_meet 35 = .ok (.astore 4, 2) := by decide +kernel
theorem d_X_meet_37 : decode b_X_meet 37 = .ok (.iconst 0, 1) := by decide +kernel
theorem d_X_meet_38 : decode b_X_meet 38 = .ok (.istore 5, 2) := by decide +kernel
theorem d_X_meet_40 : decode b_X_meet 40 = .ok (.iconst 0, 1) := by decide +kernel
theorem d_X_meet_41 : decode b_X_meet 41 = .ok (.istore 6, 2) := by decide +kernel
theorem d_X_meet_43 : decode b_X_meet 43 = .ok (.iconst 0, 1) := by decide +kernel
theorem d_X_meet_44 : decode b_X_meet 44 = .ok (.istore 7, 2) := by decide +kernel
theorem d_X_meet_46 : decode b_X_meet 46 = .ok (.iload 7, 2) := by decide +kernel
theorem d_X_meet_48 : decode b_X_meet 48 = .ok (.iload_n 2, 1) := by decide +kernel
theorem d_X_meet_49 : decode b_X_meet 49 = .ok (.if_icmp .ge 54, 3) := by decide +kernel
theorem d_X_meet_52 : decode b_X_meet 52 = .ok (.aload_n 0, 1) := by decide +kernel
theorem d_X_meet_53 : decode b_X_meet 53 = .ok (.aload 4, 2) := by decide +kernel
theorem d_X_meet_55 : decode b_X_meet 55 = .ok (.iload_n 1, 1) := by decide +kernel
theorem d_X_meet_56 : decode b_X_meet 56 = .ok (.iload 6, 2) := by decide +kernel
theorem d_X_meet_58 : decode b_X_meet 58 = .ok (.invokevirtual 193, 3) := by decide +kernel
theorem d_X_meet_61 : decode b_X_meet 61 = .ok (.istore 8, 2) := by decide +kernel
theorem d_X_meet_63 : decode b_X_meet 63 = .ok (.iload 8, 2) := by decide +kernel
theorem d_X_meet_65 : decode b_X_meet 65 = .ok (.iconst (-1), 1) := by decide +kernel
theorem d_X_meet_66 : decode b_X_meet 66 = .ok (.if_icmp .ne 5, 3) := by decide +kernel
theorem d_X_meet_69 : decode b_X_meet 69 = .ok (.iconst (-1), 1) := by decide +kernel
theorem d_X_meet_70 : decode b_X_meet 70 = .ok (.ireturn, 1) := by decide +kernel
theorem d_X_meet_71 : decode b_X_meet 71 = .ok (.iload 5, 2) := by decide +kernel
theorem d_X_meet_73 : decode b_X_meet 73 = .ok (.aload 4, 2) := by decide +kernel
theorem d_X_meet_75 : decode b_X_meet 75 = .ok (.aload_n 0, 1) := by decide +kernel
theorem d_X_meet_76 : decode b_X_meet 76 = .ok (.getfield 10, 3) := by decide +kernel
theorem d_X_meet_79 : decode b_X_meet 79 = .ok (.iload_n 1, 1) := by decide +kernel
theorem d_X_meet_80 : decode b_X_meet 80 = .ok (.iload 8, 2) := by decide +kernel
theorem d_X_meet_82 : decode b_X_meet 82 = .ok (.invokevirtual 197, 3) := by decide +kernel
theorem d_X_meet_85 : decode b_X_meet 85 = .ok (.iadd, 1) := by decide +kernel
theorem d_X_meet_86 : decode b_X_meet 86 = .ok (.istore 5, 2) := by decide +kernel
theorem d_X_meet_88 : decode b_X_meet 88 = .ok (.iload 6, 2) := by decide +kernel
theorem d_X_meet_90 : decode b_X_meet 90 = .ok (.iconst 1, 1) := by decide +kernel
theorem d_X_meet_91 : decode b_X_meet 91 = .ok (.iload 8, 2) := by decide +kernel
theorem d_X_meet_93 : decode b_X_meet 93 = .ok (.ishl, 1) := by decide +kernel
theorem d_X_meet_94 : decode b_X_meet 94 = .ok (.ior, 1) := by decide +kernel
theorem d_X_meet_95 : decode b_X_meet 95 = .ok (.istore 6, 2) := by decide +kernel
theorem d_X_meet_97 : decode b_X_meet 97 = .ok (.iinc 7 1, 3) := by decide +kernel
theorem d_X_meet_100 : decode b_X_meet 100 = .ok (.goto (-54), 3) := by decide +kernel
theorem d_X_meet_103 : decode b_X_meet 103 = .ok (.iload_n 3, 1) := by decide +kernel
theorem d_X_meet_104 : decode b_X_meet 104 = .ok (.ifCond .ne 8, 3) := by decide +kernel
theorem d_X_meet_107 : decode b_X_meet 107 = .ok (.iload 5, 2) := by decide +kernel
theorem d_X_meet_109 : decode b_X_meet 109 = .ok (.goto 5, 3) := by decide +kernel
theorem d_X_meet_112 : decode b_X_meet 112 = .ok (.iload 6, 2) := by decide +kernel
theorem d_X_meet_114 : decode b_X_meet 114 = .ok (.ireturn, 1) := by decide +kernel
noncomputable def X_meet_L46 (S : St) (x1 : Int32) (x2 : Int32) (x3 : Int32) (x5 : Int32) (x6 : Int32) (x7 : Int32) : Option ((Int32 × Int32 × Int32) × Nat) :=
  if x2 ≤ x7 then
      some ((x5, x6, x7), 2)
    else
      bnd (X_cheapestToMeet S x1 x6) fun z1 =>
      if z1 = (-1) then
        some ((x5, x6, x7), 1)
      else
        bnd (OC_costToMeet S x1 z1) fun z2 =>
        some ((x5 + z2, x6 ||| ((1 : Int32) <<< (z1 &&& 31)), x7 + 1), 0)
noncomputable def X_meet_J103 (S : St) (x3 : Int32) (x5 : Int32) (x6 : Int32) : Option (Int32 × St) :=
  if x3 = 0 then
      some (x5, S)
    else
      some (x6, S)
noncomputable def X_meet_J69 (S : St) : Option (Int32 × St) :=
  some ((-1), S)
noncomputable def X_meet (S : St) (x1 : Int32) (x2 : Int32) (x3 : Int32) : Option (Int32 × St) :=
  if (X_within x1 1 31) = 0 then
      some ((-2), S)
    else
      if (X_within x2 1 4) = 0 then
        some ((-2), S)
      else
        if (X_within x3 0 1) = 0 then
          some ((-2), S)
        else
          bnd (X_judgedOutcome S) fun z3 =>
          bnd (lp (σ := Int32 × Int32 × Int32) (fun q => X_meet_L46 z3 x1 x2 x3 q.1 q.2.1 q.2.2) FZ (0, 0, 0)) fun z4 =>
          if z4.2 = 1 then
            X_meet_J69 z3
          else X_meet_J103 z3 x3 z4.1.1 z4.1.2.1
set_option maxHeartbeats 4000000 in
set_option maxRecDepth 100000 in
theorem L_X_meet_46 (C : gCx p s m args meth c y_X_meet.cls b_X_meet 9 (some .int)) : ∀ (S : St) (x1 : Int32) (x2 : Int32) (x3 : Int32) (n : Nat) (x5 : Int32) (x6 : Int32) (x7 : Int32) (r : (Int32 × Int32 × Int32) × Nat), lp (σ := Int32 × Int32 × Int32) (fun q => X_meet_L46 S x1 x2 x3 q.1 q.2.1 q.2.2) n (x5, x6, x7) = some r → (∀ (y5 : Int32) (y6 : Int32) (y7 : Int32), r = ((y5, y6, y7), 1) → ∀ (ls : Array Slot) (H : Heap) (locs : List Loc), GH w s A S H locs → lv_has ls 9 [] → W p l e (rmm 4 91) s m args below meth c H locs 0 0 Q (F0 m 69 ls [])) → (∀ (y5 : Int32) (y6 : Int32) (y7 : Int32), r = ((y5, y6, y7), 2) → ∀ (ls : Array Slot) (H : Heap) (locs : List Loc), GH w s A S H locs → lv_has ls 9 [(3, .int x3), (5, .int y5), (6, .int y6)] → W p l e (rmm 4 91) s m args below meth c H locs 0 0 Q (F0 m 103 ls [])) → ∀ (ls : Array Slot) (H : Heap) (locs : List Loc), GH w s A S H locs → lv_has ls 9 [(0, .ref (gad w 0)), (1, .int x1), (2, .int x2), (3, .int x3), (4, .ref (gad w 27)), (5, .int x5), (6, .int x6), (7, .int x7)] → W p l e (rmm 4 91) s m args below meth c H locs 0 0 Q (F0 m 46 ls []) := by
  have hx := C.1
  have hb := C.2.1
  intro S x1 x2 x3 n
  induction n with
  | zero => intro x5 x6 x7 r h; cases h
  | succ n ih =>
    intro x5 x6 x7 r h k1 k2 ls H locs hG hl
    obtain ⟨z, h, hr⟩ := lp_succ h
    have h : X_meet_L46 S x1 x2 x3 x5 x6 x7 = some z := h
    unfold X_meet_L46 at h
    refine lv_iload hx hb d_X_meet_46 (lv_at hl 7 rfl) ?_
    refine lv_iload_n hx hb d_X_meet_48 rfl (lv_at hl 2 rfl) ?_
    refine lv_icmp_ge (tgt := 103) hx hb d_X_meet_49 (by decide) (fun hc => ?_) (fun hc => ?_)
    · replace h := it_t h hc
      exact k2 _ _ _ (lp_exit h hr) ls _ _ hG (lv_sub hl [3, 5, 6] rfl)
    · replace h := it_f h hc
      refine lv_aload_n hx hb d_X_meet_52 rfl (lv_at hl 0 rfl) ?_
      refine lv_aload hx hb d_X_meet_53 (lv_at hl 4 rfl) ?_
      refine lv_iload_n hx hb d_X_meet_55 rfl (lv_at hl 1 rfl) ?_
      refine lv_iload hx hb d_X_meet_56 (lv_at hl 6 rfl) ?_
      obtain ⟨z1, hz1, h⟩ := bnd_some h
      refine g_goi hG (g_runV (As := [.ref (gad w 27), .int x1, .int x6]) (rest := []) C hG (c_X_cheapestToMeet l w S x1 x6 hz1 _) (hG.lt (Nat.le_of_ble_eq_true rfl)) (ce0 w _) rfl vw_X_193 rfl rfl ⟨by decide, by decide⟩ rfl hl.1 rfl (Nat.le_of_ble_eq_true rfl) d_X_meet_58 ⟨Nat.zero_le _, Nat.zero_le _⟩) (fun H locs hG => ?_)
      refine lv_istore (lv' := [(8, .int z1), (0, .ref (gad w 0)), (1, .int x1), (2, .int x2), (3, .int x3), (4, .ref (gad w 27)), (5, .int x5), (6, .int x6), (7, .int x7)]) hx hb d_X_meet_61 hl (by decide) rfl (fun ls hl => ?_)
      refine lv_iload hx hb d_X_meet_63 (lv_at hl 0 rfl) ?_
      refine lv_iconst (v := (-1)) hx hb d_X_meet_65 (by decide) ?_
      refine lv_icmp_ne (tgt := 71) hx hb d_X_meet_66 (by decide) (fun hc => ?_) (fun hc => ?_)
      · replace h := it_f h hc
        refine lv_iload hx hb d_X_meet_71 (lv_at hl 6 rfl) ?_
        refine lv_aload hx hb d_X_meet_73 (lv_at hl 5 rfl) ?_
        refine lv_aload_n hx hb d_X_meet_75 rfl (lv_at hl 1 rfl) ?_
        refine g_get C hG (hG.lt (Nat.le_of_ble_eq_true rfl)) (ce0 w _) rfl inC7 0 (Nat.le_of_ble_eq_true rfl) qw199 rfl d_X_meet_76 ?_
        refine lv_iload_n hx hb d_X_meet_79 rfl (lv_at hl 2 rfl) ?_
        refine lv_iload hx hb d_X_meet_80 (lv_at hl 0 rfl) ?_
        obtain ⟨z2, hz2, h⟩ := bnd_some h
        refine g_goi hG (g_runV (As := [.ref (gad w 1), .int x1, .int z1]) (rest := [.int x5]) C hG (c_OC_costToMeet l w S x1 z1 hz2 _) (hG.lt (Nat.le_of_ble_eq_true rfl)) (ce27 w _) rfl vw_X_197 rfl rfl ⟨by decide, by decide⟩ rfl hl.1 rfl (Nat.le_of_ble_eq_true rfl) d_X_meet_82 ⟨Nat.zero_le _, Nat.zero_le _⟩) (fun H locs hG => ?_)
        refine lv_iadd hx hb d_X_meet_85 ?_
        refine lv_istore (lv' := [(5, .int (x5 + z2)), (8, .int z1), (0, .ref (gad w 0)), (1, .int x1), (2, .int x2), (3, .int x3), (4, .ref (gad w 27)), (6, .int x6), (7, .int x7)]) hx hb d_X_meet_86 hl (by decide) rfl (fun ls hl => ?_)
        refine lv_iload hx hb d_X_meet_88 (lv_at hl 7 rfl) ?_
        refine lv_iconst (v := 1) hx hb d_X_meet_90 (by decide) ?_
        refine lv_iload hx hb d_X_meet_91 (lv_at hl 1 rfl) ?_
        refine lv_ishl hx hb d_X_meet_93 ?_
        refine lv_ior hx hb d_X_meet_94 ?_
        refine lv_istore (lv' := [(6, .int (x6 ||| ((1 : Int32) <<< (z1 &&& 31)))), (5, .int (x5 + z2)), (8, .int z1), (0, .ref (gad w 0)), (1, .int x1), (2, .int x2), (3, .int x3), (4, .ref (gad w 27)), (7, .int x7)]) hx hb d_X_meet_95 hl (by decide) rfl (fun ls hl => ?_)
        refine lv_iinc (v := x7 + 1) (lv' := [(7, .int (x7 + 1)), (6, .int (x6 ||| ((1 : Int32) <<< (z1 &&& 31)))), (5, .int (x5 + z2)), (8, .int z1), (0, .ref (gad w 0)), (1, .int x1), (2, .int x2), (3, .int x3), (4, .ref (gad w 27))]) hx hb d_X_meet_97 hl (k := 8) rfl (congrArg (HAdd.hAdd x7) (by decide : Int32.ofInt 1 = 1)) (by decide) rfl (fun ls hl => ?_)
        refine lv_goto (tgt := 46) hx hb d_X_meet_100 (by decide) ?_
        exact ih _ _ _ _ (lp_back h hr) k1 k2 ls _ _ hG (lv_sub hl [4, 5, 6, 7, 8, 2, 1, 0] rfl)
      · replace h := it_t h hc
        exact k1 _ _ _ (lp_exit h hr) ls _ _ hG (lv_sub hl [] rfl)
set_option maxHeartbeats 4000000 in
set_option maxRecDepth 100000 in
theorem c_X_meet (l : Launch) (w : gw) (S : St) (x1 : Int32) (x2 : Int32) (x3 : Int32)  {z : Int32 × St} (h : (X_meet S x1 x2 x3) = some z) : gMi l w y_X_meet b_X_meet 9 (some .int) (rmm 4 91) [.ref (gad w 0), .int x1, .int x2, .int x3] S z.1 z.2 := by
  unfold X_meet at h
  refine g_met (Qc := gQi w z.1 z.2) (by decide +kernel) (Nat.le_of_ble_eq_true rfl) ?_
  intro p e s m args below meth c A Q ls hQ C hG hl
  have hx := C.1
  have hb := C.2.1
  have hl : lv_has ls 9 [(0, .ref (gad w 0)), (1, .int x1), (2, .int x2), (3, .int x3)] := hl
  have J103 : ∀ (S : St) (x5 : Int32) (x6 : Int32), X_meet_J103 S x3 x5 x6 = some z → ∀ (ls : Array Slot) (H : Heap) (locs : List Loc), GH w s A S H locs → lv_has ls 9 [(3, .int x3), (5, .int x5), (6, .int x6)] → W p l e (rmm 4 91) s m args below meth c H locs 0 0 Q (F0 m 103 ls []) := by
    intro S x5 x6 h ls H locs hG hl
    unfold X_meet_J103 at h
    refine lv_iload_n hx hb d_X_meet_103 rfl (lv_at hl 0 rfl) ?_
    refine lv_if_ne (tgt := 112) hx hb d_X_meet_104 (by decide) (fun hc => ?_) (fun hc => ?_)
    · replace h := it_f h hc
      refine lv_iload hx hb d_X_meet_112 (lv_at hl 2 rfl) ?_
      exact g_iret C hG (sm_fst h) (sm_snd h) hQ d_X_meet_114
    · replace h := it_t h hc
      refine lv_iload hx hb d_X_meet_107 (lv_at hl 1 rfl) ?_
      refine lv_goto (tgt := 114) hx hb d_X_meet_109 (by decide) ?_
      exact g_iret C hG (sm_fst h) (sm_snd h) hQ d_X_meet_114
  have J69 : ∀ (S : St), X_meet_J69 S = some z → ∀ (ls : Array Slot) (H : Heap) (locs : List Loc), GH w s A S H locs → lv_has ls 9 [] → W p l e (rmm 4 91) s m args below meth c H locs 0 0 Q (F0 m 69 ls []) := by
    intro S h ls H locs hG hl
    unfold X_meet_J69 at h
    refine lv_iconst (v := (-1)) hx hb d_X_meet_69 (by decide) ?_
    exact g_iret C hG (sm_fst h) (sm_snd h) hQ d_X_meet_70
  refine lv_iload_n hx hb d_X_meet_0 rfl (lv_at hl 1 rfl) ?_
  refine lv_iconst (v := 1) hx hb d_X_meet_1 (by decide) ?_
  refine lv_bipush (v := 31) hx hb d_X_meet_2 (by decide) ?_
  refine g_goi hG (g_runS (As := [.int x1, .int 1, .int 31]) (rest := []) C hG (c_X_within l w S x1 1 31 _) sw_X_67 rfl rfl ⟨by decide, by decide⟩ rfl hl.1 rfl (Nat.le_of_ble_eq_true rfl) d_X_meet_4 ⟨Nat.zero_le _, Nat.zero_le _⟩) (fun H locs hG => ?_)
  refine lv_if_eq (tgt := 28) hx hb d_X_meet_7 (by decide) (fun hc => ?_) (fun hc => ?_)
  · replace h := it_t h hc
    refine lv_bipush (v := (-2)) hx hb d_X_meet_28 (by decide) ?_
    exact g_iret C hG (sm_fst h) (sm_snd h) hQ d_X_meet_30
  · replace h := it_f h hc
    refine lv_iload_n hx hb d_X_meet_10 rfl (lv_at hl 2 rfl) ?_
    refine lv_iconst (v := 1) hx hb d_X_meet_11 (by decide) ?_
    refine lv_iconst (v := 4) hx hb d_X_meet_12 (by decide) ?_
    refine g_goi hG (g_runS (As := [.int x2, .int 1, .int 4]) (rest := []) C hG (c_X_within l w S x2 1 4 _) sw_X_67 rfl rfl ⟨by decide, by decide⟩ rfl hl.1 rfl (Nat.le_of_ble_eq_true rfl) d_X_meet_13 ⟨Nat.zero_le _, Nat.zero_le _⟩) (fun H locs hG => ?_)
    refine lv_if_eq (tgt := 28) hx hb d_X_meet_16 (by decide) (fun hc => ?_) (fun hc => ?_)
    · replace h := it_t h hc
      refine lv_bipush (v := (-2)) hx hb d_X_meet_28 (by decide) ?_
      exact g_iret C hG (sm_fst h) (sm_snd h) hQ d_X_meet_30
    · replace h := it_f h hc
      refine lv_iload_n hx hb d_X_meet_19 rfl (lv_at hl 3 rfl) ?_
      refine lv_iconst (v := 0) hx hb d_X_meet_20 (by decide) ?_
      refine lv_iconst (v := 1) hx hb d_X_meet_21 (by decide) ?_
      refine g_goi hG (g_runS (As := [.int x3, .int 0, .int 1]) (rest := []) C hG (c_X_within l w S x3 0 1 _) sw_X_67 rfl rfl ⟨by decide, by decide⟩ rfl hl.1 rfl (Nat.le_of_ble_eq_true rfl) d_X_meet_22 ⟨Nat.zero_le _, Nat.zero_le _⟩) (fun H locs hG => ?_)
      refine lv_if_ne (tgt := 31) hx hb d_X_meet_25 (by decide) (fun hc => ?_) (fun hc => ?_)
      · replace h := it_f h hc
        refine lv_aload_n hx hb d_X_meet_31 rfl (lv_at hl 0 rfl) ?_
        obtain ⟨z3, hz3, h⟩ := bnd_some h
        refine g_gor hG (g_runV (As := []) (rest := []) C hG (c_X_judgedOutcome l w S hz3 _) (hG.lt (Nat.le_of_ble_eq_true rfl)) (ce0 w _) rfl vw_X_78 rfl rfl ⟨by decide, by decide⟩ rfl hl.1 rfl (Nat.le_of_ble_eq_true rfl) d_X_meet_32 ⟨Nat.zero_le _, Nat.zero_le _⟩) (fun H locs hG => ?_)
        refine lv_astore (lv' := [(4, .ref (gad w 27)), (0, .ref (gad w 0)), (1, .int x1), (2, .int x2), (3, .int x3)]) hx hb d_X_meet_35 hl (by decide) rfl (fun ls hl => ?_)
        refine lv_iconst (v := 0) hx hb d_X_meet_37 (by decide) ?_
        refine lv_istore (lv' := [(5, .int 0), (4, .ref (gad w 27)), (0, .ref (gad w 0)), (1, .int x1), (2, .int x2), (3, .int x3)]) hx hb d_X_meet_38 hl (by decide) rfl (fun ls hl => ?_)
        refine lv_iconst (v := 0) hx hb d_X_meet_40 (by decide) ?_
        refine lv_istore (lv' := [(6, .int 0), (5, .int 0), (4, .ref (gad w 27)), (0, .ref (gad w 0)), (1, .int x1), (2, .int x2), (3, .int x3)]) hx hb d_X_meet_41 hl (by decide) rfl (fun ls hl => ?_)
        refine lv_iconst (v := 0) hx hb d_X_meet_43 (by decide) ?_
        refine lv_istore (lv' := [(7, .int 0), (6, .int 0), (5, .int 0), (4, .ref (gad w 27)), (0, .ref (gad w 0)), (1, .int x1), (2, .int x2), (3, .int x3)]) hx hb d_X_meet_44 hl (by decide) rfl (fun ls hl => ?_)
        obtain ⟨z4, hz4, h⟩ := bnd_some h
        refine L_X_meet_46 C _ _ _ _ FZ _ _ _ _ hz4 ?_ ?_ ls _ _ hG (lv_sub hl [4, 5, 6, 7, 3, 2, 1, 0] rfl)
        · intro y5 y6 y7 e9 ls H locs hG hl
          subst e9
          replace h := it_t h rfl
          exact J69 _ h ls _ _ hG (lv_sub hl [] rfl)
        · intro y5 y6 y7 e9 ls H locs hG hl
          subst e9
          replace h := it_f h (show ¬ (2 : Nat) = 1 by decide)
          exact J103 _ _ _ h ls _ _ hG (lv_sub hl [0, 1, 2] rfl)
      · replace h := it_t h hc
        refine lv_bipush (v := (-2)) hx hb d_X_meet_28 (by decide) ?_
        exact g_iret C hG (sm_fst h) (sm_snd h) hQ d_X_meet_30
theorem d_X_club_0 : decode b_X_club 0 = .ok (.iload_n 1, 1) := by decide +kernel
theorem d_X_club_1 : decode b_X_club 1 = .ok (.iconst 0, 1) := by decide +kernel
theorem d_X_club_2 : decode b_X_club 2 = .ok (.bipush 31, 2) := by decide +kernel
theorem d_X_club_4 : decode b_X_club 4 = .ok (.invokestatic 67, 3) := by decide +kernel
theorem d_X_club_7 : decode b_X_club 7 = .ok (.ifCond .ne 6, 3) := by decide +kernel
theorem d_X_club_10 : decode b_X_club 10 = .ok (.bipush (-2), 2) := by decide +kernel
theorem d_X_club_12 : decode b_X_club 12 = .ok (.ireturn, 1) := by decide +kernel
theorem d_X_club_13 : decode b_X_club 13 = .ok (.aload_n 0, 1) := by decide +kernel
theorem d_X_club_14 : decode b_X_club 14 = .ok (.invokevirtual 217, 3) := by decide +kernel
theorem d_X_club_17 : decode b_X_club 17 = .ok (.getfield 221, 3) := by decide +kernel
theorem d_X_club_20 : decode b_X_club 20 = .ok (.iload_n 1, 1) := by decide +kernel
theorem d_X_club_21 : decode b_X_club 21 = .ok (.iaload, 1) := by decide +kernel
theorem d_X_club_22 : decode b_X_club 22 = .ok (.ireturn, 1) := by decide +kernel
noncomputable def X_club (S : St) (x1 : Int32) : Option (Int32 × St) :=
  if (X_within x1 0 31) = 0 then
      some ((-2), S)
    else
      bnd (X_valuedClubs S) fun z1 =>
      chk (inb x1 32) <|
      some (z1 44 (ix x1), z1)
set_option maxHeartbeats 4000000 in
set_option maxRecDepth 100000 in
theorem c_X_club (l : Launch) (w : gw) (S : St) (x1 : Int32)  {z : Int32 × St} (h : (X_club S x1) = some z) : gMi l w y_X_club b_X_club 2 (some .int) (rmm 4 89) [.ref (gad w 0), .int x1] S z.1 z.2 := by
  unfold X_club at h
  refine g_met (Qc := gQi w z.1 z.2) (by decide +kernel) (Nat.le_of_ble_eq_true rfl) ?_
  intro p e s m args below meth c A Q ls hQ C hG hl
  have hx := C.1
  have hb := C.2.1
  have hl : lv_has ls 2 [(0, .ref (gad w 0)), (1, .int x1)] := hl
  refine lv_iload_n hx hb d_X_club_0 rfl (lv_at hl 1 rfl) ?_
  refine lv_iconst (v := 0) hx hb d_X_club_1 (by decide) ?_
  refine lv_bipush (v := 31) hx hb d_X_club_2 (by decide) ?_
  refine g_goi hG (g_runS (As := [.int x1, .int 0, .int 31]) (rest := []) C hG (c_X_within l w S x1 0 31 _) sw_X_67 rfl rfl ⟨by decide, by decide⟩ rfl hl.1 rfl (Nat.le_of_ble_eq_true rfl) d_X_club_4 ⟨Nat.zero_le _, Nat.zero_le _⟩) (fun H locs hG => ?_)
  refine lv_if_ne (tgt := 13) hx hb d_X_club_7 (by decide) (fun hc => ?_) (fun hc => ?_)
  · replace h := it_f h hc
    refine lv_aload_n hx hb d_X_club_13 rfl (lv_at hl 0 rfl) ?_
    obtain ⟨z1, hz1, h⟩ := bnd_some h
    refine g_gor hG (g_runV (As := []) (rest := []) C hG (c_X_valuedClubs l w S hz1 _) (hG.lt (Nat.le_of_ble_eq_true rfl)) (ce0 w _) rfl vw_X_217 rfl rfl ⟨by decide, by decide⟩ rfl hl.1 rfl (Nat.le_of_ble_eq_true rfl) d_X_club_14 ⟨Nat.zero_le _, Nat.zero_le _⟩) (fun H locs hG => ?_)
    refine g_get C hG (hG.lt (Nat.le_of_ble_eq_true rfl)) (ce43 w _) rfl inC1 0 (Nat.le_of_ble_eq_true rfl) qw164 rfl d_X_club_17 ?_
    refine lv_iload_n hx hb d_X_club_20 rfl (lv_at hl 1 rfl) ?_
    obtain ⟨hi1, h⟩ := chk_some h
    refine g_iald (j := ix x1) C hG (hG.lt (Nat.le_of_ble_eq_true rfl)) (ce44 w _) (inb_in hi1) rfl d_X_club_21 ?_
    exact g_iret C hG (sm_fst h) (sm_snd h) hQ d_X_club_22
  · replace h := it_t h hc
    refine lv_bipush (v := (-2)) hx hb d_X_club_10 (by decide) ?_
    exact g_iret C hG (sm_fst h) (sm_snd h) hQ d_X_club_12
theorem d_X_share_0 : decode b_X_share 0 = .ok (.iload_n 1, 1) := by decide +kernel
theorem d_X_share_1 : decode b_X_share 1 = .ok (.invokestatic 91, 3) := by decide +kernel
theorem d_X_share_4 : decode b_X_share 4 = .ok (.ifCond .eq 12, 3) := by decide +kernel
theorem d_X_share_7 : decode b_X_share 7 = .ok (.iload_n 2, 1) := by decide +kernel
theorem d_X_share_8 : decode b_X_share 8 = .ok (.iconst 0, 1) := by decide +kernel
theorem d_X_share_9 : decode b_X_share 9 = .ok (.iconst 1, 1) := by decide +kernel
theorem d_X_share_10 : decode b_X_share 10 = .ok (.invokestatic 67, 3) := by decide +kernel
theorem d_X_share_13 : decode b_X_share 13 = .ok (.ifCond .ne 7, 3) := by decide +kernel
theorem d_X_share_16 : decode b_X_share 16 = .ok (.ldc2_w 224, 3) := by decide +kernel
theorem d_X_share_19 : decode b_X_share 19 = .ok (.lreturn, 1) := by decide +kernel
theorem d_X_share_20 : decode b_X_share 20 = .ok (.aload_n 0, 1) := by decide +kernel
theorem d_X_share_21 : decode b_X_share 21 = .ok (.invokevirtual 217, 3) := by decide +kernel
theorem d_X_share_24 : decode b_X_share 24 = .ok (.iload_n 1, 1) := by decide +kernel
theorem d_X_share_25 : decode b_X_share 25 = .ok (.invokevirtual 226, 3) := by decide +kernel
theorem d_X_share_28 : decode b_X_share 28 = .ok (.bipush 120, 2) := by decide +kernel
theorem d_X_share_30 : decode b_X_share 30 = .ok (.iload_n 2, 1) := by decide +kernel
theorem d_X_share_31 : decode b_X_share 31 = .ok (.invokestatic 229, 3) := by decide +kernel
theorem d_X_share_34 : decode b_X_share 34 = .ok (.lreturn, 1) := by decide +kernel
noncomputable def X_share (S : St) (x1 : Int32) (x2 : Int32) : Option (Int64 × St) :=
  if (X_isBidder x1) = 0 then
      some ((-9223372036854775806), S)
    else
      if (X_within x2 0 1) = 0 then
        some ((-9223372036854775806), S)
      else
        bnd (X_valuedClubs S) fun z1 =>
        bnd (CL_broughtInAllOrders z1 x1) fun z2 =>
        bnd (X_fraction z2 120 x2) fun z3 =>
        some (z3, z1)
set_option maxHeartbeats 4000000 in
set_option maxRecDepth 100000 in
theorem c_X_share (l : Launch) (w : gw) (S : St) (x1 : Int32) (x2 : Int32)  {z : Int64 × St} (h : (X_share S x1 x2) = some z) : gMl l w y_X_share b_X_share 3 (some .long) (rmm 4 89) [.ref (gad w 0), .int x1, .int x2] S z.1 z.2 := by
  unfold X_share at h
  refine g_met (Qc := gQl w z.1 z.2) (by decide +kernel) (Nat.le_of_ble_eq_true rfl) ?_
  intro p e s m args below meth c A Q ls hQ C hG hl
  have hx := C.1
  have hb := C.2.1
  have hl : lv_has ls 3 [(0, .ref (gad w 0)), (1, .int x1), (2, .int x2)] := hl
  refine lv_iload_n hx hb d_X_share_0 rfl (lv_at hl 1 rfl) ?_
  refine g_goi hG (g_runS (As := [.int x1]) (rest := []) C hG (c_X_isBidder l w S x1 _) sw_X_91 rfl rfl ⟨by decide, by decide⟩ rfl hl.1 rfl (Nat.le_of_ble_eq_true rfl) d_X_share_1 ⟨Nat.zero_le _, Nat.zero_le _⟩) (fun H locs hG => ?_)
  refine lv_if_eq (tgt := 16) hx hb d_X_share_4 (by decide) (fun hc => ?_) (fun hc => ?_)
  · replace h := it_t h hc
    refine lv_ldc2 (v := (-9223372036854775806)) hx hb C.2.2.2.1 (C.2.2.2.2.1 _ qw488) d_X_share_16 ?_
    exact g_lret C hG (sm_fst h) (sm_snd h) hQ d_X_share_19
  · replace h := it_f h hc
    refine lv_iload_n hx hb d_X_share_7 rfl (lv_at hl 2 rfl) ?_
    refine lv_iconst (v := 0) hx hb d_X_share_8 (by decide) ?_
    refine lv_iconst (v := 1) hx hb d_X_share_9 (by decide) ?_
    refine g_goi hG (g_runS (As := [.int x2, .int 0, .int 1]) (rest := []) C hG (c_X_within l w S x2 0 1 _) sw_X_67 rfl rfl ⟨by decide, by decide⟩ rfl hl.1 rfl (Nat.le_of_ble_eq_true rfl) d_X_share_10 ⟨Nat.zero_le _, Nat.zero_le _⟩) (fun H locs hG => ?_)
    refine lv_if_ne (tgt := 20) hx hb d_X_share_13 (by decide) (fun hc => ?_) (fun hc => ?_)
    · replace h := it_f h hc
      refine lv_aload_n hx hb d_X_share_20 rfl (lv_at hl 0 rfl) ?_
      obtain ⟨z1, hz1, h⟩ := bnd_some h
      refine g_gor hG (g_runV (As := []) (rest := []) C hG (c_X_valuedClubs l w S hz1 _) (hG.lt (Nat.le_of_ble_eq_true rfl)) (ce0 w _) rfl vw_X_217 rfl rfl ⟨by decide, by decide⟩ rfl hl.1 rfl (Nat.le_of_ble_eq_true rfl) d_X_share_21 ⟨Nat.zero_le _, Nat.zero_le _⟩) (fun H locs hG => ?_)
      refine lv_iload_n hx hb d_X_share_24 rfl (lv_at hl 1 rfl) ?_
      obtain ⟨z2, hz2, h⟩ := bnd_some h
      refine g_goi hG (g_runV (As := [.int x1]) (rest := []) C hG (c_CL_broughtInAllOrders l w z1 x1 hz2 _) (hG.lt (Nat.le_of_ble_eq_true rfl)) (ce43 w _) rfl vw_X_226 rfl rfl ⟨by decide, by decide⟩ rfl hl.1 rfl (Nat.le_of_ble_eq_true rfl) d_X_share_25 ⟨Nat.zero_le _, Nat.zero_le _⟩) (fun H locs hG => ?_)
      refine lv_bipush (v := 120) hx hb d_X_share_28 (by decide) ?_
      refine lv_iload_n hx hb d_X_share_30 rfl (lv_at hl 2 rfl) ?_
      obtain ⟨z3, hz3, h⟩ := bnd_some h
      refine g_gol hG (g_runS (As := [.int z2, .int 120, .int x2]) (rest := []) C hG (c_X_fraction l w z1 z2 120 x2 hz3 _) sw_X_229 rfl rfl ⟨by decide, by decide⟩ rfl hl.1 rfl (Nat.le_of_ble_eq_true rfl) d_X_share_31 ⟨Nat.zero_le _, Nat.zero_le _⟩) (fun H locs hG => ?_)
      exact g_lret C hG (sm_fst h) (sm_snd h) hQ d_X_share_34
    · replace h := it_t h hc
      refine lv_ldc2 (v := (-9223372036854775806)) hx hb C.2.2.2.1 (C.2.2.2.2.1 _ qw488) d_X_share_16 ?_
      exact g_lret C hG (sm_fst h) (sm_snd h) hQ d_X_share_19
theorem d_X_owners_0 : decode b_X_owners 0 = .ok (.iload_n 1, 1) := by decide +kernel
theorem d_X_owners_1 : decode b_X_owners 1 = .ok (.iconst (-1), 1) := by decide +kernel
theorem d_X_owners_2 : decode b_X_owners 2 = .ok (.if_icmp .ne 15, 3) := by decide +kernel
theorem d_X_owners_5 : decode b_X_owners 5 = .ok (.aload_n 0, 1) := by decide +kernel
theorem d_X_owners_6 : decode b_X_owners 6 = .ok (.getfield 50, 3) := by decide +kernel
theorem d_X_owners_9 : decode b_X_owners 9 = .ok (.aload_n 0, 1) := by decide +kernel
theorem d_X_owners_10 : decode b_X_owners 10 = .ok (.getfield 10, 3) := by decide +kernel
theorem d_X_owners_13 : decode b_X_owners 13 = .ok (.invokevirtual 245, 3) := by decide +kernel
theorem d_X_owners_16 : decode b_X_owners 16 = .ok (.ireturn, 1) := by decide +kernel
theorem d_X_owners_17 : decode b_X_owners 17 = .ok (.iload_n 1, 1) := by decide +kernel
theorem d_X_owners_18 : decode b_X_owners 18 = .ok (.invokestatic 109, 3) := by decide +kernel
theorem d_X_owners_21 : decode b_X_owners 21 = .ok (.ifCond .ne 6, 3) := by decide +kernel
theorem d_X_owners_24 : decode b_X_owners 24 = .ok (.bipush (-2), 2) := by decide +kernel
theorem d_X_owners_26 : decode b_X_owners 26 = .ok (.ireturn, 1) := by decide +kernel
theorem d_X_owners_27 : decode b_X_owners 27 = .ok (.aload_n 0, 1) := by decide +kernel
theorem d_X_owners_28 : decode b_X_owners 28 = .ok (.getfield 50, 3) := by decide +kernel
theorem d_X_owners_31 : decode b_X_owners 31 = .ok (.getfield 249, 3) := by decide +kernel
theorem d_X_owners_34 : decode b_X_owners 34 = .ok (.iload_n 1, 1) := by decide +kernel
theorem d_X_owners_35 : decode b_X_owners 35 = .ok (.iaload, 1) := by decide +kernel
theorem d_X_owners_36 : decode b_X_owners 36 = .ok (.istore_n 2, 1) := by decide +kernel
theorem d_X_owners_37 : decode b_X_owners 37 = .ok (.iload_n 2, 1) := by decide +kernel
theorem d_X_owners_38 : decode b_X_owners 38 = .ok (.iconst (-1), 1) := by decide +kernel
theorem d_X_owners_39 : decode b_X_owners 39 = .ok (.if_icmp .eq 17, 3) := by decide +kernel
theorem d_X_owners_42 : decode b_X_owners 42 = .ok (.aload_n 0, 1) := by decide +kernel
theorem d_X_owners_43 : decode b_X_owners 43 = .ok (.getfield 50, 3) := by decide +kernel
theorem d_X_owners_46 : decode b_X_owners 46 = .ok (.aload_n 0, 1) := by decide +kernel
theorem d_X_owners_47 : decode b_X_owners 47 = .ok (.getfield 10, 3) := by decide +kernel
theorem d_X_owners_50 : decode b_X_owners 50 = .ok (.invokevirtual 245, 3) := by decide +kernel
theorem d_X_owners_53 : decode b_X_owners 53 = .ok (.ifCond .ne 5, 3) := by decide +kernel
theorem d_X_owners_56 : decode b_X_owners 56 = .ok (.iconst 0, 1) := by decide +kernel
theorem d_X_owners_57 : decode b_X_owners 57 = .ok (.ireturn, 1) := by decide +kernel
theorem d_X_owners_58 : decode b_X_owners 58 = .ok (.aload_n 0, 1) := by decide +kernel
theorem d_X_owners_59 : decode b_X_owners 59 = .ok (.getfield 10, 3) := by decide +kernel
theorem d_X_owners_62 : decode b_X_owners 62 = .ok (.iload_n 2, 1) := by decide +kernel
theorem d_X_owners_63 : decode b_X_owners 63 = .ok (.invokevirtual 250, 3) := by decide +kernel
theorem d_X_owners_66 : decode b_X_owners 66 = .ok (.ireturn, 1) := by decide +kernel
noncomputable def X_owners (S : St) (x1 : Int32) : Option (Int32 × St) :=
  if x1 = (-1) then
      bnd (SI_ways S) fun z3 =>
      some (z3.1, z3.2)
    else
      if (X_isEvening x1) = 0 then
        some ((-2), S)
      else
        chk (inb x1 10) <|
        if (S 46 (ix x1)) = (-1) then
          some (0, S)
        else
          bnd (SI_ways S) fun z1 =>
          if z1.1 = 0 then
            some (0, z1.2)
          else
            bnd (TW_biddersWith z1.2 (S 46 (ix x1))) fun z2 =>
            some (z2, z1.2)
set_option maxHeartbeats 4000000 in
set_option maxRecDepth 100000 in
theorem c_X_owners (l : Launch) (w : gw) (S : St) (x1 : Int32)  {z : Int32 × St} (h : (X_owners S x1) = some z) : gMi l w y_X_owners b_X_owners 3 (some .int) (rmm 3 74) [.ref (gad w 0), .int x1] S z.1 z.2 := by
  unfold X_owners at h
  refine g_met (Qc := gQi w z.1 z.2) (by decide +kernel) (Nat.le_of_ble_eq_true rfl) ?_
  intro p e s m args below meth c A Q ls hQ C hG hl
  have hx := C.1
  have hb := C.2.1
  have hl : lv_has ls 3 [(0, .ref (gad w 0)), (1, .int x1)] := hl
  refine lv_iload_n hx hb d_X_owners_0 rfl (lv_at hl 1 rfl) ?_
  refine lv_iconst (v := (-1)) hx hb d_X_owners_1 (by decide) ?_
  refine lv_icmp_ne (tgt := 17) hx hb d_X_owners_2 (by decide) (fun hc => ?_) (fun hc => ?_)
  · replace h := it_f h hc
    refine lv_iload_n hx hb d_X_owners_17 rfl (lv_at hl 1 rfl) ?_
    refine g_goi hG (g_runS (As := [.int x1]) (rest := []) C hG (c_X_isEvening l w S x1 _) sw_X_109 rfl rfl ⟨by decide, by decide⟩ rfl hl.1 rfl (Nat.le_of_ble_eq_true rfl) d_X_owners_18 ⟨Nat.zero_le _, Nat.zero_le _⟩) (fun H locs hG => ?_)
    refine lv_if_ne (tgt := 27) hx hb d_X_owners_21 (by decide) (fun hc => ?_) (fun hc => ?_)
    · replace h := it_f h hc
      refine lv_aload_n hx hb d_X_owners_27 rfl (lv_at hl 0 rfl) ?_
      refine g_get C hG (hG.lt (Nat.le_of_ble_eq_true rfl)) (ce0 w _) rfl inC7 6 (Nat.le_of_ble_eq_true rfl) qw205 rfl d_X_owners_28 ?_
      refine g_get C hG (hG.lt (Nat.le_of_ble_eq_true rfl)) (ce45 w _) rfl inC5 0 (Nat.le_of_ble_eq_true rfl) qw183 rfl d_X_owners_31 ?_
      refine lv_iload_n hx hb d_X_owners_34 rfl (lv_at hl 1 rfl) ?_
      obtain ⟨hi1, h⟩ := chk_some h
      refine g_iald (j := ix x1) C hG (hG.lt (Nat.le_of_ble_eq_true rfl)) (ce46 w _) (inb_in hi1) rfl d_X_owners_35 ?_
      refine lv_istore_n (lv' := [(2, .int (S 46 (ix x1))), (0, .ref (gad w 0)), (1, .int x1)]) hx hb d_X_owners_36 rfl hl (by decide) rfl (fun ls hl => ?_)
      refine lv_iload_n hx hb d_X_owners_37 rfl (lv_at hl 0 rfl) ?_
      refine lv_iconst (v := (-1)) hx hb d_X_owners_38 (by decide) ?_
      refine lv_icmp_eq (tgt := 56) hx hb d_X_owners_39 (by decide) (fun hc => ?_) (fun hc => ?_)
      · replace h := it_t h hc
        refine lv_iconst (v := 0) hx hb d_X_owners_56 (by decide) ?_
        exact g_iret C hG (sm_fst h) (sm_snd h) hQ d_X_owners_57
      · replace h := it_f h hc
        refine lv_aload_n hx hb d_X_owners_42 rfl (lv_at hl 1 rfl) ?_
        refine g_get C hG (hG.lt (Nat.le_of_ble_eq_true rfl)) (ce0 w _) rfl inC7 6 (Nat.le_of_ble_eq_true rfl) qw205 rfl d_X_owners_43 ?_
        refine lv_aload_n hx hb d_X_owners_46 rfl (lv_at hl 1 rfl) ?_
        refine g_get C hG (hG.lt (Nat.le_of_ble_eq_true rfl)) (ce0 w _) rfl inC7 0 (Nat.le_of_ble_eq_true rfl) qw199 rfl d_X_owners_47 ?_
        obtain ⟨z1, hz1, h⟩ := bnd_some h
        refine g_goi hG (g_runV (As := [.ref (gad w 1)]) (rest := []) C hG (c_SI_ways l w S hz1 _) (hG.lt (Nat.le_of_ble_eq_true rfl)) (ce45 w _) rfl vw_X_245 rfl rfl ⟨by decide, by decide⟩ rfl hl.1 rfl (Nat.le_of_ble_eq_true rfl) d_X_owners_50 ⟨Nat.zero_le _, Nat.zero_le _⟩) (fun H locs hG => ?_)
        refine lv_if_ne (tgt := 58) hx hb d_X_owners_53 (by decide) (fun hc => ?_) (fun hc => ?_)
        · replace h := it_f h hc
          refine lv_aload_n hx hb d_X_owners_58 rfl (lv_at hl 1 rfl) ?_
          refine g_get C hG (hG.lt (Nat.le_of_ble_eq_true rfl)) (ce0 w _) rfl inC7 0 (Nat.le_of_ble_eq_true rfl) qw199 rfl d_X_owners_59 ?_
          refine lv_iload_n hx hb d_X_owners_62 rfl (lv_at hl 0 rfl) ?_
          obtain ⟨z2, hz2, h⟩ := bnd_some h
          refine g_goi hG (g_runV (As := [.int (S 46 (ix x1))]) (rest := []) C hG (c_TW_biddersWith l w z1.2 (S 46 (ix x1)) hz2 _) (hG.lt (Nat.le_of_ble_eq_true rfl)) (ce1 w _) rfl vw_X_250 rfl rfl ⟨by decide, by decide⟩ rfl hl.1 rfl (Nat.le_of_ble_eq_true rfl) d_X_owners_63 ⟨Nat.zero_le _, Nat.zero_le _⟩) (fun H locs hG => ?_)
          exact g_iret C hG (sm_fst h) (sm_snd h) hQ d_X_owners_66
        · replace h := it_t h hc
          refine lv_iconst (v := 0) hx hb d_X_owners_56 (by decide) ?_
          exact g_iret C hG (sm_fst h) (sm_snd h) hQ d_X_owners_57
    · replace h := it_t h hc
      refine lv_bipush (v := (-2)) hx hb d_X_owners_24 (by decide) ?_
      exact g_iret C hG (sm_fst h) (sm_snd h) hQ d_X_owners_26
  · replace h := it_t h hc
    refine lv_aload_n hx hb d_X_owners_5 rfl (lv_at hl 0 rfl) ?_
    refine g_get C hG (hG.lt (Nat.le_of_ble_eq_true rfl)) (ce0 w _) rfl inC7 6 (Nat.le_of_ble_eq_true rfl) qw205 rfl d_X_owners_6 ?_
    refine lv_aload_n hx hb d_X_owners_9 rfl (lv_at hl 0 rfl) ?_
    refine g_get C hG (hG.lt (Nat.le_of_ble_eq_true rfl)) (ce0 w _) rfl inC7 0 (Nat.le_of_ble_eq_true rfl) qw199 rfl d_X_owners_10 ?_
    obtain ⟨z3, hz3, h⟩ := bnd_some h
    refine g_goi hG (g_runV (As := [.ref (gad w 1)]) (rest := []) C hG (c_SI_ways l w S hz3 _) (hG.lt (Nat.le_of_ble_eq_true rfl)) (ce45 w _) rfl vw_X_245 rfl rfl ⟨by decide, by decide⟩ rfl hl.1 rfl (Nat.le_of_ble_eq_true rfl) d_X_owners_13 ⟨Nat.zero_le _, Nat.zero_le _⟩) (fun H locs hG => ?_)
    exact g_iret C hG (sm_fst h) (sm_snd h) hQ d_X_owners_16
theorem d_X_swap_0 : decode b_X_swap 0 = .ok (.iload_n 1, 1) := by decide +kernel
theorem d_X_swap_1 : decode b_X_swap 1 = .ok (.invokestatic 109, 3) := by decide +kernel
theorem d_X_swap_4 : decode b_X_swap 4 = .ok (.ifCond .eq 15, 3) := by decide +kernel
theorem d_X_swap_7 : decode b_X_swap 7 = .ok (.iload_n 2, 1) := by decide +kernel
theorem d_X_swap_8 : decode b_X_swap 8 = .ok (.invokestatic 109, 3) := by decide +kernel
theorem d_X_swap_11 : decode b_X_swap 11 = .ok (.ifCond .eq 8, 3) := by decide +kernel
theorem d_X_swap_14 : decode b_X_swap 14 = .ok (.iload_n 1, 1) := by decide +kernel
theorem d_X_swap_15 : decode b_X_swap 15 = .ok (.iload_n 2, 1) := by decide +kernel
theorem d_X_swap_16 : decode b_X_swap 16 = .ok (.if_icmp .ne 6, 3) := by decide +kernel
theorem d_X_swap_19 : decode b_X_swap 19 = .ok (.bipush (-2), 2) := by decide +kernel
theorem d_X_swap_21 : decode b_X_swap 21 = .ok (.ireturn, 1) := by decide +kernel
theorem d_X_swap_22 : decode b_X_swap 22 = .ok (.aload_n 0, 1) := by decide +kernel
theorem d_X_swap_23 : decode b_X_swap 23 = .ok (.invokevirtual 78, 3) := by decide +kernel
theorem d_X_swap_26 : decode b_X_swap 26 = .ok (.astore_n 3, 1) := by decide +kernel
theorem d_X_swap_27 : decode b_X_swap 27 = .ok (.aload_n 3, 1) := by decide +kernel
theorem d_X_swap_28 : decode b_X_swap 28 = .ok (.getfield 163, 3) := by decide +kernel
theorem d_X_swap_31 : decode b_X_swap 31 = .ok (.iload_n 1, 1) := by decide +kernel
theorem d_X_swap_32 : decode b_X_swap 32 = .ok (.iaload, 1) := by decide +kernel
theorem d_X_swap_33 : decode b_X_swap 33 = .ok (.istore 4, 2) := by decide +kernel
theorem d_X_swap_35 : decode b_X_swap 35 = .ok (.aload_n 3, 1) := by decide +kernel
theorem d_X_swap_36 : decode b_X_swap 36 = .ok (.getfield 163, 3) := by decide +kernel
theorem d_X_swap_39 : decode b_X_swap 39 = .ok (.iload_n 2, 1) := by decide +kernel
theorem d_X_swap_40 : decode b_X_swap 40 = .ok (.iaload, 1) := by decide +kernel
theorem d_X_swap_41 : decode b_X_swap 41 = .ok (.istore 5, 2) := by decide +kernel
theorem d_X_swap_43 : decode b_X_swap 43 = .ok (.iload 4, 2) := by decide +kernel
theorem d_X_swap_45 : decode b_X_swap 45 = .ok (.invokestatic 91, 3) := by decide +kernel
theorem d_X_swap_48 : decode b_X_swap 48 = .ok (.ifCond .eq 18, 3) := by decide +kernel
theorem d_X_swap_51 : decode b_X_swap 51 = .ok (.iload 5, 2) := by decide +kernel
theorem d_X_swap_53 : decode b_X_swap 53 = .ok (.invokestatic 91, 3) := by decide +kernel
theorem d_X_swap_56 : decode b_X_swap 56 = .ok (.ifCond .eq 10, 3) := by decide +kernel
theorem d_X_swap_59 : decode b_X_swap 59 = .ok (.iload 4, 2) := by decide +kernel
theorem d_X_swap_61 : decode b_X_swap 61 = .ok (.iload 5, 2) := by decide +kernel
theorem d_X_swap_63 : decode b_X_swap 63 = .ok (.if_icmp .ne 6, 3) := by decide +kernel
theorem d_X_swap_66 : decode b_X_swap 66 = .ok (.bipush (-3), 2) := by decide +kernel
theorem d_X_swap_68 : decode b_X_swap 68 = .ok (.ireturn, 1) := by decide +kernel
theorem d_X_swap_69 : decode b_X_swap 69 = .ok (.aload_n 0, 1) := by decide +kernel
theorem d_X_swap_70 : decode b_X_swap 70 = .ok (.getfield 10, 3) := by decide +kernel
theorem d_X_swap_73 : decode b_X_swap 73 = .ok (.getfield 115, 3) := by decide +kernel
theorem d_X_swap_76 : decode b_X_swap 76 = .ok (.iload 4, 2) := by decide +kernel
theorem d_X_swap_78 : decode b_X_swap 78 = .ok (.aaload, 1) := by decide +kernel
theorem d_X_swap_79 : decode b_X_swap 79 = .ok (.astore 6, 2) := by decide +kernel
theorem d_X_swap_81 : decode b_X_swap 81 = .ok (.aload_n 0, 1) := by decide +kernel
theorem d_X_swap_82 : decode b_X_swap 82 = .ok (.getfield 10, 3) := by decide +kernel
theorem d_X_swap_85 : decode b_X_swap 85 = .ok (.getfield 115, 3) := by decide +kernel
theorem d_X_swap_88 : decode b_X_swap 88 = .ok (.iload 5, 2) := by decide +kernel
theorem d_X_swap_90 : decode b_X_swap 90 = .ok (.aaload, 1) := by decide +kernel
theorem d_X_swap_91 : decode b_X_swap 91 = .ok (.astore 7, 2) := by decide +kernel
theorem d_X_swap_93 : decode b_X_swap 93 = .ok (.aload 6, 2) := by decide +kernel
theorem d_X_swap_95 : decode b_X_swap 95 = .ok (.iload_n 2, 1) := by decide +kernel
theorem d_X_swap_96 : decode b_X_swap 96 = .ok (.iaload, 1) := by decide +kernel
theorem d_X_swap_97 : decode b_X_swap 97 = .ok (.aload 6, 2) := by decide +kernel
theorem d_X_swap_99 : decode b_X_swap 99 = .ok (.iload_n 1, 1) := by decide +kernel
theorem d_X_swap_100 : decode b_X_swap 100 = .ok (.iaload, 1) := by decide +kernel
theorem d_X_swap_101 : decode b_X_swap 101 = .ok (.if_icmp .le 18, 3) := by decide +kernel
theorem d_X_swap_104 : decode b_X_swap 104 = .ok (.aload 7, 2) := by decide +kernel
theorem d_X_swap_106 : decode b_X_swap 106 = .ok (.iload_n 1, 1) := by decide +kernel
theorem d_X_swap_107 : decode b_X_swap 107 = .ok (.iaload, 1) := by decide +kernel
theorem d_X_swap_108 : decode b_X_swap 108 = .ok (.aload 7, 2) := by decide +kernel
theorem d_X_swap_110 : decode b_X_swap 110 = .ok (.iload_n 2, 1) := by decide +kernel
theorem d_X_swap_111 : decode b_X_swap 111 = .ok (.iaload, 1) := by decide +kernel
theorem d_X_swap_112 : decode b_X_swap 112 = .ok (.if_icmp .le 7, 3) := by decide +kernel
theorem d_X_swap_115 : decode b_X_swap 115 = .ok (.iconst 1, 1) := by decide +kernel
theorem d_X_swap_116 : decode b_X_swap 116 = .ok (.goto 4, 3) := by decide +kernel
theorem d_X_swap_119 : decode b_X_swap 119 = .ok (.iconst 0, 1) := by decide +kernel
theorem d_X_swap_120 : decode b_X_swap 120 = .ok (.ireturn, 1) := by decide +kernel
noncomputable def X_swap (S : St) (x1 : Int32) (x2 : Int32) : Option (Int32 × St) :=
  if (X_isEvening x1) = 0 then
      some ((-2), S)
    else
      if (X_isEvening x2) = 0 then
        some ((-2), S)
      else
        if x1 = x2 then
          some ((-2), S)
        else
          bnd (X_judgedOutcome S) fun z1 =>
          chk (inb x1 10) <|
          chk (inb x2 10) <|
          if (X_isBidder (z1 29 (ix x1))) = 0 then
            some ((-3), z1)
          else
            if (X_isBidder (z1 29 (ix x2))) = 0 then
              some ((-3), z1)
            else
              if (z1 29 (ix x1)) = (z1 29 (ix x2)) then
                some ((-3), z1)
              else
                chk (inb (z1 29 (ix x1)) 5) <|
                chk (inb (z1 29 (ix x2)) 5) <|
                chk (inb x2 10) <|
                chk (inb x1 10) <|
                if (z1 (5 + (ix (z1 29 (ix x1)))) (ix x2)) ≤ (z1 (5 + (ix (z1 29 (ix x1)))) (ix x1)) then
                  some (0, z1)
                else
                  chk (inb x1 10) <|
                  chk (inb x2 10) <|
                  if (z1 (5 + (ix (z1 29 (ix x2)))) (ix x1)) ≤ (z1 (5 + (ix (z1 29 (ix x2)))) (ix x2)) then
                    some (0, z1)
                  else
                    some (1, z1)
set_option maxHeartbeats 4000000 in
set_option maxRecDepth 100000 in
theorem c_X_swap (l : Launch) (w : gw) (S : St) (x1 : Int32) (x2 : Int32)  {z : Int32 × St} (h : (X_swap S x1 x2) = some z) : gMi l w y_X_swap b_X_swap 8 (some .int) (rmm 4 91) [.ref (gad w 0), .int x1, .int x2] S z.1 z.2 := by
  unfold X_swap at h
  refine g_met (Qc := gQi w z.1 z.2) (by decide +kernel) (Nat.le_of_ble_eq_true rfl) ?_
  intro p e s m args below meth c A Q ls hQ C hG hl
  have hx := C.1
  have hb := C.2.1
  have hl : lv_has ls 8 [(0, .ref (gad w 0)), (1, .int x1), (2, .int x2)] := hl
  refine lv_iload_n hx hb d_X_swap_0 rfl (lv_at hl 1 rfl) ?_
  refine g_goi hG (g_runS (As := [.int x1]) (rest := []) C hG (c_X_isEvening l w S x1 _) sw_X_109 rfl rfl ⟨by decide, by decide⟩ rfl hl.1 rfl (Nat.le_of_ble_eq_true rfl) d_X_swap_1 ⟨Nat.zero_le _, Nat.zero_le _⟩) (fun H locs hG => ?_)
  refine lv_if_eq (tgt := 19) hx hb d_X_swap_4 (by decide) (fun hc => ?_) (fun hc => ?_)
  · replace h := it_t h hc
    refine lv_bipush (v := (-2)) hx hb d_X_swap_19 (by decide) ?_
    exact g_iret C hG (sm_fst h) (sm_snd h) hQ d_X_swap_21
  · replace h := it_f h hc
    refine lv_iload_n hx hb d_X_swap_7 rfl (lv_at hl 2 rfl) ?_
    refine g_goi hG (g_runS (As := [.int x2]) (rest := []) C hG (c_X_isEvening l w S x2 _) sw_X_109 rfl rfl ⟨by decide, by decide⟩ rfl hl.1 rfl (Nat.le_of_ble_eq_true rfl) d_X_swap_8 ⟨Nat.zero_le _, Nat.zero_le _⟩) (fun H locs hG => ?_)
    refine lv_if_eq (tgt := 19) hx hb d_X_swap_11 (by decide) (fun hc => ?_) (fun hc => ?_)
    · replace h := it_t h hc
      refine lv_bipush (v := (-2)) hx hb d_X_swap_19 (by decide) ?_
      exact g_iret C hG (sm_fst h) (sm_snd h) hQ d_X_swap_21
    · replace h := it_f h hc
      refine lv_iload_n hx hb d_X_swap_14 rfl (lv_at hl 1 rfl) ?_
      refine lv_iload_n hx hb d_X_swap_15 rfl (lv_at hl 2 rfl) ?_
      refine lv_icmp_ne (tgt := 22) hx hb d_X_swap_16 (by decide) (fun hc => ?_) (fun hc => ?_)
      · replace h := it_f h hc
        refine lv_aload_n hx hb d_X_swap_22 rfl (lv_at hl 0 rfl) ?_
        obtain ⟨z1, hz1, h⟩ := bnd_some h
        refine g_gor hG (g_runV (As := []) (rest := []) C hG (c_X_judgedOutcome l w S hz1 _) (hG.lt (Nat.le_of_ble_eq_true rfl)) (ce0 w _) rfl vw_X_78 rfl rfl ⟨by decide, by decide⟩ rfl hl.1 rfl (Nat.le_of_ble_eq_true rfl) d_X_swap_23 ⟨Nat.zero_le _, Nat.zero_le _⟩) (fun H locs hG => ?_)
        refine lv_astore_n (lv' := [(3, .ref (gad w 27)), (0, .ref (gad w 0)), (1, .int x1), (2, .int x2)]) hx hb d_X_swap_26 rfl hl (by decide) rfl (fun ls hl => ?_)
        refine lv_aload_n hx hb d_X_swap_27 rfl (lv_at hl 0 rfl) ?_
        refine g_get C hG (hG.lt (Nat.le_of_ble_eq_true rfl)) (ce27 w _) rfl inC3 1 (Nat.le_of_ble_eq_true rfl) qw102 rfl d_X_swap_28 ?_
        refine lv_iload_n hx hb d_X_swap_31 rfl (lv_at hl 2 rfl) ?_
        obtain ⟨hi1, h⟩ := chk_some h
        refine g_iald (j := ix x1) C hG (hG.lt (Nat.le_of_ble_eq_true rfl)) (ce29 w _) (inb_in hi1) rfl d_X_swap_32 ?_
        refine lv_istore (lv' := [(4, .int (z1 29 (ix x1))), (3, .ref (gad w 27)), (0, .ref (gad w 0)), (1, .int x1), (2, .int x2)]) hx hb d_X_swap_33 hl (by decide) rfl (fun ls hl => ?_)
        refine lv_aload_n hx hb d_X_swap_35 rfl (lv_at hl 1 rfl) ?_
        refine g_get C hG (hG.lt (Nat.le_of_ble_eq_true rfl)) (ce27 w _) rfl inC3 1 (Nat.le_of_ble_eq_true rfl) qw102 rfl d_X_swap_36 ?_
        refine lv_iload_n hx hb d_X_swap_39 rfl (lv_at hl 4 rfl) ?_
        obtain ⟨hi2, h⟩ := chk_some h
        refine g_iald (j := ix x2) C hG (hG.lt (Nat.le_of_ble_eq_true rfl)) (ce29 w _) (inb_in hi2) rfl d_X_swap_40 ?_
        refine lv_istore (lv' := [(5, .int (z1 29 (ix x2))), (4, .int (z1 29 (ix x1))), (3, .ref (gad w 27)), (0, .ref (gad w 0)), (1, .int x1), (2, .int x2)]) hx hb d_X_swap_41 hl (by decide) rfl (fun ls hl => ?_)
        refine lv_iload hx hb d_X_swap_43 (lv_at hl 1 rfl) ?_
        refine g_goi hG (g_runS (As := [.int (z1 29 (ix x1))]) (rest := []) C hG (c_X_isBidder l w z1 (z1 29 (ix x1)) _) sw_X_91 rfl rfl ⟨by decide, by decide⟩ rfl hl.1 rfl (Nat.le_of_ble_eq_true rfl) d_X_swap_45 ⟨Nat.zero_le _, Nat.zero_le _⟩) (fun H locs hG => ?_)
        refine lv_if_eq (tgt := 66) hx hb d_X_swap_48 (by decide) (fun hc => ?_) (fun hc => ?_)
        · replace h := it_t h hc
          refine lv_bipush (v := (-3)) hx hb d_X_swap_66 (by decide) ?_
          exact g_iret C hG (sm_fst h) (sm_snd h) hQ d_X_swap_68
        · replace h := it_f h hc
          refine lv_iload hx hb d_X_swap_51 (lv_at hl 0 rfl) ?_
          refine g_goi hG (g_runS (As := [.int (z1 29 (ix x2))]) (rest := []) C hG (c_X_isBidder l w z1 (z1 29 (ix x2)) _) sw_X_91 rfl rfl ⟨by decide, by decide⟩ rfl hl.1 rfl (Nat.le_of_ble_eq_true rfl) d_X_swap_53 ⟨Nat.zero_le _, Nat.zero_le _⟩) (fun H locs hG => ?_)
          refine lv_if_eq (tgt := 66) hx hb d_X_swap_56 (by decide) (fun hc => ?_) (fun hc => ?_)
          · replace h := it_t h hc
            refine lv_bipush (v := (-3)) hx hb d_X_swap_66 (by decide) ?_
            exact g_iret C hG (sm_fst h) (sm_snd h) hQ d_X_swap_68
          · replace h := it_f h hc
            refine lv_iload hx hb d_X_swap_59 (lv_at hl 1 rfl) ?_
            refine lv_iload hx hb d_X_swap_61 (lv_at hl 0 rfl) ?_
            refine lv_icmp_ne (tgt := 69) hx hb d_X_swap_63 (by decide) (fun hc => ?_) (fun hc => ?_)
            · replace h := it_f h hc
              refine lv_aload_n hx hb d_X_swap_69 rfl (lv_at hl 3 rfl) ?_
              refine g_get C hG (hG.lt (Nat.le_of_ble_eq_true rfl)) (ce0 w _) rfl inC7 0 (Nat.le_of_ble_eq_true rfl) qw199 rfl d_X_swap_70 ?_
              refine g_get C hG (hG.lt (Nat.le_of_ble_eq_true rfl)) (ce1 w _) rfl inC6 2 (Nat.le_of_ble_eq_true rfl) qw37 rfl d_X_swap_73 ?_
              refine lv_iload hx hb d_X_swap_76 (lv_at hl 1 rfl) ?_
              obtain ⟨hi3, h⟩ := chk_some h
              refine g_ald2 (j := ix (z1 29 (ix x1))) C hG (hG.lt (Nat.le_of_ble_eq_true rfl)) (ce4 w _) (inb_in hi3) rfl d_X_swap_78 ?_
              have hr4 : ix (z1 29 (ix x1)) < 5 := row_lt (inb_in hi3)
              refine lv_astore (lv' := [(6, .ref (gad w (5 + (ix (z1 29 (ix x1)))))), (5, .int (z1 29 (ix x2))), (4, .int (z1 29 (ix x1))), (3, .ref (gad w 27)), (0, .ref (gad w 0)), (1, .int x1), (2, .int x2)]) hx hb d_X_swap_79 hl (by decide) rfl (fun ls hl => ?_)
              refine lv_aload_n hx hb d_X_swap_81 rfl (lv_at hl 4 rfl) ?_
              refine g_get C hG (hG.lt (Nat.le_of_ble_eq_true rfl)) (ce0 w _) rfl inC7 0 (Nat.le_of_ble_eq_true rfl) qw199 rfl d_X_swap_82 ?_
              refine g_get C hG (hG.lt (Nat.le_of_ble_eq_true rfl)) (ce1 w _) rfl inC6 2 (Nat.le_of_ble_eq_true rfl) qw37 rfl d_X_swap_85 ?_
              refine lv_iload hx hb d_X_swap_88 (lv_at hl 1 rfl) ?_
              obtain ⟨hi5, h⟩ := chk_some h
              refine g_ald2 (j := ix (z1 29 (ix x2))) C hG (hG.lt (Nat.le_of_ble_eq_true rfl)) (ce4 w _) (inb_in hi5) rfl d_X_swap_90 ?_
              have hr6 : ix (z1 29 (ix x2)) < 5 := row_lt (inb_in hi5)
              refine lv_astore (lv' := [(7, .ref (gad w (5 + (ix (z1 29 (ix x2)))))), (6, .ref (gad w (5 + (ix (z1 29 (ix x1)))))), (5, .int (z1 29 (ix x2))), (4, .int (z1 29 (ix x1))), (3, .ref (gad w 27)), (0, .ref (gad w 0)), (1, .int x1), (2, .int x2)]) hx hb d_X_swap_91 hl (by decide) rfl (fun ls hl => ?_)
              refine lv_aload hx hb d_X_swap_93 (lv_at hl 1 rfl) ?_
              refine lv_iload_n hx hb d_X_swap_95 rfl (lv_at hl 7 rfl) ?_
              obtain ⟨hi7, h⟩ := chk_some h
              refine g_iald (j := ix x2) C hG (hG.lt (by omega)) (cr4 w _ hr4) (inb_in hi7) rfl d_X_swap_96 ?_
              refine lv_aload hx hb d_X_swap_97 (lv_at hl 1 rfl) ?_
              refine lv_iload_n hx hb d_X_swap_99 rfl (lv_at hl 6 rfl) ?_
              obtain ⟨hi8, h⟩ := chk_some h
              refine g_iald (j := ix x1) C hG (hG.lt (by omega)) (cr4 w _ hr4) (inb_in hi8) rfl d_X_swap_100 ?_
              refine lv_icmp_le (tgt := 119) hx hb d_X_swap_101 (by decide) (fun hc => ?_) (fun hc => ?_)
              · replace h := it_t h hc
                refine lv_iconst (v := 0) hx hb d_X_swap_119 (by decide) ?_
                exact g_iret C hG (sm_fst h) (sm_snd h) hQ d_X_swap_120
              · replace h := it_f h hc
                refine lv_aload hx hb d_X_swap_104 (lv_at hl 0 rfl) ?_
                refine lv_iload_n hx hb d_X_swap_106 rfl (lv_at hl 6 rfl) ?_
                obtain ⟨hi9, h⟩ := chk_some h
                refine g_iald (j := ix x1) C hG (hG.lt (by omega)) (cr4 w _ hr6) (inb_in hi9) rfl d_X_swap_107 ?_
                refine lv_aload hx hb d_X_swap_108 (lv_at hl 0 rfl) ?_
                refine lv_iload_n hx hb d_X_swap_110 rfl (lv_at hl 7 rfl) ?_
                obtain ⟨hi10, h⟩ := chk_some h
                refine g_iald (j := ix x2) C hG (hG.lt (by omega)) (cr4 w _ hr6) (inb_in hi10) rfl d_X_swap_111 ?_
                refine lv_icmp_le (tgt := 119) hx hb d_X_swap_112 (by decide) (fun hc => ?_) (fun hc => ?_)
                · replace h := it_t h hc
                  refine lv_iconst (v := 0) hx hb d_X_swap_119 (by decide) ?_
                  exact g_iret C hG (sm_fst h) (sm_snd h) hQ d_X_swap_120
                · replace h := it_f h hc
                  refine lv_iconst (v := 1) hx hb d_X_swap_115 (by decide) ?_
                  refine lv_goto (tgt := 120) hx hb d_X_swap_116 (by decide) ?_
                  exact g_iret C hG (sm_fst h) (sm_snd h) hQ d_X_swap_120
            · replace h := it_t h hc
              refine lv_bipush (v := (-3)) hx hb d_X_swap_66 (by decide) ?_
              exact g_iret C hG (sm_fst h) (sm_snd h) hQ d_X_swap_68
      · replace h := it_t h hc
        refine lv_bipush (v := (-2)) hx hb d_X_swap_19 (by decide) ?_
        exact g_iret C hG (sm_fst h) (sm_snd h) hQ d_X_swap_21
theorem d_X_count_0 : decode b_X_count 0 = .ok (.aload_n 0, 1) := by decide +kernel
theorem d_X_count_1 : decode b_X_count 1 = .ok (.invokevirtual 78, 3) := by decide +kernel
theorem d_X_count_4 : decode b_X_count 4 = .ok (.astore_n 2, 1) := by decide +kernel
theorem d_X_count_5 : decode b_X_count 5 = .ok (.iload_n 1, 1) := by decide +kernel
theorem d_X_count_6 : decode b_X_count 6 = .ok (.tableswitch 118 0 8 #[50, 58, 66, 71, 76, 85, 93, 103, 113], 50) := by decide +kernel
theorem d_X_count_56 : decode b_X_count 56 = .ok (.aload_n 0, 1) := by decide +kernel
theorem d_X_count_57 : decode b_X_count 57 = .ok (.getfield 19, 3) := by decide +kernel
theorem d_X_count_60 : decode b_X_count 60 = .ok (.getfield 85, 3) := by decide +kernel
theorem d_X_count_63 : decode b_X_count 63 = .ok (.ireturn, 1) := by decide +kernel
theorem d_X_count_64 : decode b_X_count 64 = .ok (.aload_n 0, 1) := by decide +kernel
theorem d_X_count_65 : decode b_X_count 65 = .ok (.getfield 19, 3) := by decide +kernel
theorem d_X_count_68 : decode b_X_count 68 = .ok (.getfield 71, 3) := by decide +kernel
theorem d_X_count_71 : decode b_X_count 71 = .ok (.ireturn, 1) := by decide +kernel
theorem d_X_count_72 : decode b_X_count 72 = .ok (.aload_n 2, 1) := by decide +kernel
theorem d_X_count_73 : decode b_X_count 73 = .ok (.getfield 279, 3) := by decide +kernel
theorem d_X_count_76 : decode b_X_count 76 = .ok (.ireturn, 1) := by decide +kernel
theorem d_X_count_77 : decode b_X_count 77 = .ok (.aload_n 2, 1) := by decide +kernel
theorem d_X_count_78 : decode b_X_count 78 = .ok (.invokevirtual 282, 3) := by decide +kernel
theorem d_X_count_81 : decode b_X_count 81 = .ok (.ireturn, 1) := by decide +kernel
theorem d_X_count_82 : decode b_X_count 82 = .ok (.aload_n 2, 1) := by decide +kernel
theorem d_X_count_83 : decode b_X_count 83 = .ok (.aload_n 0, 1) := by decide +kernel
theorem d_X_count_84 : decode b_X_count 84 = .ok (.getfield 10, 3) := by decide +kernel
theorem d_X_count_87 : decode b_X_count 87 = .ok (.invokevirtual 286, 3) := by decide +kernel
theorem d_X_count_90 : decode b_X_count 90 = .ok (.ireturn, 1) := by decide +kernel
theorem d_X_count_91 : decode b_X_count 91 = .ok (.aload_n 0, 1) := by decide +kernel
theorem d_X_count_92 : decode b_X_count 92 = .ok (.getfield 50, 3) := by decide +kernel
theorem d_X_count_95 : decode b_X_count 95 = .ok (.getfield 237, 3) := by decide +kernel
theorem d_X_count_98 : decode b_X_count 98 = .ok (.ireturn, 1) := by decide +kernel
theorem d_X_count_99 : decode b_X_count 99 = .ok (.aload_n 0, 1) := by decide +kernel
theorem d_X_count_100 : decode b_X_count 100 = .ok (.getfield 10, 3) := by decide +kernel
theorem d_X_count_103 : decode b_X_count 103 = .ok (.getfield 134, 3) := by decide +kernel
theorem d_X_count_106 : decode b_X_count 106 = .ok (.iconst 0, 1) := by decide +kernel
theorem d_X_count_107 : decode b_X_count 107 = .ok (.iaload, 1) := by decide +kernel
theorem d_X_count_108 : decode b_X_count 108 = .ok (.ireturn, 1) := by decide +kernel
theorem d_X_count_109 : decode b_X_count 109 = .ok (.aload_n 0, 1) := by decide +kernel
theorem d_X_count_110 : decode b_X_count 110 = .ok (.getfield 10, 3) := by decide +kernel
theorem d_X_count_113 : decode b_X_count 113 = .ok (.getfield 134, 3) := by decide +kernel
theorem d_X_count_116 : decode b_X_count 116 = .ok (.iconst 1, 1) := by decide +kernel
theorem d_X_count_117 : decode b_X_count 117 = .ok (.iaload, 1) := by decide +kernel
theorem d_X_count_118 : decode b_X_count 118 = .ok (.ireturn, 1) := by decide +kernel
theorem d_X_count_119 : decode b_X_count 119 = .ok (.aload_n 0, 1) := by decide +kernel
theorem d_X_count_120 : decode b_X_count 120 = .ok (.getfield 60, 3) := by decide +kernel
theorem d_X_count_123 : decode b_X_count 123 = .ok (.ireturn, 1) := by decide +kernel
theorem d_X_count_124 : decode b_X_count 124 = .ok (.bipush (-2), 2) := by decide +kernel
theorem d_X_count_126 : decode b_X_count 126 = .ok (.ireturn, 1) := by decide +kernel
noncomputable def X_count (S : St) (x1 : Int32) : Option (Int32 × St) :=
  bnd (X_judgedOutcome S) fun z1 =>
    if x1 = 0 then
      some (z1 25 3, z1)
    else if x1 = 1 then
      some (z1 25 1, z1)
    else if x1 = 2 then
      some (z1 27 5, z1)
    else if x1 = 3 then
      bnd (OC_numberOwned z1) fun z2 =>
      some (z2, z1)
    else if x1 = 4 then
      bnd (OC_allPrices z1) fun z3 =>
      some (z3, z1)
    else if x1 = 5 then
      some (z1 45 3, z1)
    else if x1 = 6 then
      some (z1 24 0, z1)
    else if x1 = 7 then
      some (z1 24 1, z1)
    else if x1 = 8 then
      some (z1 0 8, z1)
    else some ((-2), z1)
set_option maxHeartbeats 4000000 in
set_option maxRecDepth 100000 in
theorem c_X_count (l : Launch) (w : gw) (S : St) (x1 : Int32)  {z : Int32 × St} (h : (X_count S x1) = some z) : gMi l w y_X_count b_X_count 3 (some .int) (rmm 4 91) [.ref (gad w 0), .int x1] S z.1 z.2 := by
  unfold X_count at h
  refine g_met (Qc := gQi w z.1 z.2) (by decide +kernel) (Nat.le_of_ble_eq_true rfl) ?_
  intro p e s m args below meth c A Q ls hQ C hG hl
  have hx := C.1
  have hb := C.2.1
  have hl : lv_has ls 3 [(0, .ref (gad w 0)), (1, .int x1)] := hl
  refine lv_aload_n hx hb d_X_count_0 rfl (lv_at hl 0 rfl) ?_
  obtain ⟨z1, hz1, h⟩ := bnd_some h
  refine g_gor hG (g_runV (As := []) (rest := []) C hG (c_X_judgedOutcome l w S hz1 _) (hG.lt (Nat.le_of_ble_eq_true rfl)) (ce0 w _) rfl vw_X_78 rfl rfl ⟨by decide, by decide⟩ rfl hl.1 rfl (Nat.le_of_ble_eq_true rfl) d_X_count_1 ⟨Nat.zero_le _, Nat.zero_le _⟩) (fun H locs hG => ?_)
  refine lv_astore_n (lv' := [(2, .ref (gad w 27)), (0, .ref (gad w 0)), (1, .int x1)]) hx hb d_X_count_4 rfl hl (by decide) rfl (fun ls hl => ?_)
  refine lv_iload_n hx hb d_X_count_5 rfl (lv_at hl 2 rfl) ?_
  by_cases hc0 : x1 = 0
  · replace h := it_t h hc0
    refine lv_tableIn (off := 50) (tgt := 56) hx hb d_X_count_6 (by rw [hc0]; decide) (by rw [hc0]; decide) (by rw [hc0]; rfl) (by decide) ?_
    refine lv_aload_n hx hb d_X_count_56 rfl (lv_at hl 1 rfl) ?_
    refine g_get C hG (hG.lt (Nat.le_of_ble_eq_true rfl)) (ce0 w _) rfl inC7 1 (Nat.le_of_ble_eq_true rfl) qw200 rfl d_X_count_57 ?_
    refine g_get C hG (hG.lt (Nat.le_of_ble_eq_true rfl)) (ce25 w _) rfl inC0 3 (Nat.le_of_ble_eq_true rfl) qw83 rfl d_X_count_60 ?_
    exact g_iret C hG (sm_fst h) (sm_snd h) hQ d_X_count_63
  replace h := it_f h hc0
  by_cases hc1 : x1 = 1
  · replace h := it_t h hc1
    refine lv_tableIn (off := 58) (tgt := 64) hx hb d_X_count_6 (by rw [hc1]; decide) (by rw [hc1]; decide) (by rw [hc1]; rfl) (by decide) ?_
    refine lv_aload_n hx hb d_X_count_64 rfl (lv_at hl 1 rfl) ?_
    refine g_get C hG (hG.lt (Nat.le_of_ble_eq_true rfl)) (ce0 w _) rfl inC7 1 (Nat.le_of_ble_eq_true rfl) qw200 rfl d_X_count_65 ?_
    refine g_get C hG (hG.lt (Nat.le_of_ble_eq_true rfl)) (ce25 w _) rfl inC0 1 (Nat.le_of_ble_eq_true rfl) qw78 rfl d_X_count_68 ?_
    exact g_iret C hG (sm_fst h) (sm_snd h) hQ d_X_count_71
  replace h := it_f h hc1
  by_cases hc2 : x1 = 2
  · replace h := it_t h hc2
    refine lv_tableIn (off := 66) (tgt := 72) hx hb d_X_count_6 (by rw [hc2]; decide) (by rw [hc2]; decide) (by rw [hc2]; rfl) (by decide) ?_
    refine lv_aload_n hx hb d_X_count_72 rfl (lv_at hl 0 rfl) ?_
    refine g_get C hG (hG.lt (Nat.le_of_ble_eq_true rfl)) (ce27 w _) rfl inC3 5 (Nat.le_of_ble_eq_true rfl) qw108 rfl d_X_count_73 ?_
    exact g_iret C hG (sm_fst h) (sm_snd h) hQ d_X_count_76
  replace h := it_f h hc2
  by_cases hc3 : x1 = 3
  · replace h := it_t h hc3
    refine lv_tableIn (off := 71) (tgt := 77) hx hb d_X_count_6 (by rw [hc3]; decide) (by rw [hc3]; decide) (by rw [hc3]; rfl) (by decide) ?_
    refine lv_aload_n hx hb d_X_count_77 rfl (lv_at hl 0 rfl) ?_
    obtain ⟨z2, hz2, h⟩ := bnd_some h
    refine g_goi hG (g_runV (As := []) (rest := []) C hG (c_OC_numberOwned l w z1 hz2 _) (hG.lt (Nat.le_of_ble_eq_true rfl)) (ce27 w _) rfl vw_X_282 rfl rfl ⟨by decide, by decide⟩ rfl hl.1 rfl (Nat.le_of_ble_eq_true rfl) d_X_count_78 ⟨Nat.zero_le _, Nat.zero_le _⟩) (fun H locs hG => ?_)
    exact g_iret C hG (sm_fst h) (sm_snd h) hQ d_X_count_81
  replace h := it_f h hc3
  by_cases hc4 : x1 = 4
  · replace h := it_t h hc4
    refine lv_tableIn (off := 76) (tgt := 82) hx hb d_X_count_6 (by rw [hc4]; decide) (by rw [hc4]; decide) (by rw [hc4]; rfl) (by decide) ?_
    refine lv_aload_n hx hb d_X_count_82 rfl (lv_at hl 0 rfl) ?_
    refine lv_aload_n hx hb d_X_count_83 rfl (lv_at hl 1 rfl) ?_
    refine g_get C hG (hG.lt (Nat.le_of_ble_eq_true rfl)) (ce0 w _) rfl inC7 0 (Nat.le_of_ble_eq_true rfl) qw199 rfl d_X_count_84 ?_
    obtain ⟨z3, hz3, h⟩ := bnd_some h
    refine g_goi hG (g_runV (As := [.ref (gad w 1)]) (rest := []) C hG (c_OC_allPrices l w z1 hz3 _) (hG.lt (Nat.le_of_ble_eq_true rfl)) (ce27 w _) rfl vw_X_286 rfl rfl ⟨by decide, by decide⟩ rfl hl.1 rfl (Nat.le_of_ble_eq_true rfl) d_X_count_87 ⟨Nat.zero_le _, Nat.zero_le _⟩) (fun H locs hG => ?_)
    exact g_iret C hG (sm_fst h) (sm_snd h) hQ d_X_count_90
  replace h := it_f h hc4
  by_cases hc5 : x1 = 5
  · replace h := it_t h hc5
    refine lv_tableIn (off := 85) (tgt := 91) hx hb d_X_count_6 (by rw [hc5]; decide) (by rw [hc5]; decide) (by rw [hc5]; rfl) (by decide) ?_
    refine lv_aload_n hx hb d_X_count_91 rfl (lv_at hl 1 rfl) ?_
    refine g_get C hG (hG.lt (Nat.le_of_ble_eq_true rfl)) (ce0 w _) rfl inC7 6 (Nat.le_of_ble_eq_true rfl) qw205 rfl d_X_count_92 ?_
    refine g_get C hG (hG.lt (Nat.le_of_ble_eq_true rfl)) (ce45 w _) rfl inC5 3 (Nat.le_of_ble_eq_true rfl) qw187 rfl d_X_count_95 ?_
    exact g_iret C hG (sm_fst h) (sm_snd h) hQ d_X_count_98
  replace h := it_f h hc5
  by_cases hc6 : x1 = 6
  · replace h := it_t h hc6
    refine lv_tableIn (off := 93) (tgt := 99) hx hb d_X_count_6 (by rw [hc6]; decide) (by rw [hc6]; decide) (by rw [hc6]; rfl) (by decide) ?_
    refine lv_aload_n hx hb d_X_count_99 rfl (lv_at hl 1 rfl) ?_
    refine g_get C hG (hG.lt (Nat.le_of_ble_eq_true rfl)) (ce0 w _) rfl inC7 0 (Nat.le_of_ble_eq_true rfl) qw199 rfl d_X_count_100 ?_
    refine g_get C hG (hG.lt (Nat.le_of_ble_eq_true rfl)) (ce1 w _) rfl inC6 7 (Nat.le_of_ble_eq_true rfl) qw51 rfl d_X_count_103 ?_
    refine lv_iconst (v := 0) hx hb d_X_count_106 (by decide) ?_
    refine g_iald (j := 0) C hG (hG.lt (Nat.le_of_ble_eq_true rfl)) (ce24 w _) (inb_in (by decide)) rfl d_X_count_107 ?_
    exact g_iret C hG (sm_fst h) (sm_snd h) hQ d_X_count_108
  replace h := it_f h hc6
  by_cases hc7 : x1 = 7
  · replace h := it_t h hc7
    refine lv_tableIn (off := 103) (tgt := 109) hx hb d_X_count_6 (by rw [hc7]; decide) (by rw [hc7]; decide) (by rw [hc7]; rfl) (by decide) ?_
    refine lv_aload_n hx hb d_X_count_109 rfl (lv_at hl 1 rfl) ?_
    refine g_get C hG (hG.lt (Nat.le_of_ble_eq_true rfl)) (ce0 w _) rfl inC7 0 (Nat.le_of_ble_eq_true rfl) qw199 rfl d_X_count_110 ?_
    refine g_get C hG (hG.lt (Nat.le_of_ble_eq_true rfl)) (ce1 w _) rfl inC6 7 (Nat.le_of_ble_eq_true rfl) qw51 rfl d_X_count_113 ?_
    refine lv_iconst (v := 1) hx hb d_X_count_116 (by decide) ?_
    refine g_iald (j := 1) C hG (hG.lt (Nat.le_of_ble_eq_true rfl)) (ce24 w _) (inb_in (by decide)) rfl d_X_count_117 ?_
    exact g_iret C hG (sm_fst h) (sm_snd h) hQ d_X_count_118
  replace h := it_f h hc7
  by_cases hc8 : x1 = 8
  · replace h := it_t h hc8
    refine lv_tableIn (off := 113) (tgt := 119) hx hb d_X_count_6 (by rw [hc8]; decide) (by rw [hc8]; decide) (by rw [hc8]; rfl) (by decide) ?_
    refine lv_aload_n hx hb d_X_count_119 rfl (lv_at hl 1 rfl) ?_
    refine g_get C hG (hG.lt (Nat.le_of_ble_eq_true rfl)) (ce0 w _) rfl inC7 8 (Nat.le_of_ble_eq_true rfl) qw207 rfl d_X_count_120 ?_
    exact g_iret C hG (sm_fst h) (sm_snd h) hQ d_X_count_123
  replace h := it_f h hc8
  refine lv_tableOut (tgt := 124) hx hb d_X_count_6 (by have g0 := lv_neT hc0 (a := 0) (by decide); have g1 := lv_neT hc1 (a := 1) (by decide); have g2 := lv_neT hc2 (a := 2) (by decide); have g3 := lv_neT hc3 (a := 3) (by decide); have g4 := lv_neT hc4 (a := 4) (by decide); have g5 := lv_neT hc5 (a := 5) (by decide); have g6 := lv_neT hc6 (a := 6) (by decide); have g7 := lv_neT hc7 (a := 7) (by decide); have g8 := lv_neT hc8 (a := 8) (by decide); omega) (by decide) ?_
  refine lv_bipush (v := (-2)) hx hb d_X_count_124 (by decide) ?_
  exact g_iret C hG (sm_fst h) (sm_snd h) hQ d_X_count_126
theorem d_X_digestOfBids_0 : decode b_X_digestOfBids 0 = .ok (.lload_n 1, 1) := by decide +kernel
theorem d_X_digestOfBids_1 : decode b_X_digestOfBids 1 = .ok (.lstore_n 3, 1) := by decide +kernel
theorem d_X_digestOfBids_2 : decode b_X_digestOfBids 2 = .ok (.aload_n 0, 1) := by decide +kernel
theorem d_X_digestOfBids_3 : decode b_X_digestOfBids 3 = .ok (.iconst 0, 1) := by decide +kernel
theorem d_X_digestOfBids_4 : decode b_X_digestOfBids 4 = .ok (.invokevirtual 293, 3) := by decide +kernel
theorem d_X_digestOfBids_7 : decode b_X_digestOfBids 7 = .ok (.istore 5, 2) := by decide +kernel
theorem d_X_digestOfBids_9 : decode b_X_digestOfBids 9 = .ok (.iconst 0, 1) := by decide +kernel
theorem d_X_digestOfBids_10 : decode b_X_digestOfBids 10 = .ok (.istore 6, 2) := by decide +kernel
theorem d_X_digestOfBids_12 : decode b_X_digestOfBids 12 = .ok (.iload 6, 2) := by decide +kernel
theorem d_X_digestOfBids_14 : decode b_X_digestOfBids 14 = .ok (.iload 5, 2) := by decide +kernel
theorem d_X_digestOfBids_16 : decode b_X_digestOfBids 16 = .ok (.if_icmp .ge 38, 3) := by decide +kernel
theorem d_X_digestOfBids_19 : decode b_X_digestOfBids 19 = .ok (.ldc2_w 291, 3) := by decide +kernel
theorem d_X_digestOfBids_22 : decode b_X_digestOfBids 22 = .ok (.lload_n 3, 1) := by decide +kernel
theorem d_X_digestOfBids_23 : decode b_X_digestOfBids 23 = .ok (.lmul, 1) := by decide +kernel
theorem d_X_digestOfBids_24 : decode b_X_digestOfBids 24 = .ok (.aload_n 0, 1) := by decide +kernel
theorem d_X_digestOfBids_25 : decode b_X_digestOfBids 25 = .ok (.iload 6, 2) := by decide +kernel
theorem d_X_digestOfBids_27 : decode b_X_digestOfBids 27 = .ok (.invokevirtual 328, 3) := by decide +kernel
theorem d_X_digestOfBids_30 : decode b_X_digestOfBids 30 = .ok (.i2l, 1) := by decide +kernel
theorem d_X_digestOfBids_31 : decode b_X_digestOfBids 31 = .ok (.ladd, 1) := by decide +kernel
theorem d_X_digestOfBids_32 : decode b_X_digestOfBids 32 = .ok (.lstore_n 3, 1) := by decide +kernel
theorem d_X_digestOfBids_33 : decode b_X_digestOfBids 33 = .ok (.ldc2_w 291, 3) := by decide +kernel
theorem d_X_digestOfBids_36 : decode b_X_digestOfBids 36 = .ok (.lload_n 3, 1) := by decide +kernel
theorem d_X_digestOfBids_37 : decode b_X_digestOfBids 37 = .ok (.lmul, 1) := by decide +kernel
theorem d_X_digestOfBids_38 : decode b_X_digestOfBids 38 = .ok (.aload_n 0, 1) := by decide +kernel
theorem d_X_digestOfBids_39 : decode b_X_digestOfBids 39 = .ok (.iload 6, 2) := by decide +kernel
theorem d_X_digestOfBids_41 : decode b_X_digestOfBids 41 = .ok (.iconst 0, 1) := by decide +kernel
theorem d_X_digestOfBids_42 : decode b_X_digestOfBids 42 = .ok (.invokevirtual 331, 3) := by decide +kernel
theorem d_X_digestOfBids_45 : decode b_X_digestOfBids 45 = .ok (.i2l, 1) := by decide +kernel
theorem d_X_digestOfBids_46 : decode b_X_digestOfBids 46 = .ok (.ladd, 1) := by decide +kernel
theorem d_X_digestOfBids_47 : decode b_X_digestOfBids 47 = .ok (.lstore_n 3, 1) := by decide +kernel
theorem d_X_digestOfBids_48 : decode b_X_digestOfBids 48 = .ok (.iinc 6 1, 3) := by decide +kernel
theorem d_X_digestOfBids_51 : decode b_X_digestOfBids 51 = .ok (.goto (-39), 3) := by decide +kernel
theorem d_X_digestOfBids_54 : decode b_X_digestOfBids 54 = .ok (.lload_n 3, 1) := by decide +kernel
theorem d_X_digestOfBids_55 : decode b_X_digestOfBids 55 = .ok (.lreturn, 1) := by decide +kernel
noncomputable def X_digestOfBids_L12 (S : St) (x3 : Int64) (x5 : Int32) (x6 : Int32) : Option ((Int64 × Int32 × St) × Nat) :=
  if x5 ≤ x6 then
      some ((x3, x6, S), 1)
    else
      bnd (X_holds S x6) fun z1 =>
      bnd (X_without z1.2 x6 0) fun z2 =>
      some (((31 * ((31 * x3) + z1.1.toInt64)) + z2.1.toInt64, x6 + 1, z2.2), 0)
noncomputable def X_digestOfBids_J54 (S : St) (x3 : Int64) : Option (Int64 × St) :=
  some (x3, S)
noncomputable def X_digestOfBids (S : St) (x1 : Int64) : Option (Int64 × St) :=
  bnd (X_count S 0) fun z3 =>
    bnd (lp (σ := Int64 × Int32 × St) (fun q => X_digestOfBids_L12 q.2.2 q.1 z3.1 q.2.1) FZ (x1, 0, z3.2)) fun z4 =>
    X_digestOfBids_J54 z4.1.2.2 z4.1.1
set_option maxHeartbeats 4000000 in
set_option maxRecDepth 100000 in
theorem L_X_digestOfBids_12 (C : gCx p s m args meth c y_X_digestOfBids.cls b_X_digestOfBids 7 (some .long)) : ∀ (x5 : Int32) (n : Nat) (x3 : Int64) (x6 : Int32) (S : St) (r : (Int64 × Int32 × St) × Nat), lp (σ := Int64 × Int32 × St) (fun q => X_digestOfBids_L12 q.2.2 q.1 x5 q.2.1) n (x3, x6, S) = some r → (∀ (y3 : Int64) (y6 : Int32) (Sy : St), r = ((y3, y6, Sy), 1) → ∀ (ls : Array Slot) (H : Heap) (locs : List Loc), GH w s A Sy H locs → lv_has ls 7 [(3, .long y3)] → W p l e (rmm 5 113) s m args below meth c H locs 0 0 Q (F0 m 54 ls [])) → ∀ (ls : Array Slot) (H : Heap) (locs : List Loc), GH w s A S H locs → lv_has ls 7 [(0, .ref (gad w 0)), (3, .long x3), (5, .int x5), (6, .int x6)] → W p l e (rmm 5 113) s m args below meth c H locs 0 0 Q (F0 m 12 ls []) := by
  have hx := C.1
  have hb := C.2.1
  intro x5 n
  induction n with
  | zero => intro x3 x6 S r h; cases h
  | succ n ih =>
    intro x3 x6 S r h k1 ls H locs hG hl
    obtain ⟨z, h, hr⟩ := lp_succ h
    have h : X_digestOfBids_L12 S x3 x5 x6 = some z := h
    unfold X_digestOfBids_L12 at h
    refine lv_iload hx hb d_X_digestOfBids_12 (lv_at hl 3 rfl) ?_
    refine lv_iload hx hb d_X_digestOfBids_14 (lv_at hl 2 rfl) ?_
    refine lv_icmp_ge (tgt := 54) hx hb d_X_digestOfBids_16 (by decide) (fun hc => ?_) (fun hc => ?_)
    · replace h := it_t h hc
      exact k1 _ _ _ (lp_exit h hr) ls _ _ hG (lv_sub hl [1] rfl)
    · replace h := it_f h hc
      refine lv_ldc2 (v := 31) hx hb C.2.2.2.1 (C.2.2.2.2.1 _ qw637) d_X_digestOfBids_19 ?_
      refine lv_lload_n hx hb d_X_digestOfBids_22 rfl (lv_at hl 1 rfl) ?_
      refine lv_lmul hx hb d_X_digestOfBids_23 ?_
      refine lv_aload_n hx hb d_X_digestOfBids_24 rfl (lv_at hl 0 rfl) ?_
      refine lv_iload hx hb d_X_digestOfBids_25 (lv_at hl 3 rfl) ?_
      obtain ⟨z1, hz1, h⟩ := bnd_some h
      refine g_goi hG (g_runV (As := [.int x6]) (rest := [.long (31 * x3)]) C hG (c_X_holds l w S x6 hz1 _) (hG.lt (Nat.le_of_ble_eq_true rfl)) (ce0 w _) rfl vw_X_328 rfl rfl ⟨by decide, by decide⟩ rfl hl.1 rfl (Nat.le_of_ble_eq_true rfl) d_X_digestOfBids_27 ⟨Nat.zero_le _, Nat.zero_le _⟩) (fun H locs hG => ?_)
      refine lv_i2l (v := z1.1.toInt64) hx hb d_X_digestOfBids_30 rfl ?_
      refine lv_ladd hx hb d_X_digestOfBids_31 ?_
      refine lv_lstore_n (lv' := [(3, .long ((31 * x3) + z1.1.toInt64)), (0, .ref (gad w 0)), (5, .int x5), (6, .int x6)]) hx hb d_X_digestOfBids_32 rfl hl (by decide) rfl (fun ls hl => ?_)
      refine lv_ldc2 (v := 31) hx hb C.2.2.2.1 (C.2.2.2.2.1 _ qw637) d_X_digestOfBids_33 ?_
      refine lv_lload_n hx hb d_X_digestOfBids_36 rfl (lv_at hl 0 rfl) ?_
      refine lv_lmul hx hb d_X_digestOfBids_37 ?_
      refine lv_aload_n hx hb d_X_digestOfBids_38 rfl (lv_at hl 1 rfl) ?_
      refine lv_iload hx hb d_X_digestOfBids_39 (lv_at hl 3 rfl) ?_
      refine lv_iconst (v := 0) hx hb d_X_digestOfBids_41 (by decide) ?_
      obtain ⟨z2, hz2, h⟩ := bnd_some h
      refine g_goi hG (g_runV (As := [.int x6, .int 0]) (rest := [.long (31 * ((31 * x3) + z1.1.toInt64))]) C hG (c_X_without l w z1.2 x6 0 hz2 _) (hG.lt (Nat.le_of_ble_eq_true rfl)) (ce0 w _) rfl vw_X_331 rfl rfl ⟨by decide, by decide⟩ rfl hl.1 rfl (Nat.le_of_ble_eq_true rfl) d_X_digestOfBids_42 ⟨Nat.zero_le _, Nat.zero_le _⟩) (fun H locs hG => ?_)
      refine lv_i2l (v := z2.1.toInt64) hx hb d_X_digestOfBids_45 rfl ?_
      refine lv_ladd hx hb d_X_digestOfBids_46 ?_
      refine lv_lstore_n (lv' := [(3, .long ((31 * ((31 * x3) + z1.1.toInt64)) + z2.1.toInt64)), (0, .ref (gad w 0)), (5, .int x5), (6, .int x6)]) hx hb d_X_digestOfBids_47 rfl hl (by decide) rfl (fun ls hl => ?_)
      refine lv_iinc (v := x6 + 1) (lv' := [(6, .int (x6 + 1)), (3, .long ((31 * ((31 * x3) + z1.1.toInt64)) + z2.1.toInt64)), (0, .ref (gad w 0)), (5, .int x5)]) hx hb d_X_digestOfBids_48 hl (k := 3) rfl (congrArg (HAdd.hAdd x6) (by decide : Int32.ofInt 1 = 1)) (by decide) rfl (fun ls hl => ?_)
      refine lv_goto (tgt := 12) hx hb d_X_digestOfBids_51 (by decide) ?_
      exact ih _ _ _ _ (lp_back h hr) k1 ls _ _ hG (lv_sub hl [2, 1, 3, 0] rfl)
set_option maxHeartbeats 4000000 in
set_option maxRecDepth 100000 in
theorem c_X_digestOfBids (l : Launch) (w : gw) (S : St) (x1 : Int64)  {z : Int64 × St} (h : (X_digestOfBids S x1) = some z) : gMl l w y_X_digestOfBids b_X_digestOfBids 7 (some .long) (rmm 5 113) [.ref (gad w 0), .long x1] S z.1 z.2 := by
  unfold X_digestOfBids at h
  refine g_met (Qc := gQl w z.1 z.2) (by decide +kernel) (Nat.le_of_ble_eq_true rfl) ?_
  intro p e s m args below meth c A Q ls hQ C hG hl
  have hx := C.1
  have hb := C.2.1
  have hl : lv_has ls 7 [(0, .ref (gad w 0)), (1, .long x1)] := hl
  have J54 : ∀ (S : St) (x3 : Int64), X_digestOfBids_J54 S x3 = some z → ∀ (ls : Array Slot) (H : Heap) (locs : List Loc), GH w s A S H locs → lv_has ls 7 [(3, .long x3)] → W p l e (rmm 5 113) s m args below meth c H locs 0 0 Q (F0 m 54 ls []) := by
    intro S x3 h ls H locs hG hl
    unfold X_digestOfBids_J54 at h
    refine lv_lload_n hx hb d_X_digestOfBids_54 rfl (lv_at hl 0 rfl) ?_
    exact g_lret C hG (sm_fst h) (sm_snd h) hQ d_X_digestOfBids_55
  refine lv_lload_n hx hb d_X_digestOfBids_0 rfl (lv_at hl 1 rfl) ?_
  refine lv_lstore_n (lv' := [(3, .long x1), (0, .ref (gad w 0)), (1, .long x1)]) hx hb d_X_digestOfBids_1 rfl hl (by decide) rfl (fun ls hl => ?_)
  refine lv_aload_n hx hb d_X_digestOfBids_2 rfl (lv_at hl 1 rfl) ?_
  refine lv_iconst (v := 0) hx hb d_X_digestOfBids_3 (by decide) ?_
  obtain ⟨z3, hz3, h⟩ := bnd_some h
  refine g_goi hG (g_runV (As := [.int 0]) (rest := []) C hG (c_X_count l w S 0 hz3 _) (hG.lt (Nat.le_of_ble_eq_true rfl)) (ce0 w _) rfl vw_X_293 rfl rfl ⟨by decide, by decide⟩ rfl hl.1 rfl (Nat.le_of_ble_eq_true rfl) d_X_digestOfBids_4 ⟨Nat.zero_le _, Nat.zero_le _⟩) (fun H locs hG => ?_)
  refine lv_istore (lv' := [(5, .int z3.1), (3, .long x1), (0, .ref (gad w 0)), (1, .long x1)]) hx hb d_X_digestOfBids_7 hl (by decide) rfl (fun ls hl => ?_)
  refine lv_iconst (v := 0) hx hb d_X_digestOfBids_9 (by decide) ?_
  refine lv_istore (lv' := [(6, .int 0), (5, .int z3.1), (3, .long x1), (0, .ref (gad w 0)), (1, .long x1)]) hx hb d_X_digestOfBids_10 hl (by decide) rfl (fun ls hl => ?_)
  obtain ⟨z4, hz4, h⟩ := bnd_some h
  refine L_X_digestOfBids_12 C _ FZ _ _ _ _ hz4 ?_ ls _ _ hG (lv_sub hl [3, 2, 1, 0] rfl)
  intro y3 y6 Sy e9 ls H locs hG hl
  subst e9
  exact J54 _ _ h ls _ _ hG (lv_sub hl [0] rfl)
theorem d_X_digestOfEvenings_0 : decode b_X_digestOfEvenings 0 = .ok (.lload_n 1, 1) := by decide +kernel
theorem d_X_digestOfEvenings_1 : decode b_X_digestOfEvenings 1 = .ok (.lstore_n 3, 1) := by decide +kernel
theorem d_X_digestOfEvenings_2 : decode b_X_digestOfEvenings 2 = .ok (.iconst 0, 1) := by decide +kernel
theorem d_X_digestOfEvenings_3 : decode b_X_digestOfEvenings 3 = .ok (.istore 5, 2) := by decide +kernel
theorem d_X_digestOfEvenings_5 : decode b_X_digestOfEvenings 5 = .ok (.iload 5, 2) := by decide +kernel
theorem d_X_digestOfEvenings_7 : decode b_X_digestOfEvenings 7 = .ok (.bipush 10, 2) := by decide +kernel
theorem d_X_digestOfEvenings_9 : decode b_X_digestOfEvenings 9 = .ok (.if_icmp .ge 95, 3) := by decide +kernel
theorem d_X_digestOfEvenings_12 : decode b_X_digestOfEvenings 12 = .ok (.ldc2_w 291, 3) := by decide +kernel
theorem d_X_digestOfEvenings_15 : decode b_X_digestOfEvenings 15 = .ok (.lload_n 3, 1) := by decide +kernel
theorem d_X_digestOfEvenings_16 : decode b_X_digestOfEvenings 16 = .ok (.lmul, 1) := by decide +kernel
theorem d_X_digestOfEvenings_17 : decode b_X_digestOfEvenings 17 = .ok (.aload_n 0, 1) := by decide +kernel
theorem d_X_digestOfEvenings_18 : decode b_X_digestOfEvenings 18 = .ok (.iload 5, 2) := by decide +kernel
theorem d_X_digestOfEvenings_20 : decode b_X_digestOfEvenings 20 = .ok (.invokevirtual 334, 3) := by decide +kernel
theorem d_X_digestOfEvenings_23 : decode b_X_digestOfEvenings 23 = .ok (.i2l, 1) := by decide +kernel
theorem d_X_digestOfEvenings_24 : decode b_X_digestOfEvenings 24 = .ok (.ladd, 1) := by decide +kernel
theorem d_X_digestOfEvenings_25 : decode b_X_digestOfEvenings 25 = .ok (.lstore_n 3, 1) := by decide +kernel
theorem d_X_digestOfEvenings_26 : decode b_X_digestOfEvenings 26 = .ok (.ldc2_w 291, 3) := by decide +kernel
theorem d_X_digestOfEvenings_29 : decode b_X_digestOfEvenings 29 = .ok (.lload_n 3, 1) := by decide +kernel
theorem d_X_digestOfEvenings_30 : decode b_X_digestOfEvenings 30 = .ok (.lmul, 1) := by decide +kernel
theorem d_X_digestOfEvenings_31 : decode b_X_digestOfEvenings 31 = .ok (.aload_n 0, 1) := by decide +kernel
theorem d_X_digestOfEvenings_32 : decode b_X_digestOfEvenings 32 = .ok (.iload 5, 2) := by decide +kernel
theorem d_X_digestOfEvenings_34 : decode b_X_digestOfEvenings 34 = .ok (.invokevirtual 337, 3) := by decide +kernel
theorem d_X_digestOfEvenings_37 : decode b_X_digestOfEvenings 37 = .ok (.i2l, 1) := by decide +kernel
theorem d_X_digestOfEvenings_38 : decode b_X_digestOfEvenings 38 = .ok (.ladd, 1) := by decide +kernel
theorem d_X_digestOfEvenings_39 : decode b_X_digestOfEvenings 39 = .ok (.lstore_n 3, 1) := by decide +kernel
theorem d_X_digestOfEvenings_40 : decode b_X_digestOfEvenings 40 = .ok (.ldc2_w 291, 3) := by decide +kernel
theorem d_X_digestOfEvenings_43 : decode b_X_digestOfEvenings 43 = .ok (.lload_n 3, 1) := by decide +kernel
theorem d_X_digestOfEvenings_44 : decode b_X_digestOfEvenings 44 = .ok (.lmul, 1) := by decide +kernel
theorem d_X_digestOfEvenings_45 : decode b_X_digestOfEvenings 45 = .ok (.aload_n 0, 1) := by decide +kernel
theorem d_X_digestOfEvenings_46 : decode b_X_digestOfEvenings 46 = .ok (.iload 5, 2) := by decide +kernel
theorem d_X_digestOfEvenings_48 : decode b_X_digestOfEvenings 48 = .ok (.invokevirtual 340, 3) := by decide +kernel
theorem d_X_digestOfEvenings_51 : decode b_X_digestOfEvenings 51 = .ok (.i2l, 1) := by decide +kernel
theorem d_X_digestOfEvenings_52 : decode b_X_digestOfEvenings 52 = .ok (.ladd, 1) := by decide +kernel
theorem d_X_digestOfEvenings_53 : decode b_X_digestOfEvenings 53 = .ok (.lstore_n 3, 1) := by decide +kernel
theorem d_X_digestOfEvenings_54 : decode b_X_digestOfEvenings 54 = .ok (.ldc2_w 291, 3) := by decide +kernel
theorem d_X_digestOfEvenings_57 : decode b_X_digestOfEvenings 57 = .ok (.lload_n 3, 1) := by decide +kernel
theorem d_X_digestOfEvenings_58 : decode b_X_digestOfEvenings 58 = .ok (.lmul, 1) := by decide +kernel
theorem d_X_digestOfEvenings_59 : decode b_X_digestOfEvenings 59 = .ok (.aload_n 0, 1) := by decide +kernel
theorem d_X_digestOfEvenings_60 : decode b_X_digestOfEvenings 60 = .ok (.iload 5, 2) := by decide +kernel
theorem d_X_digestOfEvenings_62 : decode b_X_digestOfEvenings 62 = .ok (.invokevirtual 322, 3) := by decide +kernel
theorem d_X_digestOfEvenings_65 : decode b_X_digestOfEvenings 65 = .ok (.i2l, 1) := by decide +kernel
theorem d_X_digestOfEvenings_66 : decode b_X_digestOfEvenings 66 = .ok (.ladd, 1) := by decide +kernel
theorem d_X_digestOfEvenings_67 : decode b_X_digestOfEvenings 67 = .ok (.lstore_n 3, 1) := by decide +kernel
theorem d_X_digestOfEvenings_68 : decode b_X_digestOfEvenings 68 = .ok (.ldc2_w 291, 3) := by decide +kernel
theorem d_X_digestOfEvenings_71 : decode b_X_digestOfEvenings 71 = .ok (.lload_n 3, 1) := by decide +kernel
theorem d_X_digestOfEvenings_72 : decode b_X_digestOfEvenings 72 = .ok (.lmul, 1) := by decide +kernel
theorem d_X_digestOfEvenings_73 : decode b_X_digestOfEvenings 73 = .ok (.aload_n 0, 1) := by decide +kernel
theorem d_X_digestOfEvenings_74 : decode b_X_digestOfEvenings 74 = .ok (.iconst 1, 1) := by decide +kernel
theorem d_X_digestOfEvenings_75 : decode b_X_digestOfEvenings 75 = .ok (.iload 5, 2) := by decide +kernel
theorem d_X_digestOfEvenings_77 : decode b_X_digestOfEvenings 77 = .ok (.iconst 0, 1) := by decide +kernel
theorem d_X_digestOfEvenings_78 : decode b_X_digestOfEvenings 78 = .ok (.invokevirtual 343, 3) := by decide +kernel
theorem d_X_digestOfEvenings_81 : decode b_X_digestOfEvenings 81 = .ok (.ladd, 1) := by decide +kernel
theorem d_X_digestOfEvenings_82 : decode b_X_digestOfEvenings 82 = .ok (.lstore_n 3, 1) := by decide +kernel
theorem d_X_digestOfEvenings_83 : decode b_X_digestOfEvenings 83 = .ok (.ldc2_w 291, 3) := by decide +kernel
theorem d_X_digestOfEvenings_86 : decode b_X_digestOfEvenings 86 = .ok (.lload_n 3, 1) := by decide +kernel
theorem d_X_digestOfEvenings_87 : decode b_X_digestOfEvenings 87 = .ok (.lmul, 1) := by decide +kernel
theorem d_X_digestOfEvenings_88 : decode b_X_digestOfEvenings 88 = .ok (.aload_n 0, 1) := by decide +kernel
theorem d_X_digestOfEvenings_89 : decode b_X_digestOfEvenings 89 = .ok (.iconst 1, 1) := by decide +kernel
theorem d_X_digestOfEvenings_90 : decode b_X_digestOfEvenings 90 = .ok (.iload 5, 2) := by decide +kernel
theorem d_X_digestOfEvenings_92 : decode b_X_digestOfEvenings 92 = .ok (.iconst 1, 1) := by decide +kernel
theorem d_X_digestOfEvenings_93 : decode b_X_digestOfEvenings 93 = .ok (.invokevirtual 343, 3) := by decide +kernel
theorem d_X_digestOfEvenings_96 : decode b_X_digestOfEvenings 96 = .ok (.ladd, 1) := by decide +kernel
theorem d_X_digestOfEvenings_97 : decode b_X_digestOfEvenings 97 = .ok (.lstore_n 3, 1) := by decide +kernel
theorem d_X_digestOfEvenings_98 : decode b_X_digestOfEvenings 98 = .ok (.iinc 5 1, 3) := by decide +kernel
theorem d_X_digestOfEvenings_101 : decode b_X_digestOfEvenings 101 = .ok (.goto (-96), 3) := by decide +kernel
theorem d_X_digestOfEvenings_104 : decode b_X_digestOfEvenings 104 = .ok (.lload_n 3, 1) := by decide +kernel
theorem d_X_digestOfEvenings_105 : decode b_X_digestOfEvenings 105 = .ok (.lreturn, 1) := by decide +kernel
noncomputable def X_digestOfEvenings_L5 (S : St) (x3 : Int64) (x5 : Int32) : Option ((Int64 × Int32 × St) × Nat) :=
  if 10 ≤ x5 then
      some ((x3, x5, S), 1)
    else
      bnd (X_owner S x5) fun z1 =>
      bnd (X_price z1.2 x5) fun z2 =>
      bnd (X_harm z2.2 x5) fun z3 =>
      bnd (X_owners z3.2 x5) fun z4 =>
      bnd (X_worth z4.2 1 x5 0) fun z5 =>
      bnd (X_worth z4.2 1 x5 1) fun z6 =>
      some (((31 * ((31 * ((31 * ((31 * ((31 * ((31 * x3) + z1.1.toInt64)) + z2.1.toInt64)) + z3.1.toInt64)) + z4.1.toInt64)) + z5)) + z6, x5 + 1, z4.2), 0)
noncomputable def X_digestOfEvenings_J104 (S : St) (x3 : Int64) : Option (Int64 × St) :=
  some (x3, S)
noncomputable def X_digestOfEvenings (S : St) (x1 : Int64) : Option (Int64 × St) :=
  bnd (lp (σ := Int64 × Int32 × St) (fun q => X_digestOfEvenings_L5 q.2.2 q.1 q.2.1) FZ (x1, 0, S)) fun z7 =>
    X_digestOfEvenings_J104 z7.1.2.2 z7.1.1
set_option maxHeartbeats 4000000 in
set_option maxRecDepth 100000 in
theorem L_X_digestOfEvenings_5 (C : gCx p s m args meth c y_X_digestOfEvenings.cls b_X_digestOfEvenings 6 (some .long)) : ∀ (n : Nat) (x3 : Int64) (x5 : Int32) (S : St) (r : (Int64 × Int32 × St) × Nat), lp (σ := Int64 × Int32 × St) (fun q => X_digestOfEvenings_L5 q.2.2 q.1 q.2.1) n (x3, x5, S) = some r → (∀ (y3 : Int64) (y5 : Int32) (Sy : St), r = ((y3, y5, Sy), 1) → ∀ (ls : Array Slot) (H : Heap) (locs : List Loc), GH w s A Sy H locs → lv_has ls 6 [(3, .long y3)] → W p l e (rmm 5 115) s m args below meth c H locs 0 0 Q (F0 m 104 ls [])) → ∀ (ls : Array Slot) (H : Heap) (locs : List Loc), GH w s A S H locs → lv_has ls 6 [(0, .ref (gad w 0)), (3, .long x3), (5, .int x5)] → W p l e (rmm 5 115) s m args below meth c H locs 0 0 Q (F0 m 5 ls []) := by
  have hx := C.1
  have hb := C.2.1
  intro n
  induction n with
  | zero => intro x3 x5 S r h; cases h
  | succ n ih =>
    intro x3 x5 S r h k1 ls H locs hG hl
    obtain ⟨z, h, hr⟩ := lp_succ h
    have h : X_digestOfEvenings_L5 S x3 x5 = some z := h
    unfold X_digestOfEvenings_L5 at h
    refine lv_iload hx hb d_X_digestOfEvenings_5 (lv_at hl 2 rfl) ?_
    refine lv_bipush (v := 10) hx hb d_X_digestOfEvenings_7 (by decide) ?_
    refine lv_icmp_ge (tgt := 104) hx hb d_X_digestOfEvenings_9 (by decide) (fun hc => ?_) (fun hc => ?_)
    · replace h := it_t h hc
      exact k1 _ _ _ (lp_exit h hr) ls _ _ hG (lv_sub hl [1] rfl)
    · replace h := it_f h hc
      refine lv_ldc2 (v := 31) hx hb C.2.2.2.1 (C.2.2.2.2.1 _ qw637) d_X_digestOfEvenings_12 ?_
      refine lv_lload_n hx hb d_X_digestOfEvenings_15 rfl (lv_at hl 1 rfl) ?_
      refine lv_lmul hx hb d_X_digestOfEvenings_16 ?_
      refine lv_aload_n hx hb d_X_digestOfEvenings_17 rfl (lv_at hl 0 rfl) ?_
      refine lv_iload hx hb d_X_digestOfEvenings_18 (lv_at hl 2 rfl) ?_
      obtain ⟨z1, hz1, h⟩ := bnd_some h
      refine g_goi hG (g_runV (As := [.int x5]) (rest := [.long (31 * x3)]) C hG (c_X_owner l w S x5 hz1 _) (hG.lt (Nat.le_of_ble_eq_true rfl)) (ce0 w _) rfl vw_X_334 rfl rfl ⟨by decide, by decide⟩ rfl hl.1 rfl (Nat.le_of_ble_eq_true rfl) d_X_digestOfEvenings_20 ⟨Nat.zero_le _, Nat.zero_le _⟩) (fun H locs hG => ?_)
      refine lv_i2l (v := z1.1.toInt64) hx hb d_X_digestOfEvenings_23 rfl ?_
      refine lv_ladd hx hb d_X_digestOfEvenings_24 ?_
      refine lv_lstore_n (lv' := [(3, .long ((31 * x3) + z1.1.toInt64)), (0, .ref (gad w 0)), (5, .int x5)]) hx hb d_X_digestOfEvenings_25 rfl hl (by decide) rfl (fun ls hl => ?_)
      refine lv_ldc2 (v := 31) hx hb C.2.2.2.1 (C.2.2.2.2.1 _ qw637) d_X_digestOfEvenings_26 ?_
      refine lv_lload_n hx hb d_X_digestOfEvenings_29 rfl (lv_at hl 0 rfl) ?_
      refine lv_lmul hx hb d_X_digestOfEvenings_30 ?_
      refine lv_aload_n hx hb d_X_digestOfEvenings_31 rfl (lv_at hl 1 rfl) ?_
      refine lv_iload hx hb d_X_digestOfEvenings_32 (lv_at hl 2 rfl) ?_
      obtain ⟨z2, hz2, h⟩ := bnd_some h
      refine g_goi hG (g_runV (As := [.int x5]) (rest := [.long (31 * ((31 * x3) + z1.1.toInt64))]) C hG (c_X_price l w z1.2 x5 hz2 _) (hG.lt (Nat.le_of_ble_eq_true rfl)) (ce0 w _) rfl vw_X_337 rfl rfl ⟨by decide, by decide⟩ rfl hl.1 rfl (Nat.le_of_ble_eq_true rfl) d_X_digestOfEvenings_34 ⟨Nat.zero_le _, Nat.zero_le _⟩) (fun H locs hG => ?_)
      refine lv_i2l (v := z2.1.toInt64) hx hb d_X_digestOfEvenings_37 rfl ?_
      refine lv_ladd hx hb d_X_digestOfEvenings_38 ?_
      refine lv_lstore_n (lv' := [(3, .long ((31 * ((31 * x3) + z1.1.toInt64)) + z2.1.toInt64)), (0, .ref (gad w 0)), (5, .int x5)]) hx hb d_X_digestOfEvenings_39 rfl hl (by decide) rfl (fun ls hl => ?_)
      refine lv_ldc2 (v := 31) hx hb C.2.2.2.1 (C.2.2.2.2.1 _ qw637) d_X_digestOfEvenings_40 ?_
      refine lv_lload_n hx hb d_X_digestOfEvenings_43 rfl (lv_at hl 0 rfl) ?_
      refine lv_lmul hx hb d_X_digestOfEvenings_44 ?_
      refine lv_aload_n hx hb d_X_digestOfEvenings_45 rfl (lv_at hl 1 rfl) ?_
      refine lv_iload hx hb d_X_digestOfEvenings_46 (lv_at hl 2 rfl) ?_
      obtain ⟨z3, hz3, h⟩ := bnd_some h
      refine g_goi hG (g_runV (As := [.int x5]) (rest := [.long (31 * ((31 * ((31 * x3) + z1.1.toInt64)) + z2.1.toInt64))]) C hG (c_X_harm l w z2.2 x5 hz3 _) (hG.lt (Nat.le_of_ble_eq_true rfl)) (ce0 w _) rfl vw_X_340 rfl rfl ⟨by decide, by decide⟩ rfl hl.1 rfl (Nat.le_of_ble_eq_true rfl) d_X_digestOfEvenings_48 ⟨Nat.zero_le _, Nat.zero_le _⟩) (fun H locs hG => ?_)
      refine lv_i2l (v := z3.1.toInt64) hx hb d_X_digestOfEvenings_51 rfl ?_
      refine lv_ladd hx hb d_X_digestOfEvenings_52 ?_
      refine lv_lstore_n (lv' := [(3, .long ((31 * ((31 * ((31 * x3) + z1.1.toInt64)) + z2.1.toInt64)) + z3.1.toInt64)), (0, .ref (gad w 0)), (5, .int x5)]) hx hb d_X_digestOfEvenings_53 rfl hl (by decide) rfl (fun ls hl => ?_)
      refine lv_ldc2 (v := 31) hx hb C.2.2.2.1 (C.2.2.2.2.1 _ qw637) d_X_digestOfEvenings_54 ?_
      refine lv_lload_n hx hb d_X_digestOfEvenings_57 rfl (lv_at hl 0 rfl) ?_
      refine lv_lmul hx hb d_X_digestOfEvenings_58 ?_
      refine lv_aload_n hx hb d_X_digestOfEvenings_59 rfl (lv_at hl 1 rfl) ?_
      refine lv_iload hx hb d_X_digestOfEvenings_60 (lv_at hl 2 rfl) ?_
      obtain ⟨z4, hz4, h⟩ := bnd_some h
      refine g_goi hG (g_runV (As := [.int x5]) (rest := [.long (31 * ((31 * ((31 * ((31 * x3) + z1.1.toInt64)) + z2.1.toInt64)) + z3.1.toInt64))]) C hG (c_X_owners l w z3.2 x5 hz4 _) (hG.lt (Nat.le_of_ble_eq_true rfl)) (ce0 w _) rfl vw_X_322 rfl rfl ⟨by decide, by decide⟩ rfl hl.1 rfl (Nat.le_of_ble_eq_true rfl) d_X_digestOfEvenings_62 ⟨Nat.zero_le _, Nat.zero_le _⟩) (fun H locs hG => ?_)
      refine lv_i2l (v := z4.1.toInt64) hx hb d_X_digestOfEvenings_65 rfl ?_
      refine lv_ladd hx hb d_X_digestOfEvenings_66 ?_
      refine lv_lstore_n (lv' := [(3, .long ((31 * ((31 * ((31 * ((31 * x3) + z1.1.toInt64)) + z2.1.toInt64)) + z3.1.toInt64)) + z4.1.toInt64)), (0, .ref (gad w 0)), (5, .int x5)]) hx hb d_X_digestOfEvenings_67 rfl hl (by decide) rfl (fun ls hl => ?_)
      refine lv_ldc2 (v := 31) hx hb C.2.2.2.1 (C.2.2.2.2.1 _ qw637) d_X_digestOfEvenings_68 ?_
      refine lv_lload_n hx hb d_X_digestOfEvenings_71 rfl (lv_at hl 0 rfl) ?_
      refine lv_lmul hx hb d_X_digestOfEvenings_72 ?_
      refine lv_aload_n hx hb d_X_digestOfEvenings_73 rfl (lv_at hl 1 rfl) ?_
      refine lv_iconst (v := 1) hx hb d_X_digestOfEvenings_74 (by decide) ?_
      refine lv_iload hx hb d_X_digestOfEvenings_75 (lv_at hl 2 rfl) ?_
      refine lv_iconst (v := 0) hx hb d_X_digestOfEvenings_77 (by decide) ?_
      obtain ⟨z5, hz5, h⟩ := bnd_some h
      refine g_gol hG (g_runV (As := [.int 1, .int x5, .int 0]) (rest := [.long (31 * ((31 * ((31 * ((31 * ((31 * x3) + z1.1.toInt64)) + z2.1.toInt64)) + z3.1.toInt64)) + z4.1.toInt64))]) C hG (c_X_worth l w z4.2 1 x5 0 hz5 _) (hG.lt (Nat.le_of_ble_eq_true rfl)) (ce0 w _) rfl vw_X_343 rfl rfl ⟨by decide, by decide⟩ rfl hl.1 rfl (Nat.le_of_ble_eq_true rfl) d_X_digestOfEvenings_78 ⟨Nat.zero_le _, Nat.zero_le _⟩) (fun H locs hG => ?_)
      refine lv_ladd hx hb d_X_digestOfEvenings_81 ?_
      refine lv_lstore_n (lv' := [(3, .long ((31 * ((31 * ((31 * ((31 * ((31 * x3) + z1.1.toInt64)) + z2.1.toInt64)) + z3.1.toInt64)) + z4.1.toInt64)) + z5)), (0, .ref (gad w 0)), (5, .int x5)]) hx hb d_X_digestOfEvenings_82 rfl hl (by decide) rfl (fun ls hl => ?_)
      refine lv_ldc2 (v := 31) hx hb C.2.2.2.1 (C.2.2.2.2.1 _ qw637) d_X_digestOfEvenings_83 ?_
      refine lv_lload_n hx hb d_X_digestOfEvenings_86 rfl (lv_at hl 0 rfl) ?_
      refine lv_lmul hx hb d_X_digestOfEvenings_87 ?_
      refine lv_aload_n hx hb d_X_digestOfEvenings_88 rfl (lv_at hl 1 rfl) ?_
      refine lv_iconst (v := 1) hx hb d_X_digestOfEvenings_89 (by decide) ?_
      refine lv_iload hx hb d_X_digestOfEvenings_90 (lv_at hl 2 rfl) ?_
      refine lv_iconst (v := 1) hx hb d_X_digestOfEvenings_92 (by decide) ?_
      obtain ⟨z6, hz6, h⟩ := bnd_some h
      refine g_gol hG (g_runV (As := [.int 1, .int x5, .int 1]) (rest := [.long (31 * ((31 * ((31 * ((31 * ((31 * ((31 * x3) + z1.1.toInt64)) + z2.1.toInt64)) + z3.1.toInt64)) + z4.1.toInt64)) + z5))]) C hG (c_X_worth l w z4.2 1 x5 1 hz6 _) (hG.lt (Nat.le_of_ble_eq_true rfl)) (ce0 w _) rfl vw_X_343 rfl rfl ⟨by decide, by decide⟩ rfl hl.1 rfl (Nat.le_of_ble_eq_true rfl) d_X_digestOfEvenings_93 ⟨Nat.zero_le _, Nat.zero_le _⟩) (fun H locs hG => ?_)
      refine lv_ladd hx hb d_X_digestOfEvenings_96 ?_
      refine lv_lstore_n (lv' := [(3, .long ((31 * ((31 * ((31 * ((31 * ((31 * ((31 * x3) + z1.1.toInt64)) + z2.1.toInt64)) + z3.1.toInt64)) + z4.1.toInt64)) + z5)) + z6)), (0, .ref (gad w 0)), (5, .int x5)]) hx hb d_X_digestOfEvenings_97 rfl hl (by decide) rfl (fun ls hl => ?_)
      refine lv_iinc (v := x5 + 1) (lv' := [(5, .int (x5 + 1)), (3, .long ((31 * ((31 * ((31 * ((31 * ((31 * ((31 * x3) + z1.1.toInt64)) + z2.1.toInt64)) + z3.1.toInt64)) + z4.1.toInt64)) + z5)) + z6)), (0, .ref (gad w 0))]) hx hb d_X_digestOfEvenings_98 hl (k := 2) rfl (congrArg (HAdd.hAdd x5) (by decide : Int32.ofInt 1 = 1)) (by decide) rfl (fun ls hl => ?_)
      refine lv_goto (tgt := 5) hx hb d_X_digestOfEvenings_101 (by decide) ?_
      exact ih _ _ _ _ (lp_back h hr) k1 ls _ _ hG (lv_sub hl [2, 1, 0] rfl)
set_option maxHeartbeats 4000000 in
set_option maxRecDepth 100000 in
theorem c_X_digestOfEvenings (l : Launch) (w : gw) (S : St) (x1 : Int64)  {z : Int64 × St} (h : (X_digestOfEvenings S x1) = some z) : gMl l w y_X_digestOfEvenings b_X_digestOfEvenings 6 (some .long) (rmm 5 115) [.ref (gad w 0), .long x1] S z.1 z.2 := by
  unfold X_digestOfEvenings at h
  refine g_met (Qc := gQl w z.1 z.2) (by decide +kernel) (Nat.le_of_ble_eq_true rfl) ?_
  intro p e s m args below meth c A Q ls hQ C hG hl
  have hx := C.1
  have hb := C.2.1
  have hl : lv_has ls 6 [(0, .ref (gad w 0)), (1, .long x1)] := hl
  have J104 : ∀ (S : St) (x3 : Int64), X_digestOfEvenings_J104 S x3 = some z → ∀ (ls : Array Slot) (H : Heap) (locs : List Loc), GH w s A S H locs → lv_has ls 6 [(3, .long x3)] → W p l e (rmm 5 115) s m args below meth c H locs 0 0 Q (F0 m 104 ls []) := by
    intro S x3 h ls H locs hG hl
    unfold X_digestOfEvenings_J104 at h
    refine lv_lload_n hx hb d_X_digestOfEvenings_104 rfl (lv_at hl 0 rfl) ?_
    exact g_lret C hG (sm_fst h) (sm_snd h) hQ d_X_digestOfEvenings_105
  refine lv_lload_n hx hb d_X_digestOfEvenings_0 rfl (lv_at hl 1 rfl) ?_
  refine lv_lstore_n (lv' := [(3, .long x1), (0, .ref (gad w 0)), (1, .long x1)]) hx hb d_X_digestOfEvenings_1 rfl hl (by decide) rfl (fun ls hl => ?_)
  refine lv_iconst (v := 0) hx hb d_X_digestOfEvenings_2 (by decide) ?_
  refine lv_istore (lv' := [(5, .int 0), (3, .long x1), (0, .ref (gad w 0)), (1, .long x1)]) hx hb d_X_digestOfEvenings_3 hl (by decide) rfl (fun ls hl => ?_)
  obtain ⟨z7, hz7, h⟩ := bnd_some h
  refine L_X_digestOfEvenings_5 C FZ _ _ _ _ hz7 ?_ ls _ _ hG (lv_sub hl [2, 1, 0] rfl)
  intro y3 y5 Sy e9 ls H locs hG hl
  subst e9
  exact J104 _ _ h ls _ _ hG (lv_sub hl [0] rfl)
