variable {p : Program} {l : Launch} {e : Env} {s : State} {m : MethodId} {args : Array Value} {below : List Frame} {meth : Method} {c : Code} {A : Nat → Prop} {Q : State → Prop} {w : gw} {S : St}
theorem d_M_in_0 : decode b_M_in 0 = .ok (.lload_n 0, 1) := by decide +kernel
theorem d_M_in_1 : decode b_M_in 1 = .ok (.lload_n 2, 1) := by decide +kernel
theorem d_M_in_2 : decode b_M_in 2 = .ok (.lcmp, 1) := by decide +kernel
theorem d_M_in_3 : decode b_M_in 3 = .ok (.ifCond .lt 14, 3) := by decide +kernel
theorem d_M_in_6 : decode b_M_in 6 = .ok (.lload_n 0, 1) := by decide +kernel
theorem d_M_in_7 : decode b_M_in 7 = .ok (.lload 4, 2) := by decide +kernel
theorem d_M_in_9 : decode b_M_in 9 = .ok (.lcmp, 1) := by decide +kernel
theorem d_M_in_10 : decode b_M_in 10 = .ok (.ifCond .gt 7, 3) := by decide +kernel
theorem d_M_in_13 : decode b_M_in 13 = .ok (.iconst 1, 1) := by decide +kernel
theorem d_M_in_14 : decode b_M_in 14 = .ok (.goto 4, 3) := by decide +kernel
theorem d_M_in_17 : decode b_M_in 17 = .ok (.iconst 0, 1) := by decide +kernel
theorem d_M_in_18 : decode b_M_in 18 = .ok (.ireturn, 1) := by decide +kernel
noncomputable def M_in (x0 : Int64) (x2 : Int64) (x4 : Int64) : Int32 :=
  if (lg_cmp x0 x2) < 0 then
      0
    else
      if 0 < (lg_cmp x0 x4) then
        0
      else
        1
set_option maxHeartbeats 4000000 in
set_option maxRecDepth 100000 in
theorem c_M_in (l : Launch) (w : gw) (S : St) (x0 : Int64) (x2 : Int64) (x4 : Int64)   : gMi l w y_M_in b_M_in 6 (some .boolean) (rmm 0 0) [.long x0, .long x2, .long x4] S (M_in x0 x2 x4) S := by
  generalize h : M_in x0 x2 x4 = z
  unfold M_in at h
  refine g_met (Qc := gQi w z S) (by decide +kernel) (Nat.le_of_ble_eq_true rfl) ?_
  intro p e s m args below meth c A Q ls hQ C hG hl
  have hx := C.1
  have hb := C.2.1
  have hl : lv_has ls 6 [(0, .long x0), (2, .long x2), (4, .long x4)] := hl
  refine lv_lload_n hx hb d_M_in_0 rfl (lv_at hl 0 rfl) ?_
  refine lv_lload_n hx hb d_M_in_1 rfl (lv_at hl 1 rfl) ?_
  refine W.lcmp hx hb d_M_in_2 ?_
  refine lv_if_lt (tgt := 17) hx hb d_M_in_3 (by decide) (fun hc => ?_) (fun hc => ?_)
  · replace h := it_t h hc
    refine lv_iconst (v := 0) hx hb d_M_in_17 (by decide) ?_
    exact g_zret C hG (Or.inl rfl) h rfl hQ d_M_in_18
  · replace h := it_f h hc
    refine lv_lload_n hx hb d_M_in_6 rfl (lv_at hl 0 rfl) ?_
    refine lv_lload hx hb d_M_in_7 (lv_at hl 2 rfl) ?_
    refine W.lcmp hx hb d_M_in_9 ?_
    refine lv_if_gt (tgt := 17) hx hb d_M_in_10 (by decide) (fun hc => ?_) (fun hc => ?_)
    · replace h := it_t h hc
      refine lv_iconst (v := 0) hx hb d_M_in_17 (by decide) ?_
      exact g_zret C hG (Or.inl rfl) h rfl hQ d_M_in_18
    · replace h := it_f h hc
      refine lv_iconst (v := 1) hx hb d_M_in_13 (by decide) ?_
      refine lv_goto (tgt := 18) hx hb d_M_in_14 (by decide) ?_
      exact g_zret C hG (Or.inr rfl) h rfl hQ d_M_in_18
theorem bz_M_in (x0 : Int64) (x2 : Int64) (x4 : Int64) : M_in x0 x2 x4 = 0 ∨ M_in x0 x2 x4 = 1 := by
  unfold M_in
  repeat' split
  all_goals first | exact Or.inl rfl | exact Or.inr rfl
theorem d_M_no_0 : decode b_M_no 0 = .ok (.ldc2_w 80, 3) := by decide +kernel
theorem d_M_no_3 : decode b_M_no 3 = .ok (.iload_n 0, 1) := by decide +kernel
theorem d_M_no_4 : decode b_M_no 4 = .ok (.i2l, 1) := by decide +kernel
theorem d_M_no_5 : decode b_M_no 5 = .ok (.lsub, 1) := by decide +kernel
theorem d_M_no_6 : decode b_M_no 6 = .ok (.lreturn, 1) := by decide +kernel
noncomputable def M_no (x0 : Int32) : Int64 :=
  (-9223372036854775808) - x0.toInt64
set_option maxHeartbeats 4000000 in
set_option maxRecDepth 100000 in
theorem c_M_no (l : Launch) (w : gw) (S : St) (x0 : Int32)   : gMl l w y_M_no b_M_no 1 (some .long) (rmm 0 0) [.int x0] S (M_no x0) S := by
  generalize h : M_no x0 = z
  unfold M_no at h
  refine g_met (Qc := gQl w z S) (by decide +kernel) (Nat.le_of_ble_eq_true rfl) ?_
  intro p e s m args below meth c A Q ls hQ C hG hl
  have hx := C.1
  have hb := C.2.1
  have hl : lv_has ls 1 [(0, .int x0)] := hl
  refine lv_ldc2 (v := (-9223372036854775808)) hx hb C.2.2.2.1 (C.2.2.2.2.1 _ qw1043) d_M_no_0 ?_
  refine lv_iload_n hx hb d_M_no_3 rfl (lv_at hl 0 rfl) ?_
  refine lv_i2l (v := x0.toInt64) hx hb d_M_no_4 rfl ?_
  refine lv_lsub hx hb d_M_no_5 ?_
  exact g_lret C hG h rfl hQ d_M_no_6
theorem d_M_isTwo_0 : decode b_M_isTwo 0 = .ok (.iload_n 0, 1) := by decide +kernel
theorem d_M_isTwo_1 : decode b_M_isTwo 1 = .ok (.i2l, 1) := by decide +kernel
theorem d_M_isTwo_2 : decode b_M_isTwo 2 = .ok (.lconst 0, 1) := by decide +kernel
theorem d_M_isTwo_3 : decode b_M_isTwo 3 = .ok (.lconst 1, 1) := by decide +kernel
theorem d_M_isTwo_4 : decode b_M_isTwo 4 = .ok (.invokestatic 82, 3) := by decide +kernel
theorem d_M_isTwo_7 : decode b_M_isTwo 7 = .ok (.ireturn, 1) := by decide +kernel
noncomputable def M_isTwo (x0 : Int32) : Int32 :=
  M_in x0.toInt64 0 1
set_option maxHeartbeats 4000000 in
set_option maxRecDepth 100000 in
theorem c_M_isTwo (l : Launch) (w : gw) (S : St) (x0 : Int32)   : gMi l w y_M_isTwo b_M_isTwo 1 (some .boolean) (rmm 1 25) [.int x0] S (M_isTwo x0) S := by
  generalize h : M_isTwo x0 = z
  unfold M_isTwo at h
  refine g_met (Qc := gQi w z S) (by decide +kernel) (Nat.le_of_ble_eq_true rfl) ?_
  intro p e s m args below meth c A Q ls hQ C hG hl
  have hx := C.1
  have hb := C.2.1
  have hl : lv_has ls 1 [(0, .int x0)] := hl
  refine lv_iload_n hx hb d_M_isTwo_0 rfl (lv_at hl 0 rfl) ?_
  refine lv_i2l (v := x0.toInt64) hx hb d_M_isTwo_1 rfl ?_
  refine lv_lconst (v := 0) hx hb d_M_isTwo_2 (by decide) ?_
  refine lv_lconst (v := 1) hx hb d_M_isTwo_3 (by decide) ?_
  refine g_goi hG (g_runS (As := [.long x0.toInt64, .long 0, .long 1]) (rest := []) C hG (c_M_in l w S x0.toInt64 0 1 _) sw_M_82 rfl rfl ⟨by decide, by decide⟩ rfl hl.1 rfl (Nat.le_of_ble_eq_true rfl) d_M_isTwo_4 ⟨Nat.zero_le _, Nat.zero_le _⟩) (fun H locs hG => ?_)
  exact g_zret C hG (bz_M_in x0.toInt64 0 1) h rfl hQ d_M_isTwo_7
theorem bz_M_isTwo (x0 : Int32) : M_isTwo x0 = 0 ∨ M_isTwo x0 = 1 := by
  unfold M_isTwo
  repeat' split
  all_goals first | exact Or.inl rfl | exact Or.inr rfl | exact bz_M_in _ _ _ | exact bz_M_in _
theorem d_M_isIn_0 : decode b_M_isIn 0 = .ok (.iload_n 0, 1) := by decide +kernel
theorem d_M_isIn_1 : decode b_M_isIn 1 = .ok (.iload_n 1, 1) := by decide +kernel
theorem d_M_isIn_2 : decode b_M_isIn 2 = .ok (.ishr, 1) := by decide +kernel
theorem d_M_isIn_3 : decode b_M_isIn 3 = .ok (.iconst 1, 1) := by decide +kernel
theorem d_M_isIn_4 : decode b_M_isIn 4 = .ok (.iand, 1) := by decide +kernel
theorem d_M_isIn_5 : decode b_M_isIn 5 = .ok (.iconst 1, 1) := by decide +kernel
theorem d_M_isIn_6 : decode b_M_isIn 6 = .ok (.if_icmp .ne 7, 3) := by decide +kernel
theorem d_M_isIn_9 : decode b_M_isIn 9 = .ok (.iconst 1, 1) := by decide +kernel
theorem d_M_isIn_10 : decode b_M_isIn 10 = .ok (.goto 4, 3) := by decide +kernel
theorem d_M_isIn_13 : decode b_M_isIn 13 = .ok (.iconst 0, 1) := by decide +kernel
theorem d_M_isIn_14 : decode b_M_isIn 14 = .ok (.ireturn, 1) := by decide +kernel
noncomputable def M_isIn (x0 : Int32) (x1 : Int32) : Int32 :=
  if ((x0 >>> (x1 &&& 31)) &&& 1) = 1 then
      1
    else
      0
set_option maxHeartbeats 4000000 in
set_option maxRecDepth 100000 in
theorem c_M_isIn (l : Launch) (w : gw) (S : St) (x0 : Int32) (x1 : Int32)   : gMi l w y_M_isIn b_M_isIn 2 (some .boolean) (rmm 0 0) [.int x0, .int x1] S (M_isIn x0 x1) S := by
  generalize h : M_isIn x0 x1 = z
  unfold M_isIn at h
  refine g_met (Qc := gQi w z S) (by decide +kernel) (Nat.le_of_ble_eq_true rfl) ?_
  intro p e s m args below meth c A Q ls hQ C hG hl
  have hx := C.1
  have hb := C.2.1
  have hl : lv_has ls 2 [(0, .int x0), (1, .int x1)] := hl
  refine lv_iload_n hx hb d_M_isIn_0 rfl (lv_at hl 0 rfl) ?_
  refine lv_iload_n hx hb d_M_isIn_1 rfl (lv_at hl 1 rfl) ?_
  refine lv_ishr hx hb d_M_isIn_2 ?_
  refine lv_iconst (v := 1) hx hb d_M_isIn_3 (by decide) ?_
  refine lv_iand hx hb d_M_isIn_4 ?_
  refine lv_iconst (v := 1) hx hb d_M_isIn_5 (by decide) ?_
  refine lv_icmp_ne (tgt := 13) hx hb d_M_isIn_6 (by decide) (fun hc => ?_) (fun hc => ?_)
  · replace h := it_f h hc
    refine lv_iconst (v := 0) hx hb d_M_isIn_13 (by decide) ?_
    exact g_zret C hG (Or.inl rfl) h rfl hQ d_M_isIn_14
  · replace h := it_t h hc
    refine lv_iconst (v := 1) hx hb d_M_isIn_9 (by decide) ?_
    refine lv_goto (tgt := 14) hx hb d_M_isIn_10 (by decide) ?_
    exact g_zret C hG (Or.inr rfl) h rfl hQ d_M_isIn_14
theorem bz_M_isIn (x0 : Int32) (x1 : Int32) : M_isIn x0 x1 = 0 ∨ M_isIn x0 x1 = 1 := by
  unfold M_isIn
  repeat' split
  all_goals first | exact Or.inl rfl | exact Or.inr rfl
theorem d_M_ones_0 : decode b_M_ones 0 = .ok (.iconst 0, 1) := by decide +kernel
theorem d_M_ones_1 : decode b_M_ones 1 = .ok (.istore_n 1, 1) := by decide +kernel
theorem d_M_ones_2 : decode b_M_ones 2 = .ok (.iload_n 0, 1) := by decide +kernel
theorem d_M_ones_3 : decode b_M_ones 3 = .ok (.istore_n 2, 1) := by decide +kernel
theorem d_M_ones_4 : decode b_M_ones 4 = .ok (.iload_n 2, 1) := by decide +kernel
theorem d_M_ones_5 : decode b_M_ones 5 = .ok (.ifCond .eq 15, 3) := by decide +kernel
theorem d_M_ones_8 : decode b_M_ones 8 = .ok (.iinc 1 1, 3) := by decide +kernel
theorem d_M_ones_11 : decode b_M_ones 11 = .ok (.iload_n 2, 1) := by decide +kernel
theorem d_M_ones_12 : decode b_M_ones 12 = .ok (.iload_n 2, 1) := by decide +kernel
theorem d_M_ones_13 : decode b_M_ones 13 = .ok (.iconst 1, 1) := by decide +kernel
theorem d_M_ones_14 : decode b_M_ones 14 = .ok (.isub, 1) := by decide +kernel
theorem d_M_ones_15 : decode b_M_ones 15 = .ok (.iand, 1) := by decide +kernel
theorem d_M_ones_16 : decode b_M_ones 16 = .ok (.istore_n 2, 1) := by decide +kernel
theorem d_M_ones_17 : decode b_M_ones 17 = .ok (.goto (-13), 3) := by decide +kernel
theorem d_M_ones_20 : decode b_M_ones 20 = .ok (.iload_n 1, 1) := by decide +kernel
theorem d_M_ones_21 : decode b_M_ones 21 = .ok (.ireturn, 1) := by decide +kernel
noncomputable def M_ones_L4 (x1 : Int32) (x2 : Int32) : Option ((Int32 × Int32) × Nat) :=
  if x2 = 0 then
      some ((x1, x2), 1)
    else
      some ((x1 + 1, x2 &&& (x2 - 1)), 0)
noncomputable def M_ones_J20 (x1 : Int32) : Option (Int32) :=
  some x1
noncomputable def M_ones (x0 : Int32) : Option (Int32) :=
  bnd (lp (σ := Int32 × Int32) (fun q => M_ones_L4 q.1 q.2) FZ (0, x0)) fun z1 =>
    M_ones_J20 z1.1.1
set_option maxHeartbeats 4000000 in
set_option maxRecDepth 100000 in
theorem L_M_ones_4 (C : gCx p s m args meth c y_M_ones.cls b_M_ones 3 (some .int)) : ∀ (n : Nat) (x1 : Int32) (x2 : Int32) (r : (Int32 × Int32) × Nat), lp (σ := Int32 × Int32) (fun q => M_ones_L4 q.1 q.2) n (x1, x2) = some r → (∀ (y1 : Int32) (y2 : Int32), r = ((y1, y2), 1) → ∀ (ls : Array Slot) (H : Heap) (locs : List Loc), GH w s A S H locs → lv_has ls 3 [(1, .int y1)] → W p l e (rmm 0 0) s m args below meth c H locs 0 0 Q (F0 m 20 ls [])) → ∀ (ls : Array Slot) (H : Heap) (locs : List Loc), GH w s A S H locs → lv_has ls 3 [(1, .int x1), (2, .int x2)] → W p l e (rmm 0 0) s m args below meth c H locs 0 0 Q (F0 m 4 ls []) := by
  have hx := C.1
  have hb := C.2.1
  intro n
  induction n with
  | zero => intro x1 x2 r h; cases h
  | succ n ih =>
    intro x1 x2 r h k1 ls H locs hG hl
    obtain ⟨z, h, hr⟩ := lp_succ h
    have h : M_ones_L4 x1 x2 = some z := h
    unfold M_ones_L4 at h
    refine lv_iload_n hx hb d_M_ones_4 rfl (lv_at hl 1 rfl) ?_
    refine lv_if_eq (tgt := 20) hx hb d_M_ones_5 (by decide) (fun hc => ?_) (fun hc => ?_)
    · replace h := it_t h hc
      exact k1 _ _ (lp_exit h hr) ls _ _ hG (lv_sub hl [0] rfl)
    · replace h := it_f h hc
      refine lv_iinc (v := x1 + 1) (lv' := [(1, .int (x1 + 1)), (2, .int x2)]) hx hb d_M_ones_8 hl (k := 0) rfl (congrArg (HAdd.hAdd x1) (by decide : Int32.ofInt 1 = 1)) (by decide) rfl (fun ls hl => ?_)
      refine lv_iload_n hx hb d_M_ones_11 rfl (lv_at hl 1 rfl) ?_
      refine lv_iload_n hx hb d_M_ones_12 rfl (lv_at hl 1 rfl) ?_
      refine lv_iconst (v := 1) hx hb d_M_ones_13 (by decide) ?_
      refine lv_isub hx hb d_M_ones_14 ?_
      refine lv_iand hx hb d_M_ones_15 ?_
      refine lv_istore_n (lv' := [(2, .int (x2 &&& (x2 - 1))), (1, .int (x1 + 1))]) hx hb d_M_ones_16 rfl hl (by decide) rfl (fun ls hl => ?_)
      refine lv_goto (tgt := 4) hx hb d_M_ones_17 (by decide) ?_
      exact ih _ _ _ (lp_back h hr) k1 ls _ _ hG (lv_sub hl [1, 0] rfl)
set_option maxHeartbeats 4000000 in
set_option maxRecDepth 100000 in
theorem c_M_ones (l : Launch) (w : gw) (S : St) (x0 : Int32)  {z : Int32} (h : (M_ones x0) = some z) : gMi l w y_M_ones b_M_ones 3 (some .int) (rmm 0 0) [.int x0] S z S := by
  unfold M_ones at h
  refine g_met (Qc := gQi w z S) (by decide +kernel) (Nat.le_of_ble_eq_true rfl) ?_
  intro p e s m args below meth c A Q ls hQ C hG hl
  have hx := C.1
  have hb := C.2.1
  have hl : lv_has ls 3 [(0, .int x0)] := hl
  have J20 : ∀ (x1 : Int32), M_ones_J20 x1 = some z → ∀ (ls : Array Slot) (H : Heap) (locs : List Loc), GH w s A S H locs → lv_has ls 3 [(1, .int x1)] → W p l e (rmm 0 0) s m args below meth c H locs 0 0 Q (F0 m 20 ls []) := by
    intro x1 h ls H locs hG hl
    unfold M_ones_J20 at h
    refine lv_iload_n hx hb d_M_ones_20 rfl (lv_at hl 0 rfl) ?_
    exact g_iret C hG (Option.some.inj h) rfl hQ d_M_ones_21
  refine lv_iconst (v := 0) hx hb d_M_ones_0 (by decide) ?_
  refine lv_istore_n (lv' := [(1, .int 0), (0, .int x0)]) hx hb d_M_ones_1 rfl hl (by decide) rfl (fun ls hl => ?_)
  refine lv_iload_n hx hb d_M_ones_2 rfl (lv_at hl 1 rfl) ?_
  refine lv_istore_n (lv' := [(2, .int x0), (1, .int 0), (0, .int x0)]) hx hb d_M_ones_3 rfl hl (by decide) rfl (fun ls hl => ?_)
  obtain ⟨z1, hz1, h⟩ := bnd_some h
  refine L_M_ones_4 C FZ _ _ _ hz1 ?_ ls _ _ hG (lv_sub hl [1, 0] rfl)
  intro y1 y2 e9 ls H locs hG hl
  subst e9
  exact J20 _ h ls _ _ hG (lv_sub hl [0] rfl)
theorem d_M_met_0 : decode b_M_met 0 = .ok (.aload_n 0, 1) := by decide +kernel
theorem d_M_met_1 : decode b_M_met 1 = .ok (.iload_n 1, 1) := by decide +kernel
theorem d_M_met_2 : decode b_M_met 2 = .ok (.putfield 86, 3) := by decide +kernel
theorem d_M_met_5 : decode b_M_met 5 = .ok (.bipush (-10), 2) := by decide +kernel
theorem d_M_met_7 : decode b_M_met 7 = .ok (.iload_n 1, 1) := by decide +kernel
theorem d_M_met_8 : decode b_M_met 8 = .ok (.isub, 1) := by decide +kernel
theorem d_M_met_9 : decode b_M_met 9 = .ok (.ireturn, 1) := by decide +kernel
noncomputable def M_met (S : St) (x1 : Int32) : Option (Int32 × St) :=
  some ((-10) - x1, up S 49 4 x1)
set_option maxHeartbeats 4000000 in
set_option maxRecDepth 100000 in
theorem c_M_met (l : Launch) (w : gw) (S : St) (x1 : Int32)  {z : Int32 × St} (h : (M_met S x1) = some z) : gMi l w y_M_met b_M_met 2 (some .int) (rmm 0 0) [.ref (gad w 49), .int x1] S z.1 z.2 := by
  unfold M_met at h
  refine g_met (Qc := gQi w z.1 z.2) (by decide +kernel) (Nat.le_of_ble_eq_true rfl) ?_
  intro p e s m args below meth c A Q ls hQ C hG hl
  have hx := C.1
  have hb := C.2.1
  have hl : lv_has ls 2 [(0, .ref (gad w 49)), (1, .int x1)] := hl
  refine lv_aload_n hx hb d_M_met_0 rfl (lv_at hl 0 rfl) ?_
  refine lv_iload_n hx hb d_M_met_1 rfl (lv_at hl 1 rfl) ?_
  refine g_put (x := x1) C hG (hG.lt (Nat.le_of_ble_eq_true rfl)) (ce49 w _) rfl inC8 okC8 nmC8 4 (Nat.le_of_ble_eq_true rfl) qw680 rfl rfl rfl (Nat.le_of_ble_eq_true rfl) rfl d_M_met_2 (fun H locs hG => ?_)
  refine lv_bipush (v := (-10)) hx hb d_M_met_5 (by decide) ?_
  refine lv_iload_n hx hb d_M_met_7 rfl (lv_at hl 1 rfl) ?_
  refine lv_isub hx hb d_M_met_8 ?_
  exact g_iret C hG (sm_fst h) (sm_snd h) hQ d_M_met_9
theorem d_M_isSheet_0 : decode b_M_isSheet 0 = .ok (.iload_n 0, 1) := by decide +kernel
theorem d_M_isSheet_1 : decode b_M_isSheet 1 = .ok (.i2l, 1) := by decide +kernel
theorem d_M_isSheet_2 : decode b_M_isSheet 2 = .ok (.lconst 0, 1) := by decide +kernel
theorem d_M_isSheet_3 : decode b_M_isSheet 3 = .ok (.ldc2_w 90, 3) := by decide +kernel
theorem d_M_isSheet_6 : decode b_M_isSheet 6 = .ok (.invokestatic 82, 3) := by decide +kernel
theorem d_M_isSheet_9 : decode b_M_isSheet 9 = .ok (.ireturn, 1) := by decide +kernel
noncomputable def M_isSheet (x0 : Int32) : Int32 :=
  M_in x0.toInt64 0 3
set_option maxHeartbeats 4000000 in
set_option maxRecDepth 100000 in
theorem c_M_isSheet (l : Launch) (w : gw) (S : St) (x0 : Int32)   : gMi l w y_M_isSheet b_M_isSheet 1 (some .boolean) (rmm 1 25) [.int x0] S (M_isSheet x0) S := by
  generalize h : M_isSheet x0 = z
  unfold M_isSheet at h
  refine g_met (Qc := gQi w z S) (by decide +kernel) (Nat.le_of_ble_eq_true rfl) ?_
  intro p e s m args below meth c A Q ls hQ C hG hl
  have hx := C.1
  have hb := C.2.1
  have hl : lv_has ls 1 [(0, .int x0)] := hl
  refine lv_iload_n hx hb d_M_isSheet_0 rfl (lv_at hl 0 rfl) ?_
  refine lv_i2l (v := x0.toInt64) hx hb d_M_isSheet_1 rfl ?_
  refine lv_lconst (v := 0) hx hb d_M_isSheet_2 (by decide) ?_
  refine lv_ldc2 (v := 3) hx hb C.2.2.2.1 (C.2.2.2.2.1 _ qw771) d_M_isSheet_3 ?_
  refine g_goi hG (g_runS (As := [.long x0.toInt64, .long 0, .long 3]) (rest := []) C hG (c_M_in l w S x0.toInt64 0 3 _) sw_M_82 rfl rfl ⟨by decide, by decide⟩ rfl hl.1 rfl (Nat.le_of_ble_eq_true rfl) d_M_isSheet_6 ⟨Nat.zero_le _, Nat.zero_le _⟩) (fun H locs hG => ?_)
  exact g_zret C hG (bz_M_in x0.toInt64 0 3) h rfl hQ d_M_isSheet_9
theorem bz_M_isSheet (x0 : Int32) : M_isSheet x0 = 0 ∨ M_isSheet x0 = 1 := by
  unfold M_isSheet
  repeat' split
  all_goals first | exact Or.inl rfl | exact Or.inr rfl | exact bz_M_in _ _ _ | exact bz_M_in _
theorem d_M_sheet_0 : decode b_M_sheet 0 = .ok (.iload_n 1, 1) := by decide +kernel
theorem d_M_sheet_1 : decode b_M_sheet 1 = .ok (.invokestatic 92, 3) := by decide +kernel
theorem d_M_sheet_4 : decode b_M_sheet 4 = .ok (.ifCond .eq 21, 3) := by decide +kernel
theorem d_M_sheet_7 : decode b_M_sheet 7 = .ok (.iload_n 2, 1) := by decide +kernel
theorem d_M_sheet_8 : decode b_M_sheet 8 = .ok (.i2l, 1) := by decide +kernel
theorem d_M_sheet_9 : decode b_M_sheet 9 = .ok (.lconst 0, 1) := by decide +kernel
theorem d_M_sheet_10 : decode b_M_sheet 10 = .ok (.ldc2_w 96, 3) := by decide +kernel
theorem d_M_sheet_13 : decode b_M_sheet 13 = .ok (.invokestatic 82, 3) := by decide +kernel
theorem d_M_sheet_16 : decode b_M_sheet 16 = .ok (.ifCond .eq 9, 3) := by decide +kernel
theorem d_M_sheet_19 : decode b_M_sheet 19 = .ok (.iload_n 3, 1) := by decide +kernel
theorem d_M_sheet_20 : decode b_M_sheet 20 = .ok (.bipush 60, 2) := by decide +kernel
theorem d_M_sheet_22 : decode b_M_sheet 22 = .ok (.if_icmp .le 6, 3) := by decide +kernel
theorem d_M_sheet_25 : decode b_M_sheet 25 = .ok (.bipush (-2), 2) := by decide +kernel
theorem d_M_sheet_27 : decode b_M_sheet 27 = .ok (.ireturn, 1) := by decide +kernel
theorem d_M_sheet_28 : decode b_M_sheet 28 = .ok (.iload_n 3, 1) := by decide +kernel
theorem d_M_sheet_29 : decode b_M_sheet 29 = .ok (.ifCond .ge 9, 3) := by decide +kernel
theorem d_M_sheet_32 : decode b_M_sheet 32 = .ok (.aload_n 0, 1) := by decide +kernel
theorem d_M_sheet_33 : decode b_M_sheet 33 = .ok (.iconst 5, 1) := by decide +kernel
theorem d_M_sheet_34 : decode b_M_sheet 34 = .ok (.invokevirtual 98, 3) := by decide +kernel
theorem d_M_sheet_37 : decode b_M_sheet 37 = .ok (.ireturn, 1) := by decide +kernel
theorem d_M_sheet_38 : decode b_M_sheet 38 = .ok (.aload_n 0, 1) := by decide +kernel
theorem d_M_sheet_39 : decode b_M_sheet 39 = .ok (.getfield 7, 3) := by decide +kernel
theorem d_M_sheet_42 : decode b_M_sheet 42 = .ok (.iload_n 1, 1) := by decide +kernel
theorem d_M_sheet_43 : decode b_M_sheet 43 = .ok (.iload_n 2, 1) := by decide +kernel
theorem d_M_sheet_44 : decode b_M_sheet 44 = .ok (.iastore, 1) := by decide +kernel
theorem d_M_sheet_45 : decode b_M_sheet 45 = .ok (.aload_n 0, 1) := by decide +kernel
theorem d_M_sheet_46 : decode b_M_sheet 46 = .ok (.getfield 13, 3) := by decide +kernel
theorem d_M_sheet_49 : decode b_M_sheet 49 = .ok (.iload_n 1, 1) := by decide +kernel
theorem d_M_sheet_50 : decode b_M_sheet 50 = .ok (.iload_n 3, 1) := by decide +kernel
theorem d_M_sheet_51 : decode b_M_sheet 51 = .ok (.iastore, 1) := by decide +kernel
theorem d_M_sheet_52 : decode b_M_sheet 52 = .ok (.iconst 0, 1) := by decide +kernel
theorem d_M_sheet_53 : decode b_M_sheet 53 = .ok (.istore 4, 2) := by decide +kernel
theorem d_M_sheet_55 : decode b_M_sheet 55 = .ok (.iload 4, 2) := by decide +kernel
theorem d_M_sheet_57 : decode b_M_sheet 57 = .ok (.iload_n 3, 1) := by decide +kernel
theorem d_M_sheet_58 : decode b_M_sheet 58 = .ok (.if_icmp .ge 22, 3) := by decide +kernel
theorem d_M_sheet_61 : decode b_M_sheet 61 = .ok (.aload_n 0, 1) := by decide +kernel
theorem d_M_sheet_62 : decode b_M_sheet 62 = .ok (.getfield 16, 3) := by decide +kernel
theorem d_M_sheet_65 : decode b_M_sheet 65 = .ok (.bipush 60, 2) := by decide +kernel
theorem d_M_sheet_67 : decode b_M_sheet 67 = .ok (.iload_n 1, 1) := by decide +kernel
theorem d_M_sheet_68 : decode b_M_sheet 68 = .ok (.imul, 1) := by decide +kernel
theorem d_M_sheet_69 : decode b_M_sheet 69 = .ok (.iload 4, 2) := by decide +kernel
theorem d_M_sheet_71 : decode b_M_sheet 71 = .ok (.iadd, 1) := by decide +kernel
theorem d_M_sheet_72 : decode b_M_sheet 72 = .ok (.iconst 0, 1) := by decide +kernel
theorem d_M_sheet_73 : decode b_M_sheet 73 = .ok (.iastore, 1) := by decide +kernel
theorem d_M_sheet_74 : decode b_M_sheet 74 = .ok (.iinc 4 1, 3) := by decide +kernel
theorem d_M_sheet_77 : decode b_M_sheet 77 = .ok (.goto (-22), 3) := by decide +kernel
theorem d_M_sheet_80 : decode b_M_sheet 80 = .ok (.iload_n 3, 1) := by decide +kernel
theorem d_M_sheet_81 : decode b_M_sheet 81 = .ok (.ireturn, 1) := by decide +kernel
noncomputable def M_sheet_L55 (S : St) (x1 : Int32) (x3 : Int32) (x4 : Int32) : Option ((Int32 × St) × Nat) :=
  if x3 ≤ x4 then
      some ((x4, S), 1)
    else
      chk (inb ((60 * x1) + x4) 240) <|
      some ((x4 + 1, up S 52 (ix ((60 * x1) + x4)) 0), 0)
noncomputable def M_sheet_J80 (S : St) (x3 : Int32) : Option (Int32 × St) :=
  some (x3, S)
noncomputable def M_sheet (S : St) (x1 : Int32) (x2 : Int32) (x3 : Int32) : Option (Int32 × St) :=
  if (M_isSheet x1) = 0 then
      some ((-2), S)
    else
      if (M_in x2.toInt64 0 2) = 0 then
        some ((-2), S)
      else
        if x3 ≤ 60 then
          if 0 ≤ x3 then
            chk (inb x1 4) <|
            chk (inb x1 4) <|
            bnd (lp (σ := Int32 × St) (fun q => M_sheet_L55 q.2 x1 x3 q.1) FZ (0, up (up S 50 (ix x1) x2) 51 (ix x1) x3)) fun z1 =>
            M_sheet_J80 z1.1.2 x3
          else
            bnd (M_met S 5) fun z2 =>
            some (z2.1, z2.2)
        else
          some ((-2), S)
set_option maxHeartbeats 4000000 in
set_option maxRecDepth 100000 in
theorem L_M_sheet_55 (C : gCx p s m args meth c y_M_sheet.cls b_M_sheet 5 (some .int)) : ∀ (x1 : Int32) (x3 : Int32) (n : Nat) (x4 : Int32) (S : St) (r : (Int32 × St) × Nat), lp (σ := Int32 × St) (fun q => M_sheet_L55 q.2 x1 x3 q.1) n (x4, S) = some r → (∀ (y4 : Int32) (Sy : St), r = ((y4, Sy), 1) → ∀ (ls : Array Slot) (H : Heap) (locs : List Loc), GH w s A Sy H locs → lv_has ls 5 [(3, .int x3)] → W p l e (rmm 2 45) s m args below meth c H locs 0 0 Q (F0 m 80 ls [])) → ∀ (ls : Array Slot) (H : Heap) (locs : List Loc), GH w s A S H locs → lv_has ls 5 [(0, .ref (gad w 49)), (1, .int x1), (3, .int x3), (4, .int x4)] → W p l e (rmm 2 45) s m args below meth c H locs 0 0 Q (F0 m 55 ls []) := by
  have hx := C.1
  have hb := C.2.1
  intro x1 x3 n
  induction n with
  | zero => intro x4 S r h; cases h
  | succ n ih =>
    intro x4 S r h k1 ls H locs hG hl
    obtain ⟨z, h, hr⟩ := lp_succ h
    have h : M_sheet_L55 S x1 x3 x4 = some z := h
    unfold M_sheet_L55 at h
    refine lv_iload hx hb d_M_sheet_55 (lv_at hl 3 rfl) ?_
    refine lv_iload_n hx hb d_M_sheet_57 rfl (lv_at hl 2 rfl) ?_
    refine lv_icmp_ge (tgt := 80) hx hb d_M_sheet_58 (by decide) (fun hc => ?_) (fun hc => ?_)
    · replace h := it_t h hc
      exact k1 _ _ (lp_exit h hr) ls _ _ hG (lv_sub hl [2] rfl)
    · replace h := it_f h hc
      refine lv_aload_n hx hb d_M_sheet_61 rfl (lv_at hl 0 rfl) ?_
      refine g_get C hG (hG.lt (Nat.le_of_ble_eq_true rfl)) (ce49 w _) rfl inC8 2 (Nat.le_of_ble_eq_true rfl) qw678 rfl d_M_sheet_62 ?_
      refine lv_bipush (v := 60) hx hb d_M_sheet_65 (by decide) ?_
      refine lv_iload_n hx hb d_M_sheet_67 rfl (lv_at hl 1 rfl) ?_
      refine lv_imul hx hb d_M_sheet_68 ?_
      refine lv_iload hx hb d_M_sheet_69 (lv_at hl 3 rfl) ?_
      refine lv_iadd hx hb d_M_sheet_71 ?_
      refine lv_iconst (v := 0) hx hb d_M_sheet_72 (by decide) ?_
      obtain ⟨hi1, h⟩ := chk_some h
      refine g_iast (j := ix ((60 * x1) + x4)) (x := 0) C hG (hG.lt (Nat.le_of_ble_eq_true rfl)) (ce52 w) (inb_in hi1) rfl d_M_sheet_73 (fun H locs hG => ?_)
      refine lv_iinc (v := x4 + 1) (lv' := [(4, .int (x4 + 1)), (0, .ref (gad w 49)), (1, .int x1), (3, .int x3)]) hx hb d_M_sheet_74 hl (k := 3) rfl (congrArg (HAdd.hAdd x4) (by decide : Int32.ofInt 1 = 1)) (by decide) rfl (fun ls hl => ?_)
      refine lv_goto (tgt := 55) hx hb d_M_sheet_77 (by decide) ?_
      exact ih _ _ _ (lp_back h hr) k1 ls _ _ hG (lv_sub hl [1, 2, 3, 0] rfl)
set_option maxHeartbeats 4000000 in
set_option maxRecDepth 100000 in
theorem c_M_sheet (l : Launch) (w : gw) (S : St) (x1 : Int32) (x2 : Int32) (x3 : Int32)  {z : Int32 × St} (h : (M_sheet S x1 x2 x3) = some z) : gMi l w y_M_sheet b_M_sheet 5 (some .int) (rmm 2 45) [.ref (gad w 49), .int x1, .int x2, .int x3] S z.1 z.2 := by
  unfold M_sheet at h
  refine g_met (Qc := gQi w z.1 z.2) (by decide +kernel) (Nat.le_of_ble_eq_true rfl) ?_
  intro p e s m args below meth c A Q ls hQ C hG hl
  have hx := C.1
  have hb := C.2.1
  have hl : lv_has ls 5 [(0, .ref (gad w 49)), (1, .int x1), (2, .int x2), (3, .int x3)] := hl
  have J80 : ∀ (S : St), M_sheet_J80 S x3 = some z → ∀ (ls : Array Slot) (H : Heap) (locs : List Loc), GH w s A S H locs → lv_has ls 5 [(3, .int x3)] → W p l e (rmm 2 45) s m args below meth c H locs 0 0 Q (F0 m 80 ls []) := by
    intro S h ls H locs hG hl
    unfold M_sheet_J80 at h
    refine lv_iload_n hx hb d_M_sheet_80 rfl (lv_at hl 0 rfl) ?_
    exact g_iret C hG (sm_fst h) (sm_snd h) hQ d_M_sheet_81
  refine lv_iload_n hx hb d_M_sheet_0 rfl (lv_at hl 1 rfl) ?_
  refine g_goi hG (g_runS (As := [.int x1]) (rest := []) C hG (c_M_isSheet l w S x1 _) sw_M_92 rfl rfl ⟨by decide, by decide⟩ rfl hl.1 rfl (Nat.le_of_ble_eq_true rfl) d_M_sheet_1 ⟨Nat.zero_le _, Nat.zero_le _⟩) (fun H locs hG => ?_)
  refine lv_if_eq (tgt := 25) hx hb d_M_sheet_4 (by decide) (fun hc => ?_) (fun hc => ?_)
  · replace h := it_t h hc
    refine lv_bipush (v := (-2)) hx hb d_M_sheet_25 (by decide) ?_
    exact g_iret C hG (sm_fst h) (sm_snd h) hQ d_M_sheet_27
  · replace h := it_f h hc
    refine lv_iload_n hx hb d_M_sheet_7 rfl (lv_at hl 2 rfl) ?_
    refine lv_i2l (v := x2.toInt64) hx hb d_M_sheet_8 rfl ?_
    refine lv_lconst (v := 0) hx hb d_M_sheet_9 (by decide) ?_
    refine lv_ldc2 (v := 2) hx hb C.2.2.2.1 (C.2.2.2.2.1 _ qw775) d_M_sheet_10 ?_
    refine g_goi hG (g_runS (As := [.long x2.toInt64, .long 0, .long 2]) (rest := []) C hG (c_M_in l w S x2.toInt64 0 2 _) sw_M_82 rfl rfl ⟨by decide, by decide⟩ rfl hl.1 rfl (Nat.le_of_ble_eq_true rfl) d_M_sheet_13 ⟨Nat.zero_le _, Nat.zero_le _⟩) (fun H locs hG => ?_)
    refine lv_if_eq (tgt := 25) hx hb d_M_sheet_16 (by decide) (fun hc => ?_) (fun hc => ?_)
    · replace h := it_t h hc
      refine lv_bipush (v := (-2)) hx hb d_M_sheet_25 (by decide) ?_
      exact g_iret C hG (sm_fst h) (sm_snd h) hQ d_M_sheet_27
    · replace h := it_f h hc
      refine lv_iload_n hx hb d_M_sheet_19 rfl (lv_at hl 3 rfl) ?_
      refine lv_bipush (v := 60) hx hb d_M_sheet_20 (by decide) ?_
      refine lv_icmp_le (tgt := 28) hx hb d_M_sheet_22 (by decide) (fun hc => ?_) (fun hc => ?_)
      · replace h := it_t h hc
        refine lv_iload_n hx hb d_M_sheet_28 rfl (lv_at hl 3 rfl) ?_
        refine lv_if_ge (tgt := 38) hx hb d_M_sheet_29 (by decide) (fun hc => ?_) (fun hc => ?_)
        · replace h := it_t h hc
          refine lv_aload_n hx hb d_M_sheet_38 rfl (lv_at hl 0 rfl) ?_
          refine g_get C hG (hG.lt (Nat.le_of_ble_eq_true rfl)) (ce49 w _) rfl inC8 0 (Nat.le_of_ble_eq_true rfl) qw676 rfl d_M_sheet_39 ?_
          refine lv_iload_n hx hb d_M_sheet_42 rfl (lv_at hl 1 rfl) ?_
          refine lv_iload_n hx hb d_M_sheet_43 rfl (lv_at hl 2 rfl) ?_
          obtain ⟨hi2, h⟩ := chk_some h
          refine g_iast (j := ix x1) (x := x2) C hG (hG.lt (Nat.le_of_ble_eq_true rfl)) (ce50 w) (inb_in hi2) rfl d_M_sheet_44 (fun H locs hG => ?_)
          refine lv_aload_n hx hb d_M_sheet_45 rfl (lv_at hl 0 rfl) ?_
          refine g_get C hG (hG.lt (Nat.le_of_ble_eq_true rfl)) (ce49 w _) rfl inC8 1 (Nat.le_of_ble_eq_true rfl) qw677 rfl d_M_sheet_46 ?_
          refine lv_iload_n hx hb d_M_sheet_49 rfl (lv_at hl 1 rfl) ?_
          refine lv_iload_n hx hb d_M_sheet_50 rfl (lv_at hl 3 rfl) ?_
          obtain ⟨hi3, h⟩ := chk_some h
          refine g_iast (j := ix x1) (x := x3) C hG (hG.lt (Nat.le_of_ble_eq_true rfl)) (ce51 w) (inb_in hi3) rfl d_M_sheet_51 (fun H locs hG => ?_)
          refine lv_iconst (v := 0) hx hb d_M_sheet_52 (by decide) ?_
          refine lv_istore (lv' := [(4, .int 0), (0, .ref (gad w 49)), (1, .int x1), (2, .int x2), (3, .int x3)]) hx hb d_M_sheet_53 hl (by decide) rfl (fun ls hl => ?_)
          obtain ⟨z1, hz1, h⟩ := bnd_some h
          refine L_M_sheet_55 C _ _ FZ _ _ _ hz1 ?_ ls _ _ hG (lv_sub hl [1, 2, 4, 0] rfl)
          intro y4 Sy e9 ls H locs hG hl
          subst e9
          exact J80 _ h ls _ _ hG (lv_sub hl [0] rfl)
        · replace h := it_f h hc
          refine lv_aload_n hx hb d_M_sheet_32 rfl (lv_at hl 0 rfl) ?_
          refine lv_iconst (v := 5) hx hb d_M_sheet_33 (by decide) ?_
          obtain ⟨z2, hz2, h⟩ := bnd_some h
          refine g_goi hG (g_runV (As := [.int 5]) (rest := []) C hG (c_M_met l w S 5 hz2 _) (hG.lt (Nat.le_of_ble_eq_true rfl)) (ce49 w _) rfl vw_M_98 rfl rfl ⟨by decide, by decide⟩ rfl hl.1 rfl (Nat.le_of_ble_eq_true rfl) d_M_sheet_34 ⟨Nat.zero_le _, Nat.zero_le _⟩) (fun H locs hG => ?_)
          exact g_iret C hG (sm_fst h) (sm_snd h) hQ d_M_sheet_37
      · replace h := it_f h hc
        refine lv_bipush (v := (-2)) hx hb d_M_sheet_25 (by decide) ?_
        exact g_iret C hG (sm_fst h) (sm_snd h) hQ d_M_sheet_27
theorem d_M_lose_0 : decode b_M_lose 0 = .ok (.iload_n 1, 1) := by decide +kernel
theorem d_M_lose_1 : decode b_M_lose 1 = .ok (.invokestatic 92, 3) := by decide +kernel
theorem d_M_lose_4 : decode b_M_lose 4 = .ok (.ifCond .ne 6, 3) := by decide +kernel
theorem d_M_lose_7 : decode b_M_lose 7 = .ok (.bipush (-2), 2) := by decide +kernel
theorem d_M_lose_9 : decode b_M_lose 9 = .ok (.ireturn, 1) := by decide +kernel
theorem d_M_lose_10 : decode b_M_lose 10 = .ok (.aload_n 0, 1) := by decide +kernel
theorem d_M_lose_11 : decode b_M_lose 11 = .ok (.getfield 7, 3) := by decide +kernel
theorem d_M_lose_14 : decode b_M_lose 14 = .ok (.iload_n 1, 1) := by decide +kernel
theorem d_M_lose_15 : decode b_M_lose 15 = .ok (.iaload, 1) := by decide +kernel
theorem d_M_lose_16 : decode b_M_lose 16 = .ok (.ifCond .ge 9, 3) := by decide +kernel
theorem d_M_lose_19 : decode b_M_lose 19 = .ok (.aload_n 0, 1) := by decide +kernel
theorem d_M_lose_20 : decode b_M_lose 20 = .ok (.iconst 1, 1) := by decide +kernel
theorem d_M_lose_21 : decode b_M_lose 21 = .ok (.invokevirtual 98, 3) := by decide +kernel
theorem d_M_lose_24 : decode b_M_lose 24 = .ok (.ireturn, 1) := by decide +kernel
theorem d_M_lose_25 : decode b_M_lose 25 = .ok (.aload_n 0, 1) := by decide +kernel
theorem d_M_lose_26 : decode b_M_lose 26 = .ok (.getfield 7, 3) := by decide +kernel
theorem d_M_lose_29 : decode b_M_lose 29 = .ok (.iload_n 1, 1) := by decide +kernel
theorem d_M_lose_30 : decode b_M_lose 30 = .ok (.iconst (-1), 1) := by decide +kernel
theorem d_M_lose_31 : decode b_M_lose 31 = .ok (.iastore, 1) := by decide +kernel
theorem d_M_lose_32 : decode b_M_lose 32 = .ok (.aload_n 0, 1) := by decide +kernel
theorem d_M_lose_33 : decode b_M_lose 33 = .ok (.getfield 13, 3) := by decide +kernel
theorem d_M_lose_36 : decode b_M_lose 36 = .ok (.iload_n 1, 1) := by decide +kernel
theorem d_M_lose_37 : decode b_M_lose 37 = .ok (.iaload, 1) := by decide +kernel
theorem d_M_lose_38 : decode b_M_lose 38 = .ok (.ireturn, 1) := by decide +kernel
noncomputable def M_lose (S : St) (x1 : Int32) : Option (Int32 × St) :=
  if (M_isSheet x1) = 0 then
      some ((-2), S)
    else
      chk (inb x1 4) <|
      if 0 ≤ (S 50 (ix x1)) then
        chk (inb x1 4) <|
        chk (inb x1 4) <|
        some ((up S 50 (ix x1) (-1)) 51 (ix x1), up S 50 (ix x1) (-1))
      else
        bnd (M_met S 1) fun z1 =>
        some (z1.1, z1.2)
set_option maxHeartbeats 4000000 in
set_option maxRecDepth 100000 in
theorem c_M_lose (l : Launch) (w : gw) (S : St) (x1 : Int32)  {z : Int32 × St} (h : (M_lose S x1) = some z) : gMi l w y_M_lose b_M_lose 2 (some .int) (rmm 2 45) [.ref (gad w 49), .int x1] S z.1 z.2 := by
  unfold M_lose at h
  refine g_met (Qc := gQi w z.1 z.2) (by decide +kernel) (Nat.le_of_ble_eq_true rfl) ?_
  intro p e s m args below meth c A Q ls hQ C hG hl
  have hx := C.1
  have hb := C.2.1
  have hl : lv_has ls 2 [(0, .ref (gad w 49)), (1, .int x1)] := hl
  refine lv_iload_n hx hb d_M_lose_0 rfl (lv_at hl 1 rfl) ?_
  refine g_goi hG (g_runS (As := [.int x1]) (rest := []) C hG (c_M_isSheet l w S x1 _) sw_M_92 rfl rfl ⟨by decide, by decide⟩ rfl hl.1 rfl (Nat.le_of_ble_eq_true rfl) d_M_lose_1 ⟨Nat.zero_le _, Nat.zero_le _⟩) (fun H locs hG => ?_)
  refine lv_if_ne (tgt := 10) hx hb d_M_lose_4 (by decide) (fun hc => ?_) (fun hc => ?_)
  · replace h := it_f h hc
    refine lv_aload_n hx hb d_M_lose_10 rfl (lv_at hl 0 rfl) ?_
    refine g_get C hG (hG.lt (Nat.le_of_ble_eq_true rfl)) (ce49 w _) rfl inC8 0 (Nat.le_of_ble_eq_true rfl) qw676 rfl d_M_lose_11 ?_
    refine lv_iload_n hx hb d_M_lose_14 rfl (lv_at hl 1 rfl) ?_
    obtain ⟨hi1, h⟩ := chk_some h
    refine g_iald (j := ix x1) C hG (hG.lt (Nat.le_of_ble_eq_true rfl)) (ce50 w _) (inb_in hi1) rfl d_M_lose_15 ?_
    refine lv_if_ge (tgt := 25) hx hb d_M_lose_16 (by decide) (fun hc => ?_) (fun hc => ?_)
    · replace h := it_t h hc
      refine lv_aload_n hx hb d_M_lose_25 rfl (lv_at hl 0 rfl) ?_
      refine g_get C hG (hG.lt (Nat.le_of_ble_eq_true rfl)) (ce49 w _) rfl inC8 0 (Nat.le_of_ble_eq_true rfl) qw676 rfl d_M_lose_26 ?_
      refine lv_iload_n hx hb d_M_lose_29 rfl (lv_at hl 1 rfl) ?_
      refine lv_iconst (v := (-1)) hx hb d_M_lose_30 (by decide) ?_
      obtain ⟨hi2, h⟩ := chk_some h
      refine g_iast (j := ix x1) (x := (-1)) C hG (hG.lt (Nat.le_of_ble_eq_true rfl)) (ce50 w) (inb_in hi2) rfl d_M_lose_31 (fun H locs hG => ?_)
      refine lv_aload_n hx hb d_M_lose_32 rfl (lv_at hl 0 rfl) ?_
      refine g_get C hG (hG.lt (Nat.le_of_ble_eq_true rfl)) (ce49 w _) rfl inC8 1 (Nat.le_of_ble_eq_true rfl) qw677 rfl d_M_lose_33 ?_
      refine lv_iload_n hx hb d_M_lose_36 rfl (lv_at hl 1 rfl) ?_
      obtain ⟨hi3, h⟩ := chk_some h
      refine g_iald (j := ix x1) C hG (hG.lt (Nat.le_of_ble_eq_true rfl)) (ce51 w _) (inb_in hi3) rfl d_M_lose_37 ?_
      exact g_iret C hG (sm_fst h) (sm_snd h) hQ d_M_lose_38
    · replace h := it_f h hc
      refine lv_aload_n hx hb d_M_lose_19 rfl (lv_at hl 0 rfl) ?_
      refine lv_iconst (v := 1) hx hb d_M_lose_20 (by decide) ?_
      obtain ⟨z1, hz1, h⟩ := bnd_some h
      refine g_goi hG (g_runV (As := [.int 1]) (rest := []) C hG (c_M_met l w S 1 hz1 _) (hG.lt (Nat.le_of_ble_eq_true rfl)) (ce49 w _) rfl vw_M_98 rfl rfl ⟨by decide, by decide⟩ rfl hl.1 rfl (Nat.le_of_ble_eq_true rfl) d_M_lose_21 ⟨Nat.zero_le _, Nat.zero_le _⟩) (fun H locs hG => ?_)
      exact g_iret C hG (sm_fst h) (sm_snd h) hQ d_M_lose_24
  · replace h := it_t h hc
    refine lv_bipush (v := (-2)) hx hb d_M_lose_7 (by decide) ?_
    exact g_iret C hG (sm_fst h) (sm_snd h) hQ d_M_lose_9
theorem d_M_lacks_0 : decode b_M_lacks 0 = .ok (.aload_n 0, 1) := by decide +kernel
theorem d_M_lacks_1 : decode b_M_lacks 1 = .ok (.getfield 7, 3) := by decide +kernel
theorem d_M_lacks_4 : decode b_M_lacks 4 = .ok (.iload_n 1, 1) := by decide +kernel
theorem d_M_lacks_5 : decode b_M_lacks 5 = .ok (.iaload, 1) := by decide +kernel
theorem d_M_lacks_6 : decode b_M_lacks 6 = .ok (.ifCond .ge 9, 3) := by decide +kernel
theorem d_M_lacks_9 : decode b_M_lacks 9 = .ok (.aload_n 0, 1) := by decide +kernel
theorem d_M_lacks_10 : decode b_M_lacks 10 = .ok (.iconst 1, 1) := by decide +kernel
theorem d_M_lacks_11 : decode b_M_lacks 11 = .ok (.invokevirtual 98, 3) := by decide +kernel
theorem d_M_lacks_14 : decode b_M_lacks 14 = .ok (.ireturn, 1) := by decide +kernel
theorem d_M_lacks_15 : decode b_M_lacks 15 = .ok (.aload_n 0, 1) := by decide +kernel
theorem d_M_lacks_16 : decode b_M_lacks 16 = .ok (.getfield 7, 3) := by decide +kernel
theorem d_M_lacks_19 : decode b_M_lacks 19 = .ok (.iload_n 1, 1) := by decide +kernel
theorem d_M_lacks_20 : decode b_M_lacks 20 = .ok (.iaload, 1) := by decide +kernel
theorem d_M_lacks_21 : decode b_M_lacks 21 = .ok (.iload_n 2, 1) := by decide +kernel
theorem d_M_lacks_22 : decode b_M_lacks 22 = .ok (.if_icmp .eq 9, 3) := by decide +kernel
theorem d_M_lacks_25 : decode b_M_lacks 25 = .ok (.aload_n 0, 1) := by decide +kernel
theorem d_M_lacks_26 : decode b_M_lacks 26 = .ok (.iconst 3, 1) := by decide +kernel
theorem d_M_lacks_27 : decode b_M_lacks 27 = .ok (.invokevirtual 98, 3) := by decide +kernel
theorem d_M_lacks_30 : decode b_M_lacks 30 = .ok (.ireturn, 1) := by decide +kernel
theorem d_M_lacks_31 : decode b_M_lacks 31 = .ok (.iload_n 3, 1) := by decide +kernel
theorem d_M_lacks_32 : decode b_M_lacks 32 = .ok (.i2l, 1) := by decide +kernel
theorem d_M_lacks_33 : decode b_M_lacks 33 = .ok (.lconst 0, 1) := by decide +kernel
theorem d_M_lacks_34 : decode b_M_lacks 34 = .ok (.aload_n 0, 1) := by decide +kernel
theorem d_M_lacks_35 : decode b_M_lacks 35 = .ok (.getfield 13, 3) := by decide +kernel
theorem d_M_lacks_38 : decode b_M_lacks 38 = .ok (.iload_n 1, 1) := by decide +kernel
theorem d_M_lacks_39 : decode b_M_lacks 39 = .ok (.iaload, 1) := by decide +kernel
theorem d_M_lacks_40 : decode b_M_lacks 40 = .ok (.iconst 1, 1) := by decide +kernel
theorem d_M_lacks_41 : decode b_M_lacks 41 = .ok (.isub, 1) := by decide +kernel
theorem d_M_lacks_42 : decode b_M_lacks 42 = .ok (.i2l, 1) := by decide +kernel
theorem d_M_lacks_43 : decode b_M_lacks 43 = .ok (.invokestatic 82, 3) := by decide +kernel
theorem d_M_lacks_46 : decode b_M_lacks 46 = .ok (.ifCond .eq 7, 3) := by decide +kernel
theorem d_M_lacks_49 : decode b_M_lacks 49 = .ok (.iconst 0, 1) := by decide +kernel
theorem d_M_lacks_50 : decode b_M_lacks 50 = .ok (.goto 8, 3) := by decide +kernel
theorem d_M_lacks_53 : decode b_M_lacks 53 = .ok (.aload_n 0, 1) := by decide +kernel
theorem d_M_lacks_54 : decode b_M_lacks 54 = .ok (.iconst 2, 1) := by decide +kernel
theorem d_M_lacks_55 : decode b_M_lacks 55 = .ok (.invokevirtual 98, 3) := by decide +kernel
theorem d_M_lacks_58 : decode b_M_lacks 58 = .ok (.ireturn, 1) := by decide +kernel
noncomputable def M_lacks (S : St) (x1 : Int32) (x2 : Int32) (x3 : Int32) : Option (Int32 × St) :=
  chk (inb x1 4) <|
    if 0 ≤ (S 50 (ix x1)) then
      chk (inb x1 4) <|
      if (S 50 (ix x1)) = x2 then
        chk (inb x1 4) <|
        if (M_in x3.toInt64 0 (((S 51 (ix x1)) - 1).toInt64)) = 0 then
          bnd (M_met S 2) fun z1 =>
          some (z1.1, z1.2)
        else
          some (0, S)
      else
        bnd (M_met S 3) fun z2 =>
        some (z2.1, z2.2)
    else
      bnd (M_met S 1) fun z3 =>
      some (z3.1, z3.2)
set_option maxHeartbeats 4000000 in
set_option maxRecDepth 100000 in
theorem c_M_lacks (l : Launch) (w : gw) (S : St) (x1 : Int32) (x2 : Int32) (x3 : Int32)  {z : Int32 × St} (h : (M_lacks S x1 x2 x3) = some z) : gMi l w y_M_lacks b_M_lacks 4 (some .int) (rmm 1 25) [.ref (gad w 49), .int x1, .int x2, .int x3] S z.1 z.2 := by
  unfold M_lacks at h
  refine g_met (Qc := gQi w z.1 z.2) (by decide +kernel) (Nat.le_of_ble_eq_true rfl) ?_
  intro p e s m args below meth c A Q ls hQ C hG hl
  have hx := C.1
  have hb := C.2.1
  have hl : lv_has ls 4 [(0, .ref (gad w 49)), (1, .int x1), (2, .int x2), (3, .int x3)] := hl
  refine lv_aload_n hx hb d_M_lacks_0 rfl (lv_at hl 0 rfl) ?_
  refine g_get C hG (hG.lt (Nat.le_of_ble_eq_true rfl)) (ce49 w _) rfl inC8 0 (Nat.le_of_ble_eq_true rfl) qw676 rfl d_M_lacks_1 ?_
  refine lv_iload_n hx hb d_M_lacks_4 rfl (lv_at hl 1 rfl) ?_
  obtain ⟨hi1, h⟩ := chk_some h
  refine g_iald (j := ix x1) C hG (hG.lt (Nat.le_of_ble_eq_true rfl)) (ce50 w _) (inb_in hi1) rfl d_M_lacks_5 ?_
  refine lv_if_ge (tgt := 15) hx hb d_M_lacks_6 (by decide) (fun hc => ?_) (fun hc => ?_)
  · replace h := it_t h hc
    refine lv_aload_n hx hb d_M_lacks_15 rfl (lv_at hl 0 rfl) ?_
    refine g_get C hG (hG.lt (Nat.le_of_ble_eq_true rfl)) (ce49 w _) rfl inC8 0 (Nat.le_of_ble_eq_true rfl) qw676 rfl d_M_lacks_16 ?_
    refine lv_iload_n hx hb d_M_lacks_19 rfl (lv_at hl 1 rfl) ?_
    obtain ⟨hi2, h⟩ := chk_some h
    refine g_iald (j := ix x1) C hG (hG.lt (Nat.le_of_ble_eq_true rfl)) (ce50 w _) (inb_in hi2) rfl d_M_lacks_20 ?_
    refine lv_iload_n hx hb d_M_lacks_21 rfl (lv_at hl 2 rfl) ?_
    refine lv_icmp_eq (tgt := 31) hx hb d_M_lacks_22 (by decide) (fun hc => ?_) (fun hc => ?_)
    · replace h := it_t h hc
      refine lv_iload_n hx hb d_M_lacks_31 rfl (lv_at hl 3 rfl) ?_
      refine lv_i2l (v := x3.toInt64) hx hb d_M_lacks_32 rfl ?_
      refine lv_lconst (v := 0) hx hb d_M_lacks_33 (by decide) ?_
      refine lv_aload_n hx hb d_M_lacks_34 rfl (lv_at hl 0 rfl) ?_
      refine g_get C hG (hG.lt (Nat.le_of_ble_eq_true rfl)) (ce49 w _) rfl inC8 1 (Nat.le_of_ble_eq_true rfl) qw677 rfl d_M_lacks_35 ?_
      refine lv_iload_n hx hb d_M_lacks_38 rfl (lv_at hl 1 rfl) ?_
      obtain ⟨hi3, h⟩ := chk_some h
      refine g_iald (j := ix x1) C hG (hG.lt (Nat.le_of_ble_eq_true rfl)) (ce51 w _) (inb_in hi3) rfl d_M_lacks_39 ?_
      refine lv_iconst (v := 1) hx hb d_M_lacks_40 (by decide) ?_
      refine lv_isub hx hb d_M_lacks_41 ?_
      refine lv_i2l (v := ((S 51 (ix x1)) - 1).toInt64) hx hb d_M_lacks_42 rfl ?_
      refine g_goi hG (g_runS (As := [.long x3.toInt64, .long 0, .long (((S 51 (ix x1)) - 1).toInt64)]) (rest := []) C hG (c_M_in l w S x3.toInt64 0 (((S 51 (ix x1)) - 1).toInt64) _) sw_M_82 rfl rfl ⟨by decide, by decide⟩ rfl hl.1 rfl (Nat.le_of_ble_eq_true rfl) d_M_lacks_43 ⟨Nat.zero_le _, Nat.zero_le _⟩) (fun H locs hG => ?_)
      refine lv_if_eq (tgt := 53) hx hb d_M_lacks_46 (by decide) (fun hc => ?_) (fun hc => ?_)
      · replace h := it_t h hc
        refine lv_aload_n hx hb d_M_lacks_53 rfl (lv_at hl 0 rfl) ?_
        refine lv_iconst (v := 2) hx hb d_M_lacks_54 (by decide) ?_
        obtain ⟨z1, hz1, h⟩ := bnd_some h
        refine g_goi hG (g_runV (As := [.int 2]) (rest := []) C hG (c_M_met l w S 2 hz1 _) (hG.lt (Nat.le_of_ble_eq_true rfl)) (ce49 w _) rfl vw_M_98 rfl rfl ⟨by decide, by decide⟩ rfl hl.1 rfl (Nat.le_of_ble_eq_true rfl) d_M_lacks_55 ⟨Nat.zero_le _, Nat.zero_le _⟩) (fun H locs hG => ?_)
        exact g_iret C hG (sm_fst h) (sm_snd h) hQ d_M_lacks_58
      · replace h := it_f h hc
        refine lv_iconst (v := 0) hx hb d_M_lacks_49 (by decide) ?_
        refine lv_goto (tgt := 58) hx hb d_M_lacks_50 (by decide) ?_
        exact g_iret C hG (sm_fst h) (sm_snd h) hQ d_M_lacks_58
    · replace h := it_f h hc
      refine lv_aload_n hx hb d_M_lacks_25 rfl (lv_at hl 0 rfl) ?_
      refine lv_iconst (v := 3) hx hb d_M_lacks_26 (by decide) ?_
      obtain ⟨z2, hz2, h⟩ := bnd_some h
      refine g_goi hG (g_runV (As := [.int 3]) (rest := []) C hG (c_M_met l w S 3 hz2 _) (hG.lt (Nat.le_of_ble_eq_true rfl)) (ce49 w _) rfl vw_M_98 rfl rfl ⟨by decide, by decide⟩ rfl hl.1 rfl (Nat.le_of_ble_eq_true rfl) d_M_lacks_27 ⟨Nat.zero_le _, Nat.zero_le _⟩) (fun H locs hG => ?_)
      exact g_iret C hG (sm_fst h) (sm_snd h) hQ d_M_lacks_30
  · replace h := it_f h hc
    refine lv_aload_n hx hb d_M_lacks_9 rfl (lv_at hl 0 rfl) ?_
    refine lv_iconst (v := 1) hx hb d_M_lacks_10 (by decide) ?_
    obtain ⟨z3, hz3, h⟩ := bnd_some h
    refine g_goi hG (g_runV (As := [.int 1]) (rest := []) C hG (c_M_met l w S 1 hz3 _) (hG.lt (Nat.le_of_ble_eq_true rfl)) (ce49 w _) rfl vw_M_98 rfl rfl ⟨by decide, by decide⟩ rfl hl.1 rfl (Nat.le_of_ble_eq_true rfl) d_M_lacks_11 ⟨Nat.zero_le _, Nat.zero_le _⟩) (fun H locs hG => ?_)
    exact g_iret C hG (sm_fst h) (sm_snd h) hQ d_M_lacks_14
theorem d_M_cut_0 : decode b_M_cut 0 = .ok (.iload_n 0, 1) := by decide +kernel
theorem d_M_cut_1 : decode b_M_cut 1 = .ok (.ifCond .ne 8, 3) := by decide +kernel
theorem d_M_cut_4 : decode b_M_cut 4 = .ok (.iload_n 1, 1) := by decide +kernel
theorem d_M_cut_5 : decode b_M_cut 5 = .ok (.i2b, 1) := by decide +kernel
theorem d_M_cut_6 : decode b_M_cut 6 = .ok (.goto 14, 3) := by decide +kernel
theorem d_M_cut_9 : decode b_M_cut 9 = .ok (.iload_n 0, 1) := by decide +kernel
theorem d_M_cut_10 : decode b_M_cut 10 = .ok (.iconst 1, 1) := by decide +kernel
theorem d_M_cut_11 : decode b_M_cut 11 = .ok (.if_icmp .ne 8, 3) := by decide +kernel
theorem d_M_cut_14 : decode b_M_cut 14 = .ok (.iload_n 1, 1) := by decide +kernel
theorem d_M_cut_15 : decode b_M_cut 15 = .ok (.i2s, 1) := by decide +kernel
theorem d_M_cut_16 : decode b_M_cut 16 = .ok (.goto 4, 3) := by decide +kernel
theorem d_M_cut_19 : decode b_M_cut 19 = .ok (.iload_n 1, 1) := by decide +kernel
theorem d_M_cut_20 : decode b_M_cut 20 = .ok (.ireturn, 1) := by decide +kernel
noncomputable def M_cut (x0 : Int32) (x1 : Int32) : Int32 :=
  if x0 = 0 then
      x1.toInt8.toInt32
    else
      if x0 = 1 then
        x1.toInt16.toInt32
      else
        x1
set_option maxHeartbeats 4000000 in
set_option maxRecDepth 100000 in
theorem c_M_cut (l : Launch) (w : gw) (S : St) (x0 : Int32) (x1 : Int32)   : gMi l w y_M_cut b_M_cut 2 (some .int) (rmm 0 0) [.int x0, .int x1] S (M_cut x0 x1) S := by
  generalize h : M_cut x0 x1 = z
  unfold M_cut at h
  refine g_met (Qc := gQi w z S) (by decide +kernel) (Nat.le_of_ble_eq_true rfl) ?_
  intro p e s m args below meth c A Q ls hQ C hG hl
  have hx := C.1
  have hb := C.2.1
  have hl : lv_has ls 2 [(0, .int x0), (1, .int x1)] := hl
  refine lv_iload_n hx hb d_M_cut_0 rfl (lv_at hl 0 rfl) ?_
  refine lv_if_ne (tgt := 9) hx hb d_M_cut_1 (by decide) (fun hc => ?_) (fun hc => ?_)
  · replace h := it_f h hc
    refine lv_iload_n hx hb d_M_cut_9 rfl (lv_at hl 0 rfl) ?_
    refine lv_iconst (v := 1) hx hb d_M_cut_10 (by decide) ?_
    refine lv_icmp_ne (tgt := 19) hx hb d_M_cut_11 (by decide) (fun hc => ?_) (fun hc => ?_)
    · replace h := it_f h hc
      refine lv_iload_n hx hb d_M_cut_19 rfl (lv_at hl 1 rfl) ?_
      exact g_iret C hG h rfl hQ d_M_cut_20
    · replace h := it_t h hc
      refine lv_iload_n hx hb d_M_cut_14 rfl (lv_at hl 1 rfl) ?_
      refine lv_i2s (v := x1.toInt16.toInt32) hx hb d_M_cut_15 rfl ?_
      refine lv_goto (tgt := 20) hx hb d_M_cut_16 (by decide) ?_
      exact g_iret C hG h rfl hQ d_M_cut_20
  · replace h := it_t h hc
    refine lv_iload_n hx hb d_M_cut_4 rfl (lv_at hl 1 rfl) ?_
    refine lv_i2b (v := x1.toInt8.toInt32) hx hb d_M_cut_5 rfl ?_
    refine lv_goto (tgt := 20) hx hb d_M_cut_6 (by decide) ?_
    exact g_iret C hG h rfl hQ d_M_cut_20
theorem d_M_lay_0 : decode b_M_lay 0 = .ok (.iload_n 1, 1) := by decide +kernel
theorem d_M_lay_1 : decode b_M_lay 1 = .ok (.invokestatic 92, 3) := by decide +kernel
theorem d_M_lay_4 : decode b_M_lay 4 = .ok (.ifCond .eq 15, 3) := by decide +kernel
theorem d_M_lay_7 : decode b_M_lay 7 = .ok (.iload_n 2, 1) := by decide +kernel
theorem d_M_lay_8 : decode b_M_lay 8 = .ok (.i2l, 1) := by decide +kernel
theorem d_M_lay_9 : decode b_M_lay 9 = .ok (.lconst 0, 1) := by decide +kernel
theorem d_M_lay_10 : decode b_M_lay 10 = .ok (.ldc2_w 96, 3) := by decide +kernel
theorem d_M_lay_13 : decode b_M_lay 13 = .ok (.invokestatic 82, 3) := by decide +kernel
theorem d_M_lay_16 : decode b_M_lay 16 = .ok (.ifCond .ne 6, 3) := by decide +kernel
theorem d_M_lay_19 : decode b_M_lay 19 = .ok (.bipush (-2), 2) := by decide +kernel
theorem d_M_lay_21 : decode b_M_lay 21 = .ok (.ireturn, 1) := by decide +kernel
theorem d_M_lay_22 : decode b_M_lay 22 = .ok (.aload_n 0, 1) := by decide +kernel
theorem d_M_lay_23 : decode b_M_lay 23 = .ok (.iload_n 1, 1) := by decide +kernel
theorem d_M_lay_24 : decode b_M_lay 24 = .ok (.iload_n 2, 1) := by decide +kernel
theorem d_M_lay_25 : decode b_M_lay 25 = .ok (.iload_n 3, 1) := by decide +kernel
theorem d_M_lay_26 : decode b_M_lay 26 = .ok (.invokevirtual 102, 3) := by decide +kernel
theorem d_M_lay_29 : decode b_M_lay 29 = .ok (.istore 5, 2) := by decide +kernel
theorem d_M_lay_31 : decode b_M_lay 31 = .ok (.iload 5, 2) := by decide +kernel
theorem d_M_lay_33 : decode b_M_lay 33 = .ok (.ifCond .eq 6, 3) := by decide +kernel
theorem d_M_lay_36 : decode b_M_lay 36 = .ok (.iload 5, 2) := by decide +kernel
theorem d_M_lay_38 : decode b_M_lay 38 = .ok (.ireturn, 1) := by decide +kernel
theorem d_M_lay_39 : decode b_M_lay 39 = .ok (.aload_n 0, 1) := by decide +kernel
theorem d_M_lay_40 : decode b_M_lay 40 = .ok (.getfield 16, 3) := by decide +kernel
theorem d_M_lay_43 : decode b_M_lay 43 = .ok (.bipush 60, 2) := by decide +kernel
theorem d_M_lay_45 : decode b_M_lay 45 = .ok (.iload_n 1, 1) := by decide +kernel
theorem d_M_lay_46 : decode b_M_lay 46 = .ok (.imul, 1) := by decide +kernel
theorem d_M_lay_47 : decode b_M_lay 47 = .ok (.iload_n 3, 1) := by decide +kernel
theorem d_M_lay_48 : decode b_M_lay 48 = .ok (.iadd, 1) := by decide +kernel
theorem d_M_lay_49 : decode b_M_lay 49 = .ok (.iload_n 2, 1) := by decide +kernel
theorem d_M_lay_50 : decode b_M_lay 50 = .ok (.iload 4, 2) := by decide +kernel
theorem d_M_lay_52 : decode b_M_lay 52 = .ok (.invokestatic 106, 3) := by decide +kernel
theorem d_M_lay_55 : decode b_M_lay 55 = .ok (.iastore, 1) := by decide +kernel
theorem d_M_lay_56 : decode b_M_lay 56 = .ok (.iconst 1, 1) := by decide +kernel
theorem d_M_lay_57 : decode b_M_lay 57 = .ok (.ireturn, 1) := by decide +kernel
noncomputable def M_lay (S : St) (x1 : Int32) (x2 : Int32) (x3 : Int32) (x4 : Int32) : Option (Int32 × St) :=
  if (M_isSheet x1) = 0 then
      some ((-2), S)
    else
      if (M_in x2.toInt64 0 2) = 0 then
        some ((-2), S)
      else
        bnd (M_lacks S x1 x2 x3) fun z1 =>
        if z1.1 = 0 then
          chk (inb ((60 * x1) + x3) 240) <|
          some (1, up z1.2 52 (ix ((60 * x1) + x3)) (M_cut x2 x4))
        else
          some (z1.1, z1.2)
set_option maxHeartbeats 4000000 in
set_option maxRecDepth 100000 in
theorem c_M_lay (l : Launch) (w : gw) (S : St) (x1 : Int32) (x2 : Int32) (x3 : Int32) (x4 : Int32)  {z : Int32 × St} (h : (M_lay S x1 x2 x3 x4) = some z) : gMi l w y_M_lay b_M_lay 6 (some .int) (rmm 2 48) [.ref (gad w 49), .int x1, .int x2, .int x3, .int x4] S z.1 z.2 := by
  unfold M_lay at h
  refine g_met (Qc := gQi w z.1 z.2) (by decide +kernel) (Nat.le_of_ble_eq_true rfl) ?_
  intro p e s m args below meth c A Q ls hQ C hG hl
  have hx := C.1
  have hb := C.2.1
  have hl : lv_has ls 6 [(0, .ref (gad w 49)), (1, .int x1), (2, .int x2), (3, .int x3), (4, .int x4)] := hl
  refine lv_iload_n hx hb d_M_lay_0 rfl (lv_at hl 1 rfl) ?_
  refine g_goi hG (g_runS (As := [.int x1]) (rest := []) C hG (c_M_isSheet l w S x1 _) sw_M_92 rfl rfl ⟨by decide, by decide⟩ rfl hl.1 rfl (Nat.le_of_ble_eq_true rfl) d_M_lay_1 ⟨Nat.zero_le _, Nat.zero_le _⟩) (fun H locs hG => ?_)
  refine lv_if_eq (tgt := 19) hx hb d_M_lay_4 (by decide) (fun hc => ?_) (fun hc => ?_)
  · replace h := it_t h hc
    refine lv_bipush (v := (-2)) hx hb d_M_lay_19 (by decide) ?_
    exact g_iret C hG (sm_fst h) (sm_snd h) hQ d_M_lay_21
  · replace h := it_f h hc
    refine lv_iload_n hx hb d_M_lay_7 rfl (lv_at hl 2 rfl) ?_
    refine lv_i2l (v := x2.toInt64) hx hb d_M_lay_8 rfl ?_
    refine lv_lconst (v := 0) hx hb d_M_lay_9 (by decide) ?_
    refine lv_ldc2 (v := 2) hx hb C.2.2.2.1 (C.2.2.2.2.1 _ qw775) d_M_lay_10 ?_
    refine g_goi hG (g_runS (As := [.long x2.toInt64, .long 0, .long 2]) (rest := []) C hG (c_M_in l w S x2.toInt64 0 2 _) sw_M_82 rfl rfl ⟨by decide, by decide⟩ rfl hl.1 rfl (Nat.le_of_ble_eq_true rfl) d_M_lay_13 ⟨Nat.zero_le _, Nat.zero_le _⟩) (fun H locs hG => ?_)
    refine lv_if_ne (tgt := 22) hx hb d_M_lay_16 (by decide) (fun hc => ?_) (fun hc => ?_)
    · replace h := it_f h hc
      refine lv_aload_n hx hb d_M_lay_22 rfl (lv_at hl 0 rfl) ?_
      refine lv_iload_n hx hb d_M_lay_23 rfl (lv_at hl 1 rfl) ?_
      refine lv_iload_n hx hb d_M_lay_24 rfl (lv_at hl 2 rfl) ?_
      refine lv_iload_n hx hb d_M_lay_25 rfl (lv_at hl 3 rfl) ?_
      obtain ⟨z1, hz1, h⟩ := bnd_some h
      refine g_goi hG (g_runV (As := [.int x1, .int x2, .int x3]) (rest := []) C hG (c_M_lacks l w S x1 x2 x3 hz1 _) (hG.lt (Nat.le_of_ble_eq_true rfl)) (ce49 w _) rfl vw_M_102 rfl rfl ⟨by decide, by decide⟩ rfl hl.1 rfl (Nat.le_of_ble_eq_true rfl) d_M_lay_26 ⟨Nat.zero_le _, Nat.zero_le _⟩) (fun H locs hG => ?_)
      refine lv_istore (lv' := [(5, .int z1.1), (0, .ref (gad w 49)), (1, .int x1), (2, .int x2), (3, .int x3), (4, .int x4)]) hx hb d_M_lay_29 hl (by decide) rfl (fun ls hl => ?_)
      refine lv_iload hx hb d_M_lay_31 (lv_at hl 0 rfl) ?_
      refine lv_if_eq (tgt := 39) hx hb d_M_lay_33 (by decide) (fun hc => ?_) (fun hc => ?_)
      · replace h := it_t h hc
        refine lv_aload_n hx hb d_M_lay_39 rfl (lv_at hl 1 rfl) ?_
        refine g_get C hG (hG.lt (Nat.le_of_ble_eq_true rfl)) (ce49 w _) rfl inC8 2 (Nat.le_of_ble_eq_true rfl) qw678 rfl d_M_lay_40 ?_
        refine lv_bipush (v := 60) hx hb d_M_lay_43 (by decide) ?_
        refine lv_iload_n hx hb d_M_lay_45 rfl (lv_at hl 2 rfl) ?_
        refine lv_imul hx hb d_M_lay_46 ?_
        refine lv_iload_n hx hb d_M_lay_47 rfl (lv_at hl 4 rfl) ?_
        refine lv_iadd hx hb d_M_lay_48 ?_
        refine lv_iload_n hx hb d_M_lay_49 rfl (lv_at hl 3 rfl) ?_
        refine lv_iload hx hb d_M_lay_50 (lv_at hl 5 rfl) ?_
        refine g_goi hG (g_runS (As := [.int x2, .int x4]) (rest := [.int ((60 * x1) + x3), .ref (gad w 52)]) C hG (c_M_cut l w z1.2 x2 x4 _) sw_M_106 rfl rfl ⟨by decide, by decide⟩ rfl hl.1 rfl (Nat.le_of_ble_eq_true rfl) d_M_lay_52 ⟨Nat.zero_le _, Nat.zero_le _⟩) (fun H locs hG => ?_)
        obtain ⟨hi1, h⟩ := chk_some h
        refine g_iast (j := ix ((60 * x1) + x3)) (x := M_cut x2 x4) C hG (hG.lt (Nat.le_of_ble_eq_true rfl)) (ce52 w) (inb_in hi1) rfl d_M_lay_55 (fun H locs hG => ?_)
        refine lv_iconst (v := 1) hx hb d_M_lay_56 (by decide) ?_
        exact g_iret C hG (sm_fst h) (sm_snd h) hQ d_M_lay_57
      · replace h := it_f h hc
        refine lv_iload hx hb d_M_lay_36 (lv_at hl 0 rfl) ?_
        exact g_iret C hG (sm_fst h) (sm_snd h) hQ d_M_lay_38
    · replace h := it_t h hc
      refine lv_bipush (v := (-2)) hx hb d_M_lay_19 (by decide) ?_
      exact g_iret C hG (sm_fst h) (sm_snd h) hQ d_M_lay_21
theorem d_M_get_0 : decode b_M_get 0 = .ok (.iload_n 1, 1) := by decide +kernel
theorem d_M_get_1 : decode b_M_get 1 = .ok (.invokestatic 92, 3) := by decide +kernel
theorem d_M_get_4 : decode b_M_get 4 = .ok (.ifCond .eq 25, 3) := by decide +kernel
theorem d_M_get_7 : decode b_M_get 7 = .ok (.iload_n 2, 1) := by decide +kernel
theorem d_M_get_8 : decode b_M_get 8 = .ok (.i2l, 1) := by decide +kernel
theorem d_M_get_9 : decode b_M_get 9 = .ok (.lconst 0, 1) := by decide +kernel
theorem d_M_get_10 : decode b_M_get 10 = .ok (.ldc2_w 96, 3) := by decide +kernel
theorem d_M_get_13 : decode b_M_get 13 = .ok (.invokestatic 82, 3) := by decide +kernel
theorem d_M_get_16 : decode b_M_get 16 = .ok (.ifCond .eq 13, 3) := by decide +kernel
theorem d_M_get_19 : decode b_M_get 19 = .ok (.aload_n 0, 1) := by decide +kernel
theorem d_M_get_20 : decode b_M_get 20 = .ok (.iload_n 1, 1) := by decide +kernel
theorem d_M_get_21 : decode b_M_get 21 = .ok (.iload_n 2, 1) := by decide +kernel
theorem d_M_get_22 : decode b_M_get 22 = .ok (.iload_n 3, 1) := by decide +kernel
theorem d_M_get_23 : decode b_M_get 23 = .ok (.invokevirtual 102, 3) := by decide +kernel
theorem d_M_get_26 : decode b_M_get 26 = .ok (.ifCond .eq 6, 3) := by decide +kernel
theorem d_M_get_29 : decode b_M_get 29 = .ok (.ldc 110, 2) := by decide +kernel
theorem d_M_get_31 : decode b_M_get 31 = .ok (.ireturn, 1) := by decide +kernel
theorem d_M_get_32 : decode b_M_get 32 = .ok (.aload_n 0, 1) := by decide +kernel
theorem d_M_get_33 : decode b_M_get 33 = .ok (.getfield 16, 3) := by decide +kernel
theorem d_M_get_36 : decode b_M_get 36 = .ok (.bipush 60, 2) := by decide +kernel
theorem d_M_get_38 : decode b_M_get 38 = .ok (.iload_n 1, 1) := by decide +kernel
theorem d_M_get_39 : decode b_M_get 39 = .ok (.imul, 1) := by decide +kernel
theorem d_M_get_40 : decode b_M_get 40 = .ok (.iload_n 3, 1) := by decide +kernel
theorem d_M_get_41 : decode b_M_get 41 = .ok (.iadd, 1) := by decide +kernel
theorem d_M_get_42 : decode b_M_get 42 = .ok (.iaload, 1) := by decide +kernel
theorem d_M_get_43 : decode b_M_get 43 = .ok (.ireturn, 1) := by decide +kernel
noncomputable def M_get (S : St) (x1 : Int32) (x2 : Int32) (x3 : Int32) : Option (Int32 × St) :=
  if (M_isSheet x1) = 0 then
      some ((-2147483648), S)
    else
      if (M_in x2.toInt64 0 2) = 0 then
        some ((-2147483648), S)
      else
        bnd (M_lacks S x1 x2 x3) fun z1 =>
        if z1.1 = 0 then
          chk (inb ((60 * x1) + x3) 240) <|
          some (z1.2 52 (ix ((60 * x1) + x3)), z1.2)
        else
          some ((-2147483648), z1.2)
set_option maxHeartbeats 4000000 in
set_option maxRecDepth 100000 in
theorem c_M_get (l : Launch) (w : gw) (S : St) (x1 : Int32) (x2 : Int32) (x3 : Int32)  {z : Int32 × St} (h : (M_get S x1 x2 x3) = some z) : gMi l w y_M_get b_M_get 4 (some .int) (rmm 2 48) [.ref (gad w 49), .int x1, .int x2, .int x3] S z.1 z.2 := by
  unfold M_get at h
  refine g_met (Qc := gQi w z.1 z.2) (by decide +kernel) (Nat.le_of_ble_eq_true rfl) ?_
  intro p e s m args below meth c A Q ls hQ C hG hl
  have hx := C.1
  have hb := C.2.1
  have hl : lv_has ls 4 [(0, .ref (gad w 49)), (1, .int x1), (2, .int x2), (3, .int x3)] := hl
  refine lv_iload_n hx hb d_M_get_0 rfl (lv_at hl 1 rfl) ?_
  refine g_goi hG (g_runS (As := [.int x1]) (rest := []) C hG (c_M_isSheet l w S x1 _) sw_M_92 rfl rfl ⟨by decide, by decide⟩ rfl hl.1 rfl (Nat.le_of_ble_eq_true rfl) d_M_get_1 ⟨Nat.zero_le _, Nat.zero_le _⟩) (fun H locs hG => ?_)
  refine lv_if_eq (tgt := 29) hx hb d_M_get_4 (by decide) (fun hc => ?_) (fun hc => ?_)
  · replace h := it_t h hc
    refine lv_ldc (v := (-2147483648)) hx hb C.2.2.2.1 (C.2.2.2.2.1 _ qw799) d_M_get_29 ?_
    exact g_iret C hG (sm_fst h) (sm_snd h) hQ d_M_get_31
  · replace h := it_f h hc
    refine lv_iload_n hx hb d_M_get_7 rfl (lv_at hl 2 rfl) ?_
    refine lv_i2l (v := x2.toInt64) hx hb d_M_get_8 rfl ?_
    refine lv_lconst (v := 0) hx hb d_M_get_9 (by decide) ?_
    refine lv_ldc2 (v := 2) hx hb C.2.2.2.1 (C.2.2.2.2.1 _ qw775) d_M_get_10 ?_
    refine g_goi hG (g_runS (As := [.long x2.toInt64, .long 0, .long 2]) (rest := []) C hG (c_M_in l w S x2.toInt64 0 2 _) sw_M_82 rfl rfl ⟨by decide, by decide⟩ rfl hl.1 rfl (Nat.le_of_ble_eq_true rfl) d_M_get_13 ⟨Nat.zero_le _, Nat.zero_le _⟩) (fun H locs hG => ?_)
    refine lv_if_eq (tgt := 29) hx hb d_M_get_16 (by decide) (fun hc => ?_) (fun hc => ?_)
    · replace h := it_t h hc
      refine lv_ldc (v := (-2147483648)) hx hb C.2.2.2.1 (C.2.2.2.2.1 _ qw799) d_M_get_29 ?_
      exact g_iret C hG (sm_fst h) (sm_snd h) hQ d_M_get_31
    · replace h := it_f h hc
      refine lv_aload_n hx hb d_M_get_19 rfl (lv_at hl 0 rfl) ?_
      refine lv_iload_n hx hb d_M_get_20 rfl (lv_at hl 1 rfl) ?_
      refine lv_iload_n hx hb d_M_get_21 rfl (lv_at hl 2 rfl) ?_
      refine lv_iload_n hx hb d_M_get_22 rfl (lv_at hl 3 rfl) ?_
      obtain ⟨z1, hz1, h⟩ := bnd_some h
      refine g_goi hG (g_runV (As := [.int x1, .int x2, .int x3]) (rest := []) C hG (c_M_lacks l w S x1 x2 x3 hz1 _) (hG.lt (Nat.le_of_ble_eq_true rfl)) (ce49 w _) rfl vw_M_102 rfl rfl ⟨by decide, by decide⟩ rfl hl.1 rfl (Nat.le_of_ble_eq_true rfl) d_M_get_23 ⟨Nat.zero_le _, Nat.zero_le _⟩) (fun H locs hG => ?_)
      refine lv_if_eq (tgt := 32) hx hb d_M_get_26 (by decide) (fun hc => ?_) (fun hc => ?_)
      · replace h := it_t h hc
        refine lv_aload_n hx hb d_M_get_32 rfl (lv_at hl 0 rfl) ?_
        refine g_get C hG (hG.lt (Nat.le_of_ble_eq_true rfl)) (ce49 w _) rfl inC8 2 (Nat.le_of_ble_eq_true rfl) qw678 rfl d_M_get_33 ?_
        refine lv_bipush (v := 60) hx hb d_M_get_36 (by decide) ?_
        refine lv_iload_n hx hb d_M_get_38 rfl (lv_at hl 1 rfl) ?_
        refine lv_imul hx hb d_M_get_39 ?_
        refine lv_iload_n hx hb d_M_get_40 rfl (lv_at hl 3 rfl) ?_
        refine lv_iadd hx hb d_M_get_41 ?_
        obtain ⟨hi1, h⟩ := chk_some h
        refine g_iald (j := ix ((60 * x1) + x3)) C hG (hG.lt (Nat.le_of_ble_eq_true rfl)) (ce52 w _) (inb_in hi1) rfl d_M_get_42 ?_
        exact g_iret C hG (sm_fst h) (sm_snd h) hQ d_M_get_43
      · replace h := it_f h hc
        refine lv_ldc (v := (-2147483648)) hx hb C.2.2.2.1 (C.2.2.2.2.1 _ qw799) d_M_get_29 ?_
        exact g_iret C hG (sm_fst h) (sm_snd h) hQ d_M_get_31
theorem d_M_copy_0 : decode b_M_copy 0 = .ok (.iload_n 1, 1) := by decide +kernel
theorem d_M_copy_1 : decode b_M_copy 1 = .ok (.invokestatic 92, 3) := by decide +kernel
theorem d_M_copy_4 : decode b_M_copy 4 = .ok (.ifCond .eq 10, 3) := by decide +kernel
theorem d_M_copy_7 : decode b_M_copy 7 = .ok (.iload_n 3, 1) := by decide +kernel
theorem d_M_copy_8 : decode b_M_copy 8 = .ok (.invokestatic 92, 3) := by decide +kernel
theorem d_M_copy_11 : decode b_M_copy 11 = .ok (.ifCond .ne 6, 3) := by decide +kernel
theorem d_M_copy_14 : decode b_M_copy 14 = .ok (.bipush (-2), 2) := by decide +kernel
theorem d_M_copy_16 : decode b_M_copy 16 = .ok (.ireturn, 1) := by decide +kernel
theorem d_M_copy_17 : decode b_M_copy 17 = .ok (.aload_n 0, 1) := by decide +kernel
theorem d_M_copy_18 : decode b_M_copy 18 = .ok (.getfield 7, 3) := by decide +kernel
theorem d_M_copy_21 : decode b_M_copy 21 = .ok (.iload_n 1, 1) := by decide +kernel
theorem d_M_copy_22 : decode b_M_copy 22 = .ok (.iaload, 1) := by decide +kernel
theorem d_M_copy_23 : decode b_M_copy 23 = .ok (.ifCond .lt 12, 3) := by decide +kernel
theorem d_M_copy_26 : decode b_M_copy 26 = .ok (.aload_n 0, 1) := by decide +kernel
theorem d_M_copy_27 : decode b_M_copy 27 = .ok (.getfield 7, 3) := by decide +kernel
theorem d_M_copy_30 : decode b_M_copy 30 = .ok (.iload_n 3, 1) := by decide +kernel
theorem d_M_copy_31 : decode b_M_copy 31 = .ok (.iaload, 1) := by decide +kernel
theorem d_M_copy_32 : decode b_M_copy 32 = .ok (.ifCond .ge 9, 3) := by decide +kernel
theorem d_M_copy_35 : decode b_M_copy 35 = .ok (.aload_n 0, 1) := by decide +kernel
theorem d_M_copy_36 : decode b_M_copy 36 = .ok (.iconst 1, 1) := by decide +kernel
theorem d_M_copy_37 : decode b_M_copy 37 = .ok (.invokevirtual 98, 3) := by decide +kernel
theorem d_M_copy_40 : decode b_M_copy 40 = .ok (.ireturn, 1) := by decide +kernel
theorem d_M_copy_41 : decode b_M_copy 41 = .ok (.aload_n 0, 1) := by decide +kernel
theorem d_M_copy_42 : decode b_M_copy 42 = .ok (.getfield 7, 3) := by decide +kernel
theorem d_M_copy_45 : decode b_M_copy 45 = .ok (.iload_n 1, 1) := by decide +kernel
theorem d_M_copy_46 : decode b_M_copy 46 = .ok (.iaload, 1) := by decide +kernel
theorem d_M_copy_47 : decode b_M_copy 47 = .ok (.aload_n 0, 1) := by decide +kernel
theorem d_M_copy_48 : decode b_M_copy 48 = .ok (.getfield 7, 3) := by decide +kernel
theorem d_M_copy_51 : decode b_M_copy 51 = .ok (.iload_n 3, 1) := by decide +kernel
theorem d_M_copy_52 : decode b_M_copy 52 = .ok (.iaload, 1) := by decide +kernel
theorem d_M_copy_53 : decode b_M_copy 53 = .ok (.if_icmp .eq 9, 3) := by decide +kernel
theorem d_M_copy_56 : decode b_M_copy 56 = .ok (.aload_n 0, 1) := by decide +kernel
theorem d_M_copy_57 : decode b_M_copy 57 = .ok (.iconst 4, 1) := by decide +kernel
theorem d_M_copy_58 : decode b_M_copy 58 = .ok (.invokevirtual 98, 3) := by decide +kernel
theorem d_M_copy_61 : decode b_M_copy 61 = .ok (.ireturn, 1) := by decide +kernel
theorem d_M_copy_62 : decode b_M_copy 62 = .ok (.iload_n 2, 1) := by decide +kernel
theorem d_M_copy_63 : decode b_M_copy 63 = .ok (.ifCond .lt 48, 3) := by decide +kernel
theorem d_M_copy_66 : decode b_M_copy 66 = .ok (.iload 4, 2) := by decide +kernel
theorem d_M_copy_68 : decode b_M_copy 68 = .ok (.ifCond .lt 43, 3) := by decide +kernel
theorem d_M_copy_71 : decode b_M_copy 71 = .ok (.iload 5, 2) := by decide +kernel
theorem d_M_copy_73 : decode b_M_copy 73 = .ok (.ifCond .lt 38, 3) := by decide +kernel
theorem d_M_copy_76 : decode b_M_copy 76 = .ok (.iload_n 2, 1) := by decide +kernel
theorem d_M_copy_77 : decode b_M_copy 77 = .ok (.i2l, 1) := by decide +kernel
theorem d_M_copy_78 : decode b_M_copy 78 = .ok (.iload 5, 2) := by decide +kernel
theorem d_M_copy_80 : decode b_M_copy 80 = .ok (.i2l, 1) := by decide +kernel
theorem d_M_copy_81 : decode b_M_copy 81 = .ok (.ladd, 1) := by decide +kernel
theorem d_M_copy_82 : decode b_M_copy 82 = .ok (.aload_n 0, 1) := by decide +kernel
theorem d_M_copy_83 : decode b_M_copy 83 = .ok (.getfield 13, 3) := by decide +kernel
theorem d_M_copy_86 : decode b_M_copy 86 = .ok (.iload_n 1, 1) := by decide +kernel
theorem d_M_copy_87 : decode b_M_copy 87 = .ok (.iaload, 1) := by decide +kernel
theorem d_M_copy_88 : decode b_M_copy 88 = .ok (.i2l, 1) := by decide +kernel
theorem d_M_copy_89 : decode b_M_copy 89 = .ok (.lcmp, 1) := by decide +kernel
theorem d_M_copy_90 : decode b_M_copy 90 = .ok (.ifCond .gt 21, 3) := by decide +kernel
theorem d_M_copy_93 : decode b_M_copy 93 = .ok (.iload 4, 2) := by decide +kernel
theorem d_M_copy_95 : decode b_M_copy 95 = .ok (.i2l, 1) := by decide +kernel
theorem d_M_copy_96 : decode b_M_copy 96 = .ok (.iload 5, 2) := by decide +kernel
theorem d_M_copy_98 : decode b_M_copy 98 = .ok (.i2l, 1) := by decide +kernel
theorem d_M_copy_99 : decode b_M_copy 99 = .ok (.ladd, 1) := by decide +kernel
theorem d_M_copy_100 : decode b_M_copy 100 = .ok (.aload_n 0, 1) := by decide +kernel
theorem d_M_copy_101 : decode b_M_copy 101 = .ok (.getfield 13, 3) := by decide +kernel
theorem d_M_copy_104 : decode b_M_copy 104 = .ok (.iload_n 3, 1) := by decide +kernel
theorem d_M_copy_105 : decode b_M_copy 105 = .ok (.iaload, 1) := by decide +kernel
theorem d_M_copy_106 : decode b_M_copy 106 = .ok (.i2l, 1) := by decide +kernel
theorem d_M_copy_107 : decode b_M_copy 107 = .ok (.lcmp, 1) := by decide +kernel
theorem d_M_copy_108 : decode b_M_copy 108 = .ok (.ifCond .le 9, 3) := by decide +kernel
theorem d_M_copy_111 : decode b_M_copy 111 = .ok (.aload_n 0, 1) := by decide +kernel
theorem d_M_copy_112 : decode b_M_copy 112 = .ok (.iconst 2, 1) := by decide +kernel
theorem d_M_copy_113 : decode b_M_copy 113 = .ok (.invokevirtual 98, 3) := by decide +kernel
theorem d_M_copy_116 : decode b_M_copy 116 = .ok (.ireturn, 1) := by decide +kernel
theorem d_M_copy_117 : decode b_M_copy 117 = .ok (.iconst 0, 1) := by decide +kernel
theorem d_M_copy_118 : decode b_M_copy 118 = .ok (.istore 6, 2) := by decide +kernel
theorem d_M_copy_120 : decode b_M_copy 120 = .ok (.iload 6, 2) := by decide +kernel
theorem d_M_copy_122 : decode b_M_copy 122 = .ok (.iload 5, 2) := by decide +kernel
theorem d_M_copy_124 : decode b_M_copy 124 = .ok (.if_icmp .ge 30, 3) := by decide +kernel
theorem d_M_copy_127 : decode b_M_copy 127 = .ok (.aload_n 0, 1) := by decide +kernel
theorem d_M_copy_128 : decode b_M_copy 128 = .ok (.getfield 19, 3) := by decide +kernel
theorem d_M_copy_131 : decode b_M_copy 131 = .ok (.iload 6, 2) := by decide +kernel
theorem d_M_copy_133 : decode b_M_copy 133 = .ok (.aload_n 0, 1) := by decide +kernel
theorem d_M_copy_134 : decode b_M_copy 134 = .ok (.getfield 16, 3) := by decide +kernel
theorem d_M_copy_137 : decode b_M_copy 137 = .ok (.bipush 60, 2) := by decide +kernel
theorem d_M_copy_139 : decode b_M_copy 139 = .ok (.iload_n 1, 1) := by decide +kernel
theorem d_M_copy_140 : decode b_M_copy 140 = .ok (.imul, 1) := by decide +kernel
theorem d_M_copy_141 : decode b_M_copy 141 = .ok (.iload_n 2, 1) := by decide +kernel
theorem d_M_copy_142 : decode b_M_copy 142 = .ok (.iadd, 1) := by decide +kernel
theorem d_M_copy_143 : decode b_M_copy 143 = .ok (.iload 6, 2) := by decide +kernel
theorem d_M_copy_145 : decode b_M_copy 145 = .ok (.iadd, 1) := by decide +kernel
theorem d_M_copy_146 : decode b_M_copy 146 = .ok (.iaload, 1) := by decide +kernel
theorem d_M_copy_147 : decode b_M_copy 147 = .ok (.iastore, 1) := by decide +kernel
theorem d_M_copy_148 : decode b_M_copy 148 = .ok (.iinc 6 1, 3) := by decide +kernel
theorem d_M_copy_151 : decode b_M_copy 151 = .ok (.goto (-31), 3) := by decide +kernel
theorem d_M_copy_154 : decode b_M_copy 154 = .ok (.iconst 0, 1) := by decide +kernel
theorem d_M_copy_155 : decode b_M_copy 155 = .ok (.istore 6, 2) := by decide +kernel
theorem d_M_copy_157 : decode b_M_copy 157 = .ok (.iload 6, 2) := by decide +kernel
theorem d_M_copy_159 : decode b_M_copy 159 = .ok (.iload 5, 2) := by decide +kernel
theorem d_M_copy_161 : decode b_M_copy 161 = .ok (.if_icmp .ge 31, 3) := by decide +kernel
theorem d_M_copy_164 : decode b_M_copy 164 = .ok (.aload_n 0, 1) := by decide +kernel
theorem d_M_copy_165 : decode b_M_copy 165 = .ok (.getfield 16, 3) := by decide +kernel
theorem d_M_copy_168 : decode b_M_copy 168 = .ok (.bipush 60, 2) := by decide +kernel
theorem d_M_copy_170 : decode b_M_copy 170 = .ok (.iload_n 3, 1) := by decide +kernel
theorem d_M_copy_171 : decode b_M_copy 171 = .ok (.imul, 1) := by decide +kernel
theorem d_M_copy_172 : decode b_M_copy 172 = .ok (.iload 4, 2) := by decide +kernel
theorem d_M_copy_174 : decode b_M_copy 174 = .ok (.iadd, 1) := by decide +kernel
theorem d_M_copy_175 : decode b_M_copy 175 = .ok (.iload 6, 2) := by decide +kernel
theorem d_M_copy_177 : decode b_M_copy 177 = .ok (.iadd, 1) := by decide +kernel
theorem d_M_copy_178 : decode b_M_copy 178 = .ok (.aload_n 0, 1) := by decide +kernel
theorem d_M_copy_179 : decode b_M_copy 179 = .ok (.getfield 19, 3) := by decide +kernel
theorem d_M_copy_182 : decode b_M_copy 182 = .ok (.iload 6, 2) := by decide +kernel
theorem d_M_copy_184 : decode b_M_copy 184 = .ok (.iaload, 1) := by decide +kernel
theorem d_M_copy_185 : decode b_M_copy 185 = .ok (.iastore, 1) := by decide +kernel
theorem d_M_copy_186 : decode b_M_copy 186 = .ok (.iinc 6 1, 3) := by decide +kernel
theorem d_M_copy_189 : decode b_M_copy 189 = .ok (.goto (-32), 3) := by decide +kernel
theorem d_M_copy_192 : decode b_M_copy 192 = .ok (.iconst 1, 1) := by decide +kernel
theorem d_M_copy_193 : decode b_M_copy 193 = .ok (.ireturn, 1) := by decide +kernel
noncomputable def M_copy_L120 (S : St) (x1 : Int32) (x2 : Int32) (x3 : Int32) (x4 : Int32) (x5 : Int32) (x6 : Int32) : Option ((Int32 × St) × Nat) :=
  if x5 ≤ x6 then
      some ((x6, S), 1)
    else
      chk (inb (((60 * x1) + x2) + x6) 240) <|
      chk (inb x6 60) <|
      some ((x6 + 1, up S 53 (ix x6) (S 52 (ix (((60 * x1) + x2) + x6)))), 0)
noncomputable def M_copy_L157 (S : St) (x3 : Int32) (x4 : Int32) (x5 : Int32) (x6 : Int32) : Option ((Int32 × St) × Nat) :=
  if x5 ≤ x6 then
      some ((x6, S), 1)
    else
      chk (inb x6 60) <|
      chk (inb (((60 * x3) + x4) + x6) 240) <|
      some ((x6 + 1, up S 52 (ix (((60 * x3) + x4) + x6)) (S 53 (ix x6))), 0)
noncomputable def M_copy_J35 (S : St) : Option (Int32 × St) :=
  bnd (M_met S 1) fun z1 =>
    some (z1.1, z1.2)
noncomputable def M_copy_J111 (S : St) : Option (Int32 × St) :=
  bnd (M_met S 2) fun z2 =>
    some (z2.1, z2.2)
noncomputable def M_copy_J192 (S : St) : Option (Int32 × St) :=
  some (1, S)
noncomputable def M_copy_J154 (S : St) (x3 : Int32) (x4 : Int32) (x5 : Int32) : Option (Int32 × St) :=
  bnd (lp (σ := Int32 × St) (fun q => M_copy_L157 q.2 x3 x4 x5 q.1) FZ (0, S)) fun z3 =>
    M_copy_J192 z3.1.2
noncomputable def M_copy (S : St) (x1 : Int32) (x2 : Int32) (x3 : Int32) (x4 : Int32) (x5 : Int32) : Option (Int32 × St) :=
  if (M_isSheet x1) = 0 then
      some ((-2), S)
    else
      if (M_isSheet x3) = 0 then
        some ((-2), S)
      else
        chk (inb x1 4) <|
        if (S 50 (ix x1)) < 0 then
          M_copy_J35 S
        else
          chk (inb x3 4) <|
          if 0 ≤ (S 50 (ix x3)) then
            chk (inb x1 4) <|
            chk (inb x3 4) <|
            if (S 50 (ix x1)) = (S 50 (ix x3)) then
              if x2 < 0 then
                M_copy_J111 S
              else
                if x4 < 0 then
                  M_copy_J111 S
                else
                  if x5 < 0 then
                    M_copy_J111 S
                  else
                    chk (inb x1 4) <|
                    if 0 < (lg_cmp (x2.toInt64 + x5.toInt64) ((S 51 (ix x1)).toInt64)) then
                      M_copy_J111 S
                    else
                      chk (inb x3 4) <|
                      if (lg_cmp (x4.toInt64 + x5.toInt64) ((S 51 (ix x3)).toInt64)) ≤ 0 then
                        bnd (lp (σ := Int32 × St) (fun q => M_copy_L120 q.2 x1 x2 x3 x4 x5 q.1) FZ (0, S)) fun z4 =>
                        M_copy_J154 z4.1.2 x3 x4 x5
                      else
                        M_copy_J111 S
            else
              bnd (M_met S 4) fun z5 =>
              some (z5.1, z5.2)
          else
            M_copy_J35 S
set_option maxHeartbeats 4000000 in
set_option maxRecDepth 100000 in
theorem L_M_copy_120 (C : gCx p s m args meth c y_M_copy.cls b_M_copy 7 (some .int)) : ∀ (x1 : Int32) (x2 : Int32) (x3 : Int32) (x4 : Int32) (x5 : Int32) (n : Nat) (x6 : Int32) (S : St) (r : (Int32 × St) × Nat), lp (σ := Int32 × St) (fun q => M_copy_L120 q.2 x1 x2 x3 x4 x5 q.1) n (x6, S) = some r → (∀ (y6 : Int32) (Sy : St), r = ((y6, Sy), 1) → ∀ (ls : Array Slot) (H : Heap) (locs : List Loc), GH w s A Sy H locs → lv_has ls 7 [(0, .ref (gad w 49)), (3, .int x3), (4, .int x4), (5, .int x5)] → W p l e (rmm 2 45) s m args below meth c H locs 0 0 Q (F0 m 154 ls [])) → ∀ (ls : Array Slot) (H : Heap) (locs : List Loc), GH w s A S H locs → lv_has ls 7 [(0, .ref (gad w 49)), (1, .int x1), (2, .int x2), (3, .int x3), (4, .int x4), (5, .int x5), (6, .int x6)] → W p l e (rmm 2 45) s m args below meth c H locs 0 0 Q (F0 m 120 ls []) := by
  have hx := C.1
  have hb := C.2.1
  intro x1 x2 x3 x4 x5 n
  induction n with
  | zero => intro x6 S r h; cases h
  | succ n ih =>
    intro x6 S r h k1 ls H locs hG hl
    obtain ⟨z, h, hr⟩ := lp_succ h
    have h : M_copy_L120 S x1 x2 x3 x4 x5 x6 = some z := h
    unfold M_copy_L120 at h
    refine lv_iload hx hb d_M_copy_120 (lv_at hl 6 rfl) ?_
    refine lv_iload hx hb d_M_copy_122 (lv_at hl 5 rfl) ?_
    refine lv_icmp_ge (tgt := 154) hx hb d_M_copy_124 (by decide) (fun hc => ?_) (fun hc => ?_)
    · replace h := it_t h hc
      exact k1 _ _ (lp_exit h hr) ls _ _ hG (lv_sub hl [0, 3, 4, 5] rfl)
    · replace h := it_f h hc
      refine lv_aload_n hx hb d_M_copy_127 rfl (lv_at hl 0 rfl) ?_
      refine g_get C hG (hG.lt (Nat.le_of_ble_eq_true rfl)) (ce49 w _) rfl inC8 3 (Nat.le_of_ble_eq_true rfl) qw679 rfl d_M_copy_128 ?_
      refine lv_iload hx hb d_M_copy_131 (lv_at hl 6 rfl) ?_
      refine lv_aload_n hx hb d_M_copy_133 rfl (lv_at hl 0 rfl) ?_
      refine g_get C hG (hG.lt (Nat.le_of_ble_eq_true rfl)) (ce49 w _) rfl inC8 2 (Nat.le_of_ble_eq_true rfl) qw678 rfl d_M_copy_134 ?_
      refine lv_bipush (v := 60) hx hb d_M_copy_137 (by decide) ?_
      refine lv_iload_n hx hb d_M_copy_139 rfl (lv_at hl 1 rfl) ?_
      refine lv_imul hx hb d_M_copy_140 ?_
      refine lv_iload_n hx hb d_M_copy_141 rfl (lv_at hl 2 rfl) ?_
      refine lv_iadd hx hb d_M_copy_142 ?_
      refine lv_iload hx hb d_M_copy_143 (lv_at hl 6 rfl) ?_
      refine lv_iadd hx hb d_M_copy_145 ?_
      obtain ⟨hi1, h⟩ := chk_some h
      refine g_iald (j := ix (((60 * x1) + x2) + x6)) C hG (hG.lt (Nat.le_of_ble_eq_true rfl)) (ce52 w _) (inb_in hi1) rfl d_M_copy_146 ?_
      obtain ⟨hi2, h⟩ := chk_some h
      refine g_iast (j := ix x6) (x := S 52 (ix (((60 * x1) + x2) + x6))) C hG (hG.lt (Nat.le_of_ble_eq_true rfl)) (ce53 w) (inb_in hi2) rfl d_M_copy_147 (fun H locs hG => ?_)
      refine lv_iinc (v := x6 + 1) (lv' := [(6, .int (x6 + 1)), (0, .ref (gad w 49)), (1, .int x1), (2, .int x2), (3, .int x3), (4, .int x4), (5, .int x5)]) hx hb d_M_copy_148 hl (k := 6) rfl (congrArg (HAdd.hAdd x6) (by decide : Int32.ofInt 1 = 1)) (by decide) rfl (fun ls hl => ?_)
      refine lv_goto (tgt := 120) hx hb d_M_copy_151 (by decide) ?_
      exact ih _ _ _ (lp_back h hr) k1 ls _ _ hG (lv_sub hl [1, 2, 3, 4, 5, 6, 0] rfl)
set_option maxHeartbeats 4000000 in
set_option maxRecDepth 100000 in
theorem L_M_copy_157 (C : gCx p s m args meth c y_M_copy.cls b_M_copy 7 (some .int)) : ∀ (x3 : Int32) (x4 : Int32) (x5 : Int32) (n : Nat) (x6 : Int32) (S : St) (r : (Int32 × St) × Nat), lp (σ := Int32 × St) (fun q => M_copy_L157 q.2 x3 x4 x5 q.1) n (x6, S) = some r → (∀ (y6 : Int32) (Sy : St), r = ((y6, Sy), 1) → ∀ (ls : Array Slot) (H : Heap) (locs : List Loc), GH w s A Sy H locs → lv_has ls 7 [] → W p l e (rmm 2 45) s m args below meth c H locs 0 0 Q (F0 m 192 ls [])) → ∀ (ls : Array Slot) (H : Heap) (locs : List Loc), GH w s A S H locs → lv_has ls 7 [(0, .ref (gad w 49)), (3, .int x3), (4, .int x4), (5, .int x5), (6, .int x6)] → W p l e (rmm 2 45) s m args below meth c H locs 0 0 Q (F0 m 157 ls []) := by
  have hx := C.1
  have hb := C.2.1
  intro x3 x4 x5 n
  induction n with
  | zero => intro x6 S r h; cases h
  | succ n ih =>
    intro x6 S r h k1 ls H locs hG hl
    obtain ⟨z, h, hr⟩ := lp_succ h
    have h : M_copy_L157 S x3 x4 x5 x6 = some z := h
    unfold M_copy_L157 at h
    refine lv_iload hx hb d_M_copy_157 (lv_at hl 4 rfl) ?_
    refine lv_iload hx hb d_M_copy_159 (lv_at hl 3 rfl) ?_
    refine lv_icmp_ge (tgt := 192) hx hb d_M_copy_161 (by decide) (fun hc => ?_) (fun hc => ?_)
    · replace h := it_t h hc
      exact k1 _ _ (lp_exit h hr) ls _ _ hG (lv_sub hl [] rfl)
    · replace h := it_f h hc
      refine lv_aload_n hx hb d_M_copy_164 rfl (lv_at hl 0 rfl) ?_
      refine g_get C hG (hG.lt (Nat.le_of_ble_eq_true rfl)) (ce49 w _) rfl inC8 2 (Nat.le_of_ble_eq_true rfl) qw678 rfl d_M_copy_165 ?_
      refine lv_bipush (v := 60) hx hb d_M_copy_168 (by decide) ?_
      refine lv_iload_n hx hb d_M_copy_170 rfl (lv_at hl 1 rfl) ?_
      refine lv_imul hx hb d_M_copy_171 ?_
      refine lv_iload hx hb d_M_copy_172 (lv_at hl 2 rfl) ?_
      refine lv_iadd hx hb d_M_copy_174 ?_
      refine lv_iload hx hb d_M_copy_175 (lv_at hl 4 rfl) ?_
      refine lv_iadd hx hb d_M_copy_177 ?_
      refine lv_aload_n hx hb d_M_copy_178 rfl (lv_at hl 0 rfl) ?_
      refine g_get C hG (hG.lt (Nat.le_of_ble_eq_true rfl)) (ce49 w _) rfl inC8 3 (Nat.le_of_ble_eq_true rfl) qw679 rfl d_M_copy_179 ?_
      refine lv_iload hx hb d_M_copy_182 (lv_at hl 4 rfl) ?_
      obtain ⟨hi3, h⟩ := chk_some h
      refine g_iald (j := ix x6) C hG (hG.lt (Nat.le_of_ble_eq_true rfl)) (ce53 w _) (inb_in hi3) rfl d_M_copy_184 ?_
      obtain ⟨hi4, h⟩ := chk_some h
      refine g_iast (j := ix (((60 * x3) + x4) + x6)) (x := S 53 (ix x6)) C hG (hG.lt (Nat.le_of_ble_eq_true rfl)) (ce52 w) (inb_in hi4) rfl d_M_copy_185 (fun H locs hG => ?_)
      refine lv_iinc (v := x6 + 1) (lv' := [(6, .int (x6 + 1)), (0, .ref (gad w 49)), (3, .int x3), (4, .int x4), (5, .int x5)]) hx hb d_M_copy_186 hl (k := 4) rfl (congrArg (HAdd.hAdd x6) (by decide : Int32.ofInt 1 = 1)) (by decide) rfl (fun ls hl => ?_)
      refine lv_goto (tgt := 157) hx hb d_M_copy_189 (by decide) ?_
      exact ih _ _ _ (lp_back h hr) k1 ls _ _ hG (lv_sub hl [1, 2, 3, 4, 0] rfl)
set_option maxHeartbeats 4000000 in
set_option maxRecDepth 100000 in
theorem c_M_copy (l : Launch) (w : gw) (S : St) (x1 : Int32) (x2 : Int32) (x3 : Int32) (x4 : Int32) (x5 : Int32)  {z : Int32 × St} (h : (M_copy S x1 x2 x3 x4 x5) = some z) : gMi l w y_M_copy b_M_copy 7 (some .int) (rmm 2 45) [.ref (gad w 49), .int x1, .int x2, .int x3, .int x4, .int x5] S z.1 z.2 := by
  unfold M_copy at h
  refine g_met (Qc := gQi w z.1 z.2) (by decide +kernel) (Nat.le_of_ble_eq_true rfl) ?_
  intro p e s m args below meth c A Q ls hQ C hG hl
  have hx := C.1
  have hb := C.2.1
  have hl : lv_has ls 7 [(0, .ref (gad w 49)), (1, .int x1), (2, .int x2), (3, .int x3), (4, .int x4), (5, .int x5)] := hl
  have J35 : ∀ (S : St), M_copy_J35 S = some z → ∀ (ls : Array Slot) (H : Heap) (locs : List Loc), GH w s A S H locs → lv_has ls 7 [(0, .ref (gad w 49))] → W p l e (rmm 2 45) s m args below meth c H locs 0 0 Q (F0 m 35 ls []) := by
    intro S h ls H locs hG hl
    unfold M_copy_J35 at h
    refine lv_aload_n hx hb d_M_copy_35 rfl (lv_at hl 0 rfl) ?_
    refine lv_iconst (v := 1) hx hb d_M_copy_36 (by decide) ?_
    obtain ⟨z1, hz1, h⟩ := bnd_some h
    refine g_goi hG (g_runV (As := [.int 1]) (rest := []) C hG (c_M_met l w S 1 hz1 _) (hG.lt (Nat.le_of_ble_eq_true rfl)) (ce49 w _) rfl vw_M_98 rfl rfl ⟨by decide, by decide⟩ rfl hl.1 rfl (Nat.le_of_ble_eq_true rfl) d_M_copy_37 ⟨Nat.zero_le _, Nat.zero_le _⟩) (fun H locs hG => ?_)
    exact g_iret C hG (sm_fst h) (sm_snd h) hQ d_M_copy_40
  have J111 : ∀ (S : St), M_copy_J111 S = some z → ∀ (ls : Array Slot) (H : Heap) (locs : List Loc), GH w s A S H locs → lv_has ls 7 [(0, .ref (gad w 49))] → W p l e (rmm 2 45) s m args below meth c H locs 0 0 Q (F0 m 111 ls []) := by
    intro S h ls H locs hG hl
    unfold M_copy_J111 at h
    refine lv_aload_n hx hb d_M_copy_111 rfl (lv_at hl 0 rfl) ?_
    refine lv_iconst (v := 2) hx hb d_M_copy_112 (by decide) ?_
    obtain ⟨z2, hz2, h⟩ := bnd_some h
    refine g_goi hG (g_runV (As := [.int 2]) (rest := []) C hG (c_M_met l w S 2 hz2 _) (hG.lt (Nat.le_of_ble_eq_true rfl)) (ce49 w _) rfl vw_M_98 rfl rfl ⟨by decide, by decide⟩ rfl hl.1 rfl (Nat.le_of_ble_eq_true rfl) d_M_copy_113 ⟨Nat.zero_le _, Nat.zero_le _⟩) (fun H locs hG => ?_)
    exact g_iret C hG (sm_fst h) (sm_snd h) hQ d_M_copy_116
  have J192 : ∀ (S : St), M_copy_J192 S = some z → ∀ (ls : Array Slot) (H : Heap) (locs : List Loc), GH w s A S H locs → lv_has ls 7 [] → W p l e (rmm 2 45) s m args below meth c H locs 0 0 Q (F0 m 192 ls []) := by
    intro S h ls H locs hG hl
    unfold M_copy_J192 at h
    refine lv_iconst (v := 1) hx hb d_M_copy_192 (by decide) ?_
    exact g_iret C hG (sm_fst h) (sm_snd h) hQ d_M_copy_193
  have J154 : ∀ (S : St), M_copy_J154 S x3 x4 x5 = some z → ∀ (ls : Array Slot) (H : Heap) (locs : List Loc), GH w s A S H locs → lv_has ls 7 [(0, .ref (gad w 49)), (3, .int x3), (4, .int x4), (5, .int x5)] → W p l e (rmm 2 45) s m args below meth c H locs 0 0 Q (F0 m 154 ls []) := by
    intro S h ls H locs hG hl
    unfold M_copy_J154 at h
    refine lv_iconst (v := 0) hx hb d_M_copy_154 (by decide) ?_
    refine lv_istore (lv' := [(6, .int 0), (0, .ref (gad w 49)), (3, .int x3), (4, .int x4), (5, .int x5)]) hx hb d_M_copy_155 hl (by decide) rfl (fun ls hl => ?_)
    obtain ⟨z3, hz3, h⟩ := bnd_some h
    refine L_M_copy_157 C _ _ _ FZ _ _ _ hz3 ?_ ls _ _ hG (lv_sub hl [1, 2, 3, 4, 0] rfl)
    intro y6 Sy e9 ls H locs hG hl
    subst e9
    exact J192 _ h ls _ _ hG (lv_sub hl [] rfl)
  refine lv_iload_n hx hb d_M_copy_0 rfl (lv_at hl 1 rfl) ?_
  refine g_goi hG (g_runS (As := [.int x1]) (rest := []) C hG (c_M_isSheet l w S x1 _) sw_M_92 rfl rfl ⟨by decide, by decide⟩ rfl hl.1 rfl (Nat.le_of_ble_eq_true rfl) d_M_copy_1 ⟨Nat.zero_le _, Nat.zero_le _⟩) (fun H locs hG => ?_)
  refine lv_if_eq (tgt := 14) hx hb d_M_copy_4 (by decide) (fun hc => ?_) (fun hc => ?_)
  · replace h := it_t h hc
    refine lv_bipush (v := (-2)) hx hb d_M_copy_14 (by decide) ?_
    exact g_iret C hG (sm_fst h) (sm_snd h) hQ d_M_copy_16
  · replace h := it_f h hc
    refine lv_iload_n hx hb d_M_copy_7 rfl (lv_at hl 3 rfl) ?_
    refine g_goi hG (g_runS (As := [.int x3]) (rest := []) C hG (c_M_isSheet l w S x3 _) sw_M_92 rfl rfl ⟨by decide, by decide⟩ rfl hl.1 rfl (Nat.le_of_ble_eq_true rfl) d_M_copy_8 ⟨Nat.zero_le _, Nat.zero_le _⟩) (fun H locs hG => ?_)
    refine lv_if_ne (tgt := 17) hx hb d_M_copy_11 (by decide) (fun hc => ?_) (fun hc => ?_)
    · replace h := it_f h hc
      refine lv_aload_n hx hb d_M_copy_17 rfl (lv_at hl 0 rfl) ?_
      refine g_get C hG (hG.lt (Nat.le_of_ble_eq_true rfl)) (ce49 w _) rfl inC8 0 (Nat.le_of_ble_eq_true rfl) qw676 rfl d_M_copy_18 ?_
      refine lv_iload_n hx hb d_M_copy_21 rfl (lv_at hl 1 rfl) ?_
      obtain ⟨hi5, h⟩ := chk_some h
      refine g_iald (j := ix x1) C hG (hG.lt (Nat.le_of_ble_eq_true rfl)) (ce50 w _) (inb_in hi5) rfl d_M_copy_22 ?_
      refine lv_if_lt (tgt := 35) hx hb d_M_copy_23 (by decide) (fun hc => ?_) (fun hc => ?_)
      · replace h := it_t h hc
        exact J35 _ h ls _ _ hG (lv_sub hl [0] rfl)
      · replace h := it_f h hc
        refine lv_aload_n hx hb d_M_copy_26 rfl (lv_at hl 0 rfl) ?_
        refine g_get C hG (hG.lt (Nat.le_of_ble_eq_true rfl)) (ce49 w _) rfl inC8 0 (Nat.le_of_ble_eq_true rfl) qw676 rfl d_M_copy_27 ?_
        refine lv_iload_n hx hb d_M_copy_30 rfl (lv_at hl 3 rfl) ?_
        obtain ⟨hi6, h⟩ := chk_some h
        refine g_iald (j := ix x3) C hG (hG.lt (Nat.le_of_ble_eq_true rfl)) (ce50 w _) (inb_in hi6) rfl d_M_copy_31 ?_
        refine lv_if_ge (tgt := 41) hx hb d_M_copy_32 (by decide) (fun hc => ?_) (fun hc => ?_)
        · replace h := it_t h hc
          refine lv_aload_n hx hb d_M_copy_41 rfl (lv_at hl 0 rfl) ?_
          refine g_get C hG (hG.lt (Nat.le_of_ble_eq_true rfl)) (ce49 w _) rfl inC8 0 (Nat.le_of_ble_eq_true rfl) qw676 rfl d_M_copy_42 ?_
          refine lv_iload_n hx hb d_M_copy_45 rfl (lv_at hl 1 rfl) ?_
          obtain ⟨hi7, h⟩ := chk_some h
          refine g_iald (j := ix x1) C hG (hG.lt (Nat.le_of_ble_eq_true rfl)) (ce50 w _) (inb_in hi7) rfl d_M_copy_46 ?_
          refine lv_aload_n hx hb d_M_copy_47 rfl (lv_at hl 0 rfl) ?_
          refine g_get C hG (hG.lt (Nat.le_of_ble_eq_true rfl)) (ce49 w _) rfl inC8 0 (Nat.le_of_ble_eq_true rfl) qw676 rfl d_M_copy_48 ?_
          refine lv_iload_n hx hb d_M_copy_51 rfl (lv_at hl 3 rfl) ?_
          obtain ⟨hi8, h⟩ := chk_some h
          refine g_iald (j := ix x3) C hG (hG.lt (Nat.le_of_ble_eq_true rfl)) (ce50 w _) (inb_in hi8) rfl d_M_copy_52 ?_
          refine lv_icmp_eq (tgt := 62) hx hb d_M_copy_53 (by decide) (fun hc => ?_) (fun hc => ?_)
          · replace h := it_t h hc
            refine lv_iload_n hx hb d_M_copy_62 rfl (lv_at hl 2 rfl) ?_
            refine lv_if_lt (tgt := 111) hx hb d_M_copy_63 (by decide) (fun hc => ?_) (fun hc => ?_)
            · replace h := it_t h hc
              exact J111 _ h ls _ _ hG (lv_sub hl [0] rfl)
            · replace h := it_f h hc
              refine lv_iload hx hb d_M_copy_66 (lv_at hl 4 rfl) ?_
              refine lv_if_lt (tgt := 111) hx hb d_M_copy_68 (by decide) (fun hc => ?_) (fun hc => ?_)
              · replace h := it_t h hc
                exact J111 _ h ls _ _ hG (lv_sub hl [0] rfl)
              · replace h := it_f h hc
                refine lv_iload hx hb d_M_copy_71 (lv_at hl 5 rfl) ?_
                refine lv_if_lt (tgt := 111) hx hb d_M_copy_73 (by decide) (fun hc => ?_) (fun hc => ?_)
                · replace h := it_t h hc
                  exact J111 _ h ls _ _ hG (lv_sub hl [0] rfl)
                · replace h := it_f h hc
                  refine lv_iload_n hx hb d_M_copy_76 rfl (lv_at hl 2 rfl) ?_
                  refine lv_i2l (v := x2.toInt64) hx hb d_M_copy_77 rfl ?_
                  refine lv_iload hx hb d_M_copy_78 (lv_at hl 5 rfl) ?_
                  refine lv_i2l (v := x5.toInt64) hx hb d_M_copy_80 rfl ?_
                  refine lv_ladd hx hb d_M_copy_81 ?_
                  refine lv_aload_n hx hb d_M_copy_82 rfl (lv_at hl 0 rfl) ?_
                  refine g_get C hG (hG.lt (Nat.le_of_ble_eq_true rfl)) (ce49 w _) rfl inC8 1 (Nat.le_of_ble_eq_true rfl) qw677 rfl d_M_copy_83 ?_
                  refine lv_iload_n hx hb d_M_copy_86 rfl (lv_at hl 1 rfl) ?_
                  obtain ⟨hi9, h⟩ := chk_some h
                  refine g_iald (j := ix x1) C hG (hG.lt (Nat.le_of_ble_eq_true rfl)) (ce51 w _) (inb_in hi9) rfl d_M_copy_87 ?_
                  refine lv_i2l (v := (S 51 (ix x1)).toInt64) hx hb d_M_copy_88 rfl ?_
                  refine W.lcmp hx hb d_M_copy_89 ?_
                  refine lv_if_gt (tgt := 111) hx hb d_M_copy_90 (by decide) (fun hc => ?_) (fun hc => ?_)
                  · replace h := it_t h hc
                    exact J111 _ h ls _ _ hG (lv_sub hl [0] rfl)
                  · replace h := it_f h hc
                    refine lv_iload hx hb d_M_copy_93 (lv_at hl 4 rfl) ?_
                    refine lv_i2l (v := x4.toInt64) hx hb d_M_copy_95 rfl ?_
                    refine lv_iload hx hb d_M_copy_96 (lv_at hl 5 rfl) ?_
                    refine lv_i2l (v := x5.toInt64) hx hb d_M_copy_98 rfl ?_
                    refine lv_ladd hx hb d_M_copy_99 ?_
                    refine lv_aload_n hx hb d_M_copy_100 rfl (lv_at hl 0 rfl) ?_
                    refine g_get C hG (hG.lt (Nat.le_of_ble_eq_true rfl)) (ce49 w _) rfl inC8 1 (Nat.le_of_ble_eq_true rfl) qw677 rfl d_M_copy_101 ?_
                    refine lv_iload_n hx hb d_M_copy_104 rfl (lv_at hl 3 rfl) ?_
                    obtain ⟨hi10, h⟩ := chk_some h
                    refine g_iald (j := ix x3) C hG (hG.lt (Nat.le_of_ble_eq_true rfl)) (ce51 w _) (inb_in hi10) rfl d_M_copy_105 ?_
                    refine lv_i2l (v := (S 51 (ix x3)).toInt64) hx hb d_M_copy_106 rfl ?_
                    refine W.lcmp hx hb d_M_copy_107 ?_
                    refine lv_if_le (tgt := 117) hx hb d_M_copy_108 (by decide) (fun hc => ?_) (fun hc => ?_)
                    · replace h := it_t h hc
                      refine lv_iconst (v := 0) hx hb d_M_copy_117 (by decide) ?_
                      refine lv_istore (lv' := [(6, .int 0), (0, .ref (gad w 49)), (1, .int x1), (2, .int x2), (3, .int x3), (4, .int x4), (5, .int x5)]) hx hb d_M_copy_118 hl (by decide) rfl (fun ls hl => ?_)
                      obtain ⟨z4, hz4, h⟩ := bnd_some h
                      refine L_M_copy_120 C _ _ _ _ _ FZ _ _ _ hz4 ?_ ls _ _ hG (lv_sub hl [1, 2, 3, 4, 5, 6, 0] rfl)
                      intro y6 Sy e9 ls H locs hG hl
                      subst e9
                      exact J154 _ h ls _ _ hG (lv_sub hl [0, 1, 2, 3] rfl)
                    · replace h := it_f h hc
                      exact J111 _ h ls _ _ hG (lv_sub hl [0] rfl)
          · replace h := it_f h hc
            refine lv_aload_n hx hb d_M_copy_56 rfl (lv_at hl 0 rfl) ?_
            refine lv_iconst (v := 4) hx hb d_M_copy_57 (by decide) ?_
            obtain ⟨z5, hz5, h⟩ := bnd_some h
            refine g_goi hG (g_runV (As := [.int 4]) (rest := []) C hG (c_M_met l w S 4 hz5 _) (hG.lt (Nat.le_of_ble_eq_true rfl)) (ce49 w _) rfl vw_M_98 rfl rfl ⟨by decide, by decide⟩ rfl hl.1 rfl (Nat.le_of_ble_eq_true rfl) d_M_copy_58 ⟨Nat.zero_le _, Nat.zero_le _⟩) (fun H locs hG => ?_)
            exact g_iret C hG (sm_fst h) (sm_snd h) hQ d_M_copy_61
        · replace h := it_f h hc
          exact J35 _ h ls _ _ hG (lv_sub hl [0] rfl)
    · replace h := it_t h hc
      refine lv_bipush (v := (-2)) hx hb d_M_copy_14 (by decide) ?_
      exact g_iret C hG (sm_fst h) (sm_snd h) hQ d_M_copy_16
