variable {p : Program} {l : Launch} {e : Env} {s : State} {m : MethodId} {args : Array Value} {below : List Frame} {meth : Method} {c : Code} {A : Nat → Prop} {Q : State → Prop} {w : gw} {S : St}
theorem d_X_wipe_0 : decode b_X_wipe 0 = .ok (.aload_n 0, 1) := by decide +kernel
theorem d_X_wipe_1 : decode b_X_wipe 1 = .ok (.getfield 19, 3) := by decide +kernel
theorem d_X_wipe_4 : decode b_X_wipe 4 = .ok (.getfield 71, 3) := by decide +kernel
theorem d_X_wipe_7 : decode b_X_wipe 7 = .ok (.istore_n 1, 1) := by decide +kernel
theorem d_X_wipe_8 : decode b_X_wipe 8 = .ok (.aload_n 0, 1) := by decide +kernel
theorem d_X_wipe_9 : decode b_X_wipe 9 = .ok (.getfield 19, 3) := by decide +kernel
theorem d_X_wipe_12 : decode b_X_wipe 12 = .ok (.iconst 0, 1) := by decide +kernel
theorem d_X_wipe_13 : decode b_X_wipe 13 = .ok (.putfield 71, 3) := by decide +kernel
theorem d_X_wipe_16 : decode b_X_wipe 16 = .ok (.aload_n 0, 1) := by decide +kernel
theorem d_X_wipe_17 : decode b_X_wipe 17 = .ok (.dup, 1) := by decide +kernel
theorem d_X_wipe_18 : decode b_X_wipe 18 = .ok (.getfield 64, 3) := by decide +kernel
theorem d_X_wipe_21 : decode b_X_wipe 21 = .ok (.iconst 1, 1) := by decide +kernel
theorem d_X_wipe_22 : decode b_X_wipe 22 = .ok (.iadd, 1) := by decide +kernel
theorem d_X_wipe_23 : decode b_X_wipe 23 = .ok (.putfield 64, 3) := by decide +kernel
theorem d_X_wipe_26 : decode b_X_wipe 26 = .ok (.iload_n 1, 1) := by decide +kernel
theorem d_X_wipe_27 : decode b_X_wipe 27 = .ok (.ireturn, 1) := by decide +kernel
noncomputable def X_wipe (S : St) : Option (Int32 × St) :=
  some (S 25 1, up (up S 25 1 0) 0 9 (((up S 25 1 0) 0 9) + 1))
set_option maxHeartbeats 4000000 in
set_option maxRecDepth 100000 in
theorem c_X_wipe (l : Launch) (w : gw) (S : St)   {z : Int32 × St} (h : (X_wipe S) = some z) : gMi l w y_X_wipe b_X_wipe 2 (some .int) (rmm 0 0) [.ref (gad w 0)] S z.1 z.2 := by
  unfold X_wipe at h
  refine g_met (Qc := gQi w z.1 z.2) (by decide +kernel) (Nat.le_of_ble_eq_true rfl) ?_
  intro p e s m args below meth c A Q ls hQ C hG hl
  have hx := C.1
  have hb := C.2.1
  have hl : lv_has ls 2 [(0, .ref (gad w 0))] := hl
  refine lv_aload_n hx hb d_X_wipe_0 rfl (lv_at hl 0 rfl) ?_
  refine g_get C hG (hG.lt (Nat.le_of_ble_eq_true rfl)) (ce0 w _) rfl inC7 1 (Nat.le_of_ble_eq_true rfl) qw200 rfl d_X_wipe_1 ?_
  refine g_get C hG (hG.lt (Nat.le_of_ble_eq_true rfl)) (ce25 w _) rfl inC0 1 (Nat.le_of_ble_eq_true rfl) qw78 rfl d_X_wipe_4 ?_
  refine lv_istore_n (lv' := [(1, .int (S 25 1)), (0, .ref (gad w 0))]) hx hb d_X_wipe_7 rfl hl (by decide) rfl (fun ls hl => ?_)
  refine lv_aload_n hx hb d_X_wipe_8 rfl (lv_at hl 1 rfl) ?_
  refine g_get C hG (hG.lt (Nat.le_of_ble_eq_true rfl)) (ce0 w _) rfl inC7 1 (Nat.le_of_ble_eq_true rfl) qw200 rfl d_X_wipe_9 ?_
  refine lv_iconst (v := 0) hx hb d_X_wipe_12 (by decide) ?_
  refine g_put (x := 0) C hG (hG.lt (Nat.le_of_ble_eq_true rfl)) (ce25 w _) rfl inC0 okC0 nmC0 1 (Nat.le_of_ble_eq_true rfl) qw78 rfl rfl rfl (Nat.le_of_ble_eq_true rfl) rfl d_X_wipe_13 (fun H locs hG => ?_)
  refine lv_aload_n hx hb d_X_wipe_16 rfl (lv_at hl 1 rfl) ?_
  refine lv_dup hx hb d_X_wipe_17 rfl ?_
  refine g_get C hG (hG.lt (Nat.le_of_ble_eq_true rfl)) (ce0 w _) rfl inC7 9 (Nat.le_of_ble_eq_true rfl) qw208 rfl d_X_wipe_18 ?_
  refine lv_iconst (v := 1) hx hb d_X_wipe_21 (by decide) ?_
  refine lv_iadd hx hb d_X_wipe_22 ?_
  refine g_put (x := ((up S 25 1 0) 0 9) + 1) C hG (hG.lt (Nat.le_of_ble_eq_true rfl)) (ce0 w _) rfl inC7 okC7 nmC7 9 (Nat.le_of_ble_eq_true rfl) qw208 rfl rfl rfl (Nat.le_of_ble_eq_true rfl) rfl d_X_wipe_23 (fun H locs hG => ?_)
  refine lv_iload_n hx hb d_X_wipe_26 rfl (lv_at hl 0 rfl) ?_
  exact g_iret C hG (sm_fst h) (sm_snd h) hQ d_X_wipe_27
theorem d_X_within_0 : decode b_X_within 0 = .ok (.iload_n 0, 1) := by decide +kernel
theorem d_X_within_1 : decode b_X_within 1 = .ok (.iload_n 1, 1) := by decide +kernel
theorem d_X_within_2 : decode b_X_within 2 = .ok (.if_icmp .lt 12, 3) := by decide +kernel
theorem d_X_within_5 : decode b_X_within 5 = .ok (.iload_n 0, 1) := by decide +kernel
theorem d_X_within_6 : decode b_X_within 6 = .ok (.iload_n 2, 1) := by decide +kernel
theorem d_X_within_7 : decode b_X_within 7 = .ok (.if_icmp .gt 7, 3) := by decide +kernel
theorem d_X_within_10 : decode b_X_within 10 = .ok (.iconst 1, 1) := by decide +kernel
theorem d_X_within_11 : decode b_X_within 11 = .ok (.goto 4, 3) := by decide +kernel
theorem d_X_within_14 : decode b_X_within 14 = .ok (.iconst 0, 1) := by decide +kernel
theorem d_X_within_15 : decode b_X_within 15 = .ok (.ireturn, 1) := by decide +kernel
noncomputable def X_within (x0 : Int32) (x1 : Int32) (x2 : Int32) : Int32 :=
  if x0 < x1 then
      0
    else
      if x2 < x0 then
        0
      else
        1
set_option maxHeartbeats 4000000 in
set_option maxRecDepth 100000 in
theorem c_X_within (l : Launch) (w : gw) (S : St) (x0 : Int32) (x1 : Int32) (x2 : Int32)   : gMi l w y_X_within b_X_within 3 (some .boolean) (rmm 0 0) [.int x0, .int x1, .int x2] S (X_within x0 x1 x2) S := by
  generalize h : X_within x0 x1 x2 = z
  unfold X_within at h
  refine g_met (Qc := gQi w z S) (by decide +kernel) (Nat.le_of_ble_eq_true rfl) ?_
  intro p e s m args below meth c A Q ls hQ C hG hl
  have hx := C.1
  have hb := C.2.1
  have hl : lv_has ls 3 [(0, .int x0), (1, .int x1), (2, .int x2)] := hl
  refine lv_iload_n hx hb d_X_within_0 rfl (lv_at hl 0 rfl) ?_
  refine lv_iload_n hx hb d_X_within_1 rfl (lv_at hl 1 rfl) ?_
  refine lv_icmp_lt (tgt := 14) hx hb d_X_within_2 (by decide) (fun hc => ?_) (fun hc => ?_)
  · replace h := it_t h hc
    refine lv_iconst (v := 0) hx hb d_X_within_14 (by decide) ?_
    exact g_zret C hG (Or.inl rfl) h rfl hQ d_X_within_15
  · replace h := it_f h hc
    refine lv_iload_n hx hb d_X_within_5 rfl (lv_at hl 0 rfl) ?_
    refine lv_iload_n hx hb d_X_within_6 rfl (lv_at hl 2 rfl) ?_
    refine lv_icmp_gt (tgt := 14) hx hb d_X_within_7 (by decide) (fun hc => ?_) (fun hc => ?_)
    · replace h := it_t h hc
      refine lv_iconst (v := 0) hx hb d_X_within_14 (by decide) ?_
      exact g_zret C hG (Or.inl rfl) h rfl hQ d_X_within_15
    · replace h := it_f h hc
      refine lv_iconst (v := 1) hx hb d_X_within_10 (by decide) ?_
      refine lv_goto (tgt := 15) hx hb d_X_within_11 (by decide) ?_
      exact g_zret C hG (Or.inr rfl) h rfl hQ d_X_within_15
theorem bz_X_within (x0 : Int32) (x1 : Int32) (x2 : Int32) : X_within x0 x1 x2 = 0 ∨ X_within x0 x1 x2 = 1 := by
  unfold X_within
  repeat' split
  all_goals first | exact Or.inl rfl | exact Or.inr rfl
theorem d_X_isBidder_0 : decode b_X_isBidder 0 = .ok (.iload_n 0, 1) := by decide +kernel
theorem d_X_isBidder_1 : decode b_X_isBidder 1 = .ok (.iconst 0, 1) := by decide +kernel
theorem d_X_isBidder_2 : decode b_X_isBidder 2 = .ok (.iconst 4, 1) := by decide +kernel
theorem d_X_isBidder_3 : decode b_X_isBidder 3 = .ok (.invokestatic 67, 3) := by decide +kernel
theorem d_X_isBidder_6 : decode b_X_isBidder 6 = .ok (.ireturn, 1) := by decide +kernel
noncomputable def X_isBidder (x0 : Int32) : Int32 :=
  X_within x0 0 4
set_option maxHeartbeats 4000000 in
set_option maxRecDepth 100000 in
theorem c_X_isBidder (l : Launch) (w : gw) (S : St) (x0 : Int32)   : gMi l w y_X_isBidder b_X_isBidder 1 (some .boolean) (rmm 1 22) [.int x0] S (X_isBidder x0) S := by
  generalize h : X_isBidder x0 = z
  unfold X_isBidder at h
  refine g_met (Qc := gQi w z S) (by decide +kernel) (Nat.le_of_ble_eq_true rfl) ?_
  intro p e s m args below meth c A Q ls hQ C hG hl
  have hx := C.1
  have hb := C.2.1
  have hl : lv_has ls 1 [(0, .int x0)] := hl
  refine lv_iload_n hx hb d_X_isBidder_0 rfl (lv_at hl 0 rfl) ?_
  refine lv_iconst (v := 0) hx hb d_X_isBidder_1 (by decide) ?_
  refine lv_iconst (v := 4) hx hb d_X_isBidder_2 (by decide) ?_
  refine g_goi hG (g_runS (As := [.int x0, .int 0, .int 4]) (rest := []) C hG (c_X_within l w S x0 0 4 _) sw_X_67 rfl rfl ⟨by decide, by decide⟩ rfl hl.1 rfl (Nat.le_of_ble_eq_true rfl) d_X_isBidder_3 ⟨Nat.zero_le _, Nat.zero_le _⟩) (fun H locs hG => ?_)
  exact g_zret C hG (bz_X_within x0 0 4) h rfl hQ d_X_isBidder_6
theorem bz_X_isBidder (x0 : Int32) : X_isBidder x0 = 0 ∨ X_isBidder x0 = 1 := by
  unfold X_isBidder
  repeat' split
  all_goals first | exact Or.inl rfl | exact Or.inr rfl | exact bz_X_within _ _ _ | exact bz_X_within _
theorem d_X_isEvening_0 : decode b_X_isEvening 0 = .ok (.iload_n 0, 1) := by decide +kernel
theorem d_X_isEvening_1 : decode b_X_isEvening 1 = .ok (.iconst 0, 1) := by decide +kernel
theorem d_X_isEvening_2 : decode b_X_isEvening 2 = .ok (.bipush 9, 2) := by decide +kernel
theorem d_X_isEvening_4 : decode b_X_isEvening 4 = .ok (.invokestatic 67, 3) := by decide +kernel
theorem d_X_isEvening_7 : decode b_X_isEvening 7 = .ok (.ireturn, 1) := by decide +kernel
noncomputable def X_isEvening (x0 : Int32) : Int32 :=
  X_within x0 0 9
set_option maxHeartbeats 4000000 in
set_option maxRecDepth 100000 in
theorem c_X_isEvening (l : Launch) (w : gw) (S : St) (x0 : Int32)   : gMi l w y_X_isEvening b_X_isEvening 1 (some .boolean) (rmm 1 22) [.int x0] S (X_isEvening x0) S := by
  generalize h : X_isEvening x0 = z
  unfold X_isEvening at h
  refine g_met (Qc := gQi w z S) (by decide +kernel) (Nat.le_of_ble_eq_true rfl) ?_
  intro p e s m args below meth c A Q ls hQ C hG hl
  have hx := C.1
  have hb := C.2.1
  have hl : lv_has ls 1 [(0, .int x0)] := hl
  refine lv_iload_n hx hb d_X_isEvening_0 rfl (lv_at hl 0 rfl) ?_
  refine lv_iconst (v := 0) hx hb d_X_isEvening_1 (by decide) ?_
  refine lv_bipush (v := 9) hx hb d_X_isEvening_2 (by decide) ?_
  refine g_goi hG (g_runS (As := [.int x0, .int 0, .int 9]) (rest := []) C hG (c_X_within l w S x0 0 9 _) sw_X_67 rfl rfl ⟨by decide, by decide⟩ rfl hl.1 rfl (Nat.le_of_ble_eq_true rfl) d_X_isEvening_4 ⟨Nat.zero_le _, Nat.zero_le _⟩) (fun H locs hG => ?_)
  exact g_zret C hG (bz_X_within x0 0 9) h rfl hQ d_X_isEvening_7
theorem bz_X_isEvening (x0 : Int32) : X_isEvening x0 = 0 ∨ X_isEvening x0 = 1 := by
  unfold X_isEvening
  repeat' split
  all_goals first | exact Or.inl rfl | exact Or.inr rfl | exact bz_X_within _ _ _ | exact bz_X_within _
theorem d_X_isProgramme_0 : decode b_X_isProgramme 0 = .ok (.iload_n 0, 1) := by decide +kernel
theorem d_X_isProgramme_1 : decode b_X_isProgramme 1 = .ok (.iconst 0, 1) := by decide +kernel
theorem d_X_isProgramme_2 : decode b_X_isProgramme 2 = .ok (.iconst 4, 1) := by decide +kernel
theorem d_X_isProgramme_3 : decode b_X_isProgramme 3 = .ok (.invokestatic 67, 3) := by decide +kernel
theorem d_X_isProgramme_6 : decode b_X_isProgramme 6 = .ok (.ireturn, 1) := by decide +kernel
noncomputable def X_isProgramme (x0 : Int32) : Int32 :=
  X_within x0 0 4
set_option maxHeartbeats 4000000 in
set_option maxRecDepth 100000 in
theorem c_X_isProgramme (l : Launch) (w : gw) (S : St) (x0 : Int32)   : gMi l w y_X_isProgramme b_X_isProgramme 1 (some .boolean) (rmm 1 22) [.int x0] S (X_isProgramme x0) S := by
  generalize h : X_isProgramme x0 = z
  unfold X_isProgramme at h
  refine g_met (Qc := gQi w z S) (by decide +kernel) (Nat.le_of_ble_eq_true rfl) ?_
  intro p e s m args below meth c A Q ls hQ C hG hl
  have hx := C.1
  have hb := C.2.1
  have hl : lv_has ls 1 [(0, .int x0)] := hl
  refine lv_iload_n hx hb d_X_isProgramme_0 rfl (lv_at hl 0 rfl) ?_
  refine lv_iconst (v := 0) hx hb d_X_isProgramme_1 (by decide) ?_
  refine lv_iconst (v := 4) hx hb d_X_isProgramme_2 (by decide) ?_
  refine g_goi hG (g_runS (As := [.int x0, .int 0, .int 4]) (rest := []) C hG (c_X_within l w S x0 0 4 _) sw_X_67 rfl rfl ⟨by decide, by decide⟩ rfl hl.1 rfl (Nat.le_of_ble_eq_true rfl) d_X_isProgramme_3 ⟨Nat.zero_le _, Nat.zero_le _⟩) (fun H locs hG => ?_)
  exact g_zret C hG (bz_X_within x0 0 4) h rfl hQ d_X_isProgramme_6
theorem bz_X_isProgramme (x0 : Int32) : X_isProgramme x0 = 0 ∨ X_isProgramme x0 = 1 := by
  unfold X_isProgramme
  repeat' split
  all_goals first | exact Or.inl rfl | exact Or.inr rfl | exact bz_X_within _ _ _ | exact bz_X_within _
theorem d_X_isValue_0 : decode b_X_isValue 0 = .ok (.iload_n 0, 1) := by decide +kernel
theorem d_X_isValue_1 : decode b_X_isValue 1 = .ok (.iconst 0, 1) := by decide +kernel
theorem d_X_isValue_2 : decode b_X_isValue 2 = .ok (.bipush 99, 2) := by decide +kernel
theorem d_X_isValue_4 : decode b_X_isValue 4 = .ok (.invokestatic 67, 3) := by decide +kernel
theorem d_X_isValue_7 : decode b_X_isValue 7 = .ok (.ireturn, 1) := by decide +kernel
noncomputable def X_isValue (x0 : Int32) : Int32 :=
  X_within x0 0 99
set_option maxHeartbeats 4000000 in
set_option maxRecDepth 100000 in
theorem c_X_isValue (l : Launch) (w : gw) (S : St) (x0 : Int32)   : gMi l w y_X_isValue b_X_isValue 1 (some .boolean) (rmm 1 22) [.int x0] S (X_isValue x0) S := by
  generalize h : X_isValue x0 = z
  unfold X_isValue at h
  refine g_met (Qc := gQi w z S) (by decide +kernel) (Nat.le_of_ble_eq_true rfl) ?_
  intro p e s m args below meth c A Q ls hQ C hG hl
  have hx := C.1
  have hb := C.2.1
  have hl : lv_has ls 1 [(0, .int x0)] := hl
  refine lv_iload_n hx hb d_X_isValue_0 rfl (lv_at hl 0 rfl) ?_
  refine lv_iconst (v := 0) hx hb d_X_isValue_1 (by decide) ?_
  refine lv_bipush (v := 99) hx hb d_X_isValue_2 (by decide) ?_
  refine g_goi hG (g_runS (As := [.int x0, .int 0, .int 99]) (rest := []) C hG (c_X_within l w S x0 0 99 _) sw_X_67 rfl rfl ⟨by decide, by decide⟩ rfl hl.1 rfl (Nat.le_of_ble_eq_true rfl) d_X_isValue_4 ⟨Nat.zero_le _, Nat.zero_le _⟩) (fun H locs hG => ?_)
  exact g_zret C hG (bz_X_within x0 0 99) h rfl hQ d_X_isValue_7
theorem bz_X_isValue (x0 : Int32) : X_isValue x0 = 0 ∨ X_isValue x0 = 1 := by
  unfold X_isValue
  repeat' split
  all_goals first | exact Or.inl rfl | exact Or.inr rfl | exact bz_X_within _ _ _ | exact bz_X_within _
theorem d_X_isSheet_0 : decode b_X_isSheet 0 = .ok (.iload_n 0, 1) := by decide +kernel
theorem d_X_isSheet_1 : decode b_X_isSheet 1 = .ok (.iconst 0, 1) := by decide +kernel
theorem d_X_isSheet_2 : decode b_X_isSheet 2 = .ok (.iconst 3, 1) := by decide +kernel
theorem d_X_isSheet_3 : decode b_X_isSheet 3 = .ok (.invokestatic 67, 3) := by decide +kernel
theorem d_X_isSheet_6 : decode b_X_isSheet 6 = .ok (.ireturn, 1) := by decide +kernel
noncomputable def X_isSheet (x0 : Int32) : Int32 :=
  X_within x0 0 3
set_option maxHeartbeats 4000000 in
set_option maxRecDepth 100000 in
theorem c_X_isSheet (l : Launch) (w : gw) (S : St) (x0 : Int32)   : gMi l w y_X_isSheet b_X_isSheet 1 (some .boolean) (rmm 1 22) [.int x0] S (X_isSheet x0) S := by
  generalize h : X_isSheet x0 = z
  unfold X_isSheet at h
  refine g_met (Qc := gQi w z S) (by decide +kernel) (Nat.le_of_ble_eq_true rfl) ?_
  intro p e s m args below meth c A Q ls hQ C hG hl
  have hx := C.1
  have hb := C.2.1
  have hl : lv_has ls 1 [(0, .int x0)] := hl
  refine lv_iload_n hx hb d_X_isSheet_0 rfl (lv_at hl 0 rfl) ?_
  refine lv_iconst (v := 0) hx hb d_X_isSheet_1 (by decide) ?_
  refine lv_iconst (v := 3) hx hb d_X_isSheet_2 (by decide) ?_
  refine g_goi hG (g_runS (As := [.int x0, .int 0, .int 3]) (rest := []) C hG (c_X_within l w S x0 0 3 _) sw_X_67 rfl rfl ⟨by decide, by decide⟩ rfl hl.1 rfl (Nat.le_of_ble_eq_true rfl) d_X_isSheet_3 ⟨Nat.zero_le _, Nat.zero_le _⟩) (fun H locs hG => ?_)
  exact g_zret C hG (bz_X_within x0 0 3) h rfl hQ d_X_isSheet_6
theorem bz_X_isSheet (x0 : Int32) : X_isSheet x0 = 0 ∨ X_isSheet x0 = 1 := by
  unfold X_isSheet
  repeat' split
  all_goals first | exact Or.inl rfl | exact Or.inr rfl | exact bz_X_within _ _ _ | exact bz_X_within _
theorem d_X_isForm_0 : decode b_X_isForm 0 = .ok (.iload_n 0, 1) := by decide +kernel
theorem d_X_isForm_1 : decode b_X_isForm 1 = .ok (.iconst 0, 1) := by decide +kernel
theorem d_X_isForm_2 : decode b_X_isForm 2 = .ok (.iconst 2, 1) := by decide +kernel
theorem d_X_isForm_3 : decode b_X_isForm 3 = .ok (.invokestatic 67, 3) := by decide +kernel
theorem d_X_isForm_6 : decode b_X_isForm 6 = .ok (.ireturn, 1) := by decide +kernel
noncomputable def X_isForm (x0 : Int32) : Int32 :=
  X_within x0 0 2
set_option maxHeartbeats 4000000 in
set_option maxRecDepth 100000 in
theorem c_X_isForm (l : Launch) (w : gw) (S : St) (x0 : Int32)   : gMi l w y_X_isForm b_X_isForm 1 (some .boolean) (rmm 1 22) [.int x0] S (X_isForm x0) S := by
  generalize h : X_isForm x0 = z
  unfold X_isForm at h
  refine g_met (Qc := gQi w z S) (by decide +kernel) (Nat.le_of_ble_eq_true rfl) ?_
  intro p e s m args below meth c A Q ls hQ C hG hl
  have hx := C.1
  have hb := C.2.1
  have hl : lv_has ls 1 [(0, .int x0)] := hl
  refine lv_iload_n hx hb d_X_isForm_0 rfl (lv_at hl 0 rfl) ?_
  refine lv_iconst (v := 0) hx hb d_X_isForm_1 (by decide) ?_
  refine lv_iconst (v := 2) hx hb d_X_isForm_2 (by decide) ?_
  refine g_goi hG (g_runS (As := [.int x0, .int 0, .int 2]) (rest := []) C hG (c_X_within l w S x0 0 2 _) sw_X_67 rfl rfl ⟨by decide, by decide⟩ rfl hl.1 rfl (Nat.le_of_ble_eq_true rfl) d_X_isForm_3 ⟨Nat.zero_le _, Nat.zero_le _⟩) (fun H locs hG => ?_)
  exact g_zret C hG (bz_X_within x0 0 2) h rfl hQ d_X_isForm_6
theorem bz_X_isForm (x0 : Int32) : X_isForm x0 = 0 ∨ X_isForm x0 = 1 := by
  unfold X_isForm
  repeat' split
  all_goals first | exact Or.inl rfl | exact Or.inr rfl | exact bz_X_within _ _ _ | exact bz_X_within _
theorem d_X_replace_0 : decode b_X_replace 0 = .ok (.aload_n 1, 1) := by decide +kernel
theorem d_X_replace_1 : decode b_X_replace 1 = .ok (.iload_n 2, 1) := by decide +kernel
theorem d_X_replace_2 : decode b_X_replace 2 = .ok (.iaload, 1) := by decide +kernel
theorem d_X_replace_3 : decode b_X_replace 3 = .ok (.istore 4, 2) := by decide +kernel
theorem d_X_replace_5 : decode b_X_replace 5 = .ok (.aload_n 1, 1) := by decide +kernel
theorem d_X_replace_6 : decode b_X_replace 6 = .ok (.iload_n 2, 1) := by decide +kernel
theorem d_X_replace_7 : decode b_X_replace 7 = .ok (.iload_n 3, 1) := by decide +kernel
theorem d_X_replace_8 : decode b_X_replace 8 = .ok (.iastore, 1) := by decide +kernel
theorem d_X_replace_9 : decode b_X_replace 9 = .ok (.aload_n 0, 1) := by decide +kernel
theorem d_X_replace_10 : decode b_X_replace 10 = .ok (.dup, 1) := by decide +kernel
theorem d_X_replace_11 : decode b_X_replace 11 = .ok (.getfield 64, 3) := by decide +kernel
theorem d_X_replace_14 : decode b_X_replace 14 = .ok (.iconst 1, 1) := by decide +kernel
theorem d_X_replace_15 : decode b_X_replace 15 = .ok (.iadd, 1) := by decide +kernel
theorem d_X_replace_16 : decode b_X_replace 16 = .ok (.putfield 64, 3) := by decide +kernel
theorem d_X_replace_19 : decode b_X_replace 19 = .ok (.iload 4, 2) := by decide +kernel
theorem d_X_replace_21 : decode b_X_replace 21 = .ok (.ireturn, 1) := by decide +kernel
noncomputable def X_replace (S : St) (k1 : Nat) (n1 : Nat) (x2 : Int32) (x3 : Int32) : Option (Int32 × St) :=
  chk (inb x2 n1) <|
    chk (inb x2 n1) <|
    some (S k1 (ix x2), up (up S k1 (ix x2) x3) 0 9 (((up S k1 (ix x2) x3) 0 9) + 1))
set_option maxHeartbeats 4000000 in
set_option maxRecDepth 100000 in
theorem c_X_replace (l : Launch) (w : gw) (S : St) (k1 : Nat) (n1 : Nat) (x2 : Int32) (x3 : Int32) (hk1 : arF w k1 n1) {z : Int32 × St} (h : (X_replace S k1 n1 x2 x3) = some z) : gMi l w y_X_replace b_X_replace 5 (some .int) (rmm 0 0) [.ref (gad w 0), .ref (gad w k1), .int x2, .int x3] S z.1 z.2 := by
  unfold X_replace at h
  refine g_met (Qc := gQi w z.1 z.2) (by decide +kernel) (Nat.le_of_ble_eq_true rfl) ?_
  intro p e s m args below meth c A Q ls hQ C hG hl
  have hx := C.1
  have hb := C.2.1
  have hl : lv_has ls 5 [(0, .ref (gad w 0)), (1, .ref (gad w k1)), (2, .int x2), (3, .int x3)] := hl
  refine lv_aload_n hx hb d_X_replace_0 rfl (lv_at hl 1 rfl) ?_
  refine lv_iload_n hx hb d_X_replace_1 rfl (lv_at hl 2 rfl) ?_
  obtain ⟨hi1, h⟩ := chk_some h
  refine g_iald (j := ix x2) C hG hk1.1 (hk1.2 _) (inb_in hi1) rfl d_X_replace_2 ?_
  refine lv_istore (lv' := [(4, .int (S k1 (ix x2))), (0, .ref (gad w 0)), (1, .ref (gad w k1)), (2, .int x2), (3, .int x3)]) hx hb d_X_replace_3 hl (by decide) rfl (fun ls hl => ?_)
  refine lv_aload_n hx hb d_X_replace_5 rfl (lv_at hl 2 rfl) ?_
  refine lv_iload_n hx hb d_X_replace_6 rfl (lv_at hl 3 rfl) ?_
  refine lv_iload_n hx hb d_X_replace_7 rfl (lv_at hl 4 rfl) ?_
  obtain ⟨hi2, h⟩ := chk_some h
  refine g_iast (j := ix x2) (x := x3) C hG hk1.1 hk1.2 (inb_in hi2) rfl d_X_replace_8 (fun H locs hG => ?_)
  refine lv_aload_n hx hb d_X_replace_9 rfl (lv_at hl 1 rfl) ?_
  refine lv_dup hx hb d_X_replace_10 rfl ?_
  refine g_get C hG (hG.lt (Nat.le_of_ble_eq_true rfl)) (ce0 w _) rfl inC7 9 (Nat.le_of_ble_eq_true rfl) qw208 rfl d_X_replace_11 ?_
  refine lv_iconst (v := 1) hx hb d_X_replace_14 (by decide) ?_
  refine lv_iadd hx hb d_X_replace_15 ?_
  refine g_put (x := ((up S k1 (ix x2) x3) 0 9) + 1) C hG (hG.lt (Nat.le_of_ble_eq_true rfl)) (ce0 w _) rfl inC7 okC7 nmC7 9 (Nat.le_of_ble_eq_true rfl) qw208 rfl rfl rfl (Nat.le_of_ble_eq_true rfl) rfl d_X_replace_16 (fun H locs hG => ?_)
  refine lv_iload hx hb d_X_replace_19 (lv_at hl 0 rfl) ?_
  exact g_iret C hG (sm_fst h) (sm_snd h) hQ d_X_replace_21
theorem d_X_finding_0 : decode b_X_finding 0 = .ok (.aload_n 0, 1) := by decide +kernel
theorem d_X_finding_1 : decode b_X_finding 1 = .ok (.iload_n 1, 1) := by decide +kernel
theorem d_X_finding_2 : decode b_X_finding 2 = .ok (.putfield 60, 3) := by decide +kernel
theorem d_X_finding_5 : decode b_X_finding 5 = .ok (.bipush (-10), 2) := by decide +kernel
theorem d_X_finding_7 : decode b_X_finding 7 = .ok (.iload_n 1, 1) := by decide +kernel
theorem d_X_finding_8 : decode b_X_finding 8 = .ok (.isub, 1) := by decide +kernel
theorem d_X_finding_9 : decode b_X_finding 9 = .ok (.ireturn, 1) := by decide +kernel
noncomputable def X_finding (S : St) (x1 : Int32) : Option (Int32 × St) :=
  some ((-10) - x1, up S 0 8 x1)
set_option maxHeartbeats 4000000 in
set_option maxRecDepth 100000 in
theorem c_X_finding (l : Launch) (w : gw) (S : St) (x1 : Int32)  {z : Int32 × St} (h : (X_finding S x1) = some z) : gMi l w y_X_finding b_X_finding 2 (some .int) (rmm 0 0) [.ref (gad w 0), .int x1] S z.1 z.2 := by
  unfold X_finding at h
  refine g_met (Qc := gQi w z.1 z.2) (by decide +kernel) (Nat.le_of_ble_eq_true rfl) ?_
  intro p e s m args below meth c A Q ls hQ C hG hl
  have hx := C.1
  have hb := C.2.1
  have hl : lv_has ls 2 [(0, .ref (gad w 0)), (1, .int x1)] := hl
  refine lv_aload_n hx hb d_X_finding_0 rfl (lv_at hl 0 rfl) ?_
  refine lv_iload_n hx hb d_X_finding_1 rfl (lv_at hl 1 rfl) ?_
  refine g_put (x := x1) C hG (hG.lt (Nat.le_of_ble_eq_true rfl)) (ce0 w _) rfl inC7 okC7 nmC7 8 (Nat.le_of_ble_eq_true rfl) qw207 rfl rfl rfl (Nat.le_of_ble_eq_true rfl) rfl d_X_finding_2 (fun H locs hG => ?_)
  refine lv_bipush (v := (-10)) hx hb d_X_finding_5 (by decide) ?_
  refine lv_iload_n hx hb d_X_finding_7 rfl (lv_at hl 1 rfl) ?_
  refine lv_isub hx hb d_X_finding_8 ?_
  exact g_iret C hG (sm_fst h) (sm_snd h) hQ d_X_finding_9
theorem d_X_greatestDivisor_0 : decode b_X_greatestDivisor 0 = .ok (.iload_n 0, 1) := by decide +kernel
theorem d_X_greatestDivisor_1 : decode b_X_greatestDivisor 1 = .ok (.istore_n 2, 1) := by decide +kernel
theorem d_X_greatestDivisor_2 : decode b_X_greatestDivisor 2 = .ok (.iload_n 1, 1) := by decide +kernel
theorem d_X_greatestDivisor_3 : decode b_X_greatestDivisor 3 = .ok (.istore_n 3, 1) := by decide +kernel
theorem d_X_greatestDivisor_4 : decode b_X_greatestDivisor 4 = .ok (.iconst 0, 1) := by decide +kernel
theorem d_X_greatestDivisor_5 : decode b_X_greatestDivisor 5 = .ok (.istore 4, 2) := by decide +kernel
theorem d_X_greatestDivisor_7 : decode b_X_greatestDivisor 7 = .ok (.iload 4, 2) := by decide +kernel
theorem d_X_greatestDivisor_9 : decode b_X_greatestDivisor 9 = .ok (.bipush 64, 2) := by decide +kernel
theorem d_X_greatestDivisor_11 : decode b_X_greatestDivisor 11 = .ok (.if_icmp .ge 23, 3) := by decide +kernel
theorem d_X_greatestDivisor_14 : decode b_X_greatestDivisor 14 = .ok (.iload_n 3, 1) := by decide +kernel
theorem d_X_greatestDivisor_15 : decode b_X_greatestDivisor 15 = .ok (.ifCond .le 19, 3) := by decide +kernel
theorem d_X_greatestDivisor_18 : decode b_X_greatestDivisor 18 = .ok (.iload_n 2, 1) := by decide +kernel
theorem d_X_greatestDivisor_19 : decode b_X_greatestDivisor 19 = .ok (.iload_n 3, 1) := by decide +kernel
theorem d_X_greatestDivisor_20 : decode b_X_greatestDivisor 20 = .ok (.irem, 1) := by decide +kernel
theorem d_X_greatestDivisor_21 : decode b_X_greatestDivisor 21 = .ok (.istore 5, 2) := by decide +kernel
theorem d_X_greatestDivisor_23 : decode b_X_greatestDivisor 23 = .ok (.iload_n 3, 1) := by decide +kernel
theorem d_X_greatestDivisor_24 : decode b_X_greatestDivisor 24 = .ok (.istore_n 2, 1) := by decide +kernel
theorem d_X_greatestDivisor_25 : decode b_X_greatestDivisor 25 = .ok (.iload 5, 2) := by decide +kernel
theorem d_X_greatestDivisor_27 : decode b_X_greatestDivisor 27 = .ok (.istore_n 3, 1) := by decide +kernel
theorem d_X_greatestDivisor_28 : decode b_X_greatestDivisor 28 = .ok (.iinc 4 1, 3) := by decide +kernel
theorem d_X_greatestDivisor_31 : decode b_X_greatestDivisor 31 = .ok (.goto (-24), 3) := by decide +kernel
theorem d_X_greatestDivisor_34 : decode b_X_greatestDivisor 34 = .ok (.iload_n 2, 1) := by decide +kernel
theorem d_X_greatestDivisor_35 : decode b_X_greatestDivisor 35 = .ok (.iconst 1, 1) := by decide +kernel
theorem d_X_greatestDivisor_36 : decode b_X_greatestDivisor 36 = .ok (.invokestatic 186, 3) := by decide +kernel
theorem d_X_greatestDivisor_39 : decode b_X_greatestDivisor 39 = .ok (.ireturn, 1) := by decide +kernel
noncomputable def X_greatestDivisor_L7 (x2 : Int32) (x3 : Int32) (x4 : Int32) : Option ((Int32 × Int32 × Int32) × Nat) :=
  if 64 ≤ x4 then
      some ((x2, x3, x4), 1)
    else
      if x3 ≤ 0 then
        some ((x2, x3, x4), 1)
      else
        chk (nz32 x3) <|
        some ((x3, x2 - x2 / x3 * x3, x4 + 1), 0)
noncomputable def X_greatestDivisor_J34 (x2 : Int32) : Option (Int32) :=
  some (mx x2 1)
noncomputable def X_greatestDivisor (x0 : Int32) (x1 : Int32) : Option (Int32) :=
  bnd (lp (σ := Int32 × Int32 × Int32) (fun q => X_greatestDivisor_L7 q.1 q.2.1 q.2.2) FZ (x0, x1, 0)) fun z1 =>
    X_greatestDivisor_J34 z1.1.1
set_option maxHeartbeats 4000000 in
set_option maxRecDepth 100000 in
theorem L_X_greatestDivisor_7 (C : gCx p s m args meth c y_X_greatestDivisor.cls b_X_greatestDivisor 6 (some .int)) : ∀ (n : Nat) (x2 : Int32) (x3 : Int32) (x4 : Int32) (r : (Int32 × Int32 × Int32) × Nat), lp (σ := Int32 × Int32 × Int32) (fun q => X_greatestDivisor_L7 q.1 q.2.1 q.2.2) n (x2, x3, x4) = some r → (∀ (y2 : Int32) (y3 : Int32) (y4 : Int32), r = ((y2, y3, y4), 1) → ∀ (ls : Array Slot) (H : Heap) (locs : List Loc), GH w s A S H locs → lv_has ls 6 [(2, .int y2)] → W p l e (rmm 1 21) s m args below meth c H locs 0 0 Q (F0 m 34 ls [])) → ∀ (ls : Array Slot) (H : Heap) (locs : List Loc), GH w s A S H locs → lv_has ls 6 [(2, .int x2), (3, .int x3), (4, .int x4)] → W p l e (rmm 1 21) s m args below meth c H locs 0 0 Q (F0 m 7 ls []) := by
  have hx := C.1
  have hb := C.2.1
  intro n
  induction n with
  | zero => intro x2 x3 x4 r h; cases h
  | succ n ih =>
    intro x2 x3 x4 r h k1 ls H locs hG hl
    obtain ⟨z, h, hr⟩ := lp_succ h
    have h : X_greatestDivisor_L7 x2 x3 x4 = some z := h
    unfold X_greatestDivisor_L7 at h
    refine lv_iload hx hb d_X_greatestDivisor_7 (lv_at hl 2 rfl) ?_
    refine lv_bipush (v := 64) hx hb d_X_greatestDivisor_9 (by decide) ?_
    refine lv_icmp_ge (tgt := 34) hx hb d_X_greatestDivisor_11 (by decide) (fun hc => ?_) (fun hc => ?_)
    · replace h := it_t h hc
      exact k1 _ _ _ (lp_exit h hr) ls _ _ hG (lv_sub hl [0] rfl)
    · replace h := it_f h hc
      refine lv_iload_n hx hb d_X_greatestDivisor_14 rfl (lv_at hl 1 rfl) ?_
      refine lv_if_le (tgt := 34) hx hb d_X_greatestDivisor_15 (by decide) (fun hc => ?_) (fun hc => ?_)
      · replace h := it_t h hc
        exact k1 _ _ _ (lp_exit h hr) ls _ _ hG (lv_sub hl [0] rfl)
      · replace h := it_f h hc
        refine lv_iload_n hx hb d_X_greatestDivisor_18 rfl (lv_at hl 0 rfl) ?_
        refine lv_iload_n hx hb d_X_greatestDivisor_19 rfl (lv_at hl 1 rfl) ?_
        obtain ⟨hi1, h⟩ := chk_some h
        refine lv_irem hx hb d_X_greatestDivisor_20 (nz32_in hi1) ?_
        refine lv_istore (lv' := [(5, .int (x2 - x2 / x3 * x3)), (2, .int x2), (3, .int x3), (4, .int x4)]) hx hb d_X_greatestDivisor_21 hl (by decide) rfl (fun ls hl => ?_)
        refine lv_iload_n hx hb d_X_greatestDivisor_23 rfl (lv_at hl 2 rfl) ?_
        refine lv_istore_n (lv' := [(2, .int x3), (5, .int (x2 - x2 / x3 * x3)), (3, .int x3), (4, .int x4)]) hx hb d_X_greatestDivisor_24 rfl hl (by decide) rfl (fun ls hl => ?_)
        refine lv_iload hx hb d_X_greatestDivisor_25 (lv_at hl 1 rfl) ?_
        refine lv_istore_n (lv' := [(3, .int (x2 - x2 / x3 * x3)), (2, .int x3), (5, .int (x2 - x2 / x3 * x3)), (4, .int x4)]) hx hb d_X_greatestDivisor_27 rfl hl (by decide) rfl (fun ls hl => ?_)
        refine lv_iinc (v := x4 + 1) (lv' := [(4, .int (x4 + 1)), (3, .int (x2 - x2 / x3 * x3)), (2, .int x3), (5, .int (x2 - x2 / x3 * x3))]) hx hb d_X_greatestDivisor_28 hl (k := 3) rfl (congrArg (HAdd.hAdd x4) (by decide : Int32.ofInt 1 = 1)) (by decide) rfl (fun ls hl => ?_)
        refine lv_goto (tgt := 7) hx hb d_X_greatestDivisor_31 (by decide) ?_
        exact ih _ _ _ _ (lp_back h hr) k1 ls _ _ hG (lv_sub hl [2, 1, 0] rfl)
set_option maxHeartbeats 4000000 in
set_option maxRecDepth 100000 in
theorem c_X_greatestDivisor (l : Launch) (w : gw) (S : St) (x0 : Int32) (x1 : Int32)  {z : Int32} (h : (X_greatestDivisor x0 x1) = some z) : gMi l w y_X_greatestDivisor b_X_greatestDivisor 6 (some .int) (rmm 1 21) [.int x0, .int x1] S z S := by
  unfold X_greatestDivisor at h
  refine g_met (Qc := gQi w z S) (by decide +kernel) (Nat.le_of_ble_eq_true rfl) ?_
  intro p e s m args below meth c A Q ls hQ C hG hl
  have hx := C.1
  have hb := C.2.1
  have hl : lv_has ls 6 [(0, .int x0), (1, .int x1)] := hl
  have J34 : ∀ (x2 : Int32), X_greatestDivisor_J34 x2 = some z → ∀ (ls : Array Slot) (H : Heap) (locs : List Loc), GH w s A S H locs → lv_has ls 6 [(2, .int x2)] → W p l e (rmm 1 21) s m args below meth c H locs 0 0 Q (F0 m 34 ls []) := by
    intro x2 h ls H locs hG hl
    unfold X_greatestDivisor_J34 at h
    refine lv_iload_n hx hb d_X_greatestDivisor_34 rfl (lv_at hl 0 rfl) ?_
    refine lv_iconst (v := 1) hx hb d_X_greatestDivisor_35 (by decide) ?_
    refine g_max C hl.1 qw414 ⟨by decide, by decide⟩ (Nat.le_of_ble_eq_true rfl) ⟨Nat.zero_le _, Nat.zero_le _⟩ d_X_greatestDivisor_36 ?_
    exact g_iret C hG (Option.some.inj h) rfl hQ d_X_greatestDivisor_39
  refine lv_iload_n hx hb d_X_greatestDivisor_0 rfl (lv_at hl 0 rfl) ?_
  refine lv_istore_n (lv' := [(2, .int x0), (0, .int x0), (1, .int x1)]) hx hb d_X_greatestDivisor_1 rfl hl (by decide) rfl (fun ls hl => ?_)
  refine lv_iload_n hx hb d_X_greatestDivisor_2 rfl (lv_at hl 2 rfl) ?_
  refine lv_istore_n (lv' := [(3, .int x1), (2, .int x0), (0, .int x0), (1, .int x1)]) hx hb d_X_greatestDivisor_3 rfl hl (by decide) rfl (fun ls hl => ?_)
  refine lv_iconst (v := 0) hx hb d_X_greatestDivisor_4 (by decide) ?_
  refine lv_istore (lv' := [(4, .int 0), (3, .int x1), (2, .int x0), (0, .int x0), (1, .int x1)]) hx hb d_X_greatestDivisor_5 hl (by decide) rfl (fun ls hl => ?_)
  obtain ⟨z1, hz1, h⟩ := bnd_some h
  refine L_X_greatestDivisor_7 C FZ _ _ _ _ hz1 ?_ ls _ _ hG (lv_sub hl [2, 1, 0] rfl)
  intro y2 y3 y4 e9 ls H locs hG hl
  subst e9
  exact J34 _ h ls _ _ hG (lv_sub hl [0] rfl)
theorem d_BT_append_0 : decode b_BT_append 0 = .ok (.aload_n 0, 1) := by decide +kernel
theorem d_BT_append_1 : decode b_BT_append 1 = .ok (.getfield 9, 3) := by decide +kernel
theorem d_BT_append_4 : decode b_BT_append 4 = .ok (.aload_n 0, 1) := by decide +kernel
theorem d_BT_append_5 : decode b_BT_append 5 = .ok (.getfield 15, 3) := by decide +kernel
theorem d_BT_append_8 : decode b_BT_append 8 = .ok (.iload_n 1, 1) := by decide +kernel
theorem d_BT_append_9 : decode b_BT_append 9 = .ok (.iastore, 1) := by decide +kernel
theorem d_BT_append_10 : decode b_BT_append 10 = .ok (.aload_n 0, 1) := by decide +kernel
theorem d_BT_append_11 : decode b_BT_append 11 = .ok (.dup, 1) := by decide +kernel
theorem d_BT_append_12 : decode b_BT_append 12 = .ok (.getfield 15, 3) := by decide +kernel
theorem d_BT_append_15 : decode b_BT_append 15 = .ok (.iconst 1, 1) := by decide +kernel
theorem d_BT_append_16 : decode b_BT_append 16 = .ok (.iadd, 1) := by decide +kernel
theorem d_BT_append_17 : decode b_BT_append 17 = .ok (.putfield 15, 3) := by decide +kernel
theorem d_BT_append_20 : decode b_BT_append 20 = .ok (.return_, 1) := by decide +kernel
noncomputable def BT_append (S : St) (x1 : Int32) : Option (St) :=
  chk (inb (S 25 1) 100) <|
    some (up (up S 26 (ix (S 25 1)) x1) 25 1 (((up S 26 (ix (S 25 1)) x1) 25 1) + 1))
set_option maxHeartbeats 4000000 in
set_option maxRecDepth 100000 in
theorem c_BT_append (l : Launch) (w : gw) (S : St) (x1 : Int32)  {z : St} (h : (BT_append S x1) = some z) : gMv l w y_BT_append b_BT_append 2 none (rmm 0 0) [.ref (gad w 25), .int x1] S z := by
  unfold BT_append at h
  refine g_met (Qc := gQv w z) (by decide +kernel) (Nat.le_of_ble_eq_true rfl) ?_
  intro p e s m args below meth c A Q ls hQ C hG hl
  have hx := C.1
  have hb := C.2.1
  have hl : lv_has ls 2 [(0, .ref (gad w 25)), (1, .int x1)] := hl
  refine lv_aload_n hx hb d_BT_append_0 rfl (lv_at hl 0 rfl) ?_
  refine g_get C hG (hG.lt (Nat.le_of_ble_eq_true rfl)) (ce25 w _) rfl inC0 0 (Nat.le_of_ble_eq_true rfl) qw76 rfl d_BT_append_1 ?_
  refine lv_aload_n hx hb d_BT_append_4 rfl (lv_at hl 0 rfl) ?_
  refine g_get C hG (hG.lt (Nat.le_of_ble_eq_true rfl)) (ce25 w _) rfl inC0 1 (Nat.le_of_ble_eq_true rfl) qw77 rfl d_BT_append_5 ?_
  refine lv_iload_n hx hb d_BT_append_8 rfl (lv_at hl 1 rfl) ?_
  obtain ⟨hi1, h⟩ := chk_some h
  refine g_iast (j := ix (S 25 1)) (x := x1) C hG (hG.lt (Nat.le_of_ble_eq_true rfl)) (ce26 w) (inb_in hi1) rfl d_BT_append_9 (fun H locs hG => ?_)
  refine lv_aload_n hx hb d_BT_append_10 rfl (lv_at hl 0 rfl) ?_
  refine lv_dup hx hb d_BT_append_11 rfl ?_
  refine g_get C hG (hG.lt (Nat.le_of_ble_eq_true rfl)) (ce25 w _) rfl inC0 1 (Nat.le_of_ble_eq_true rfl) qw77 rfl d_BT_append_12 ?_
  refine lv_iconst (v := 1) hx hb d_BT_append_15 (by decide) ?_
  refine lv_iadd hx hb d_BT_append_16 ?_
  refine g_put (x := ((up S 26 (ix (S 25 1)) x1) 25 1) + 1) C hG (hG.lt (Nat.le_of_ble_eq_true rfl)) (ce25 w _) rfl inC0 okC0 nmC0 1 (Nat.le_of_ble_eq_true rfl) qw77 rfl rfl rfl (Nat.le_of_ble_eq_true rfl) rfl d_BT_append_17 (fun H locs hG => ?_)
  exact g_vret C hG (Option.some.inj h) hQ d_BT_append_20
theorem d_BT_keep_0 : decode b_BT_keep 0 = .ok (.aload_n 0, 1) := by decide +kernel
theorem d_BT_keep_1 : decode b_BT_keep 1 = .ok (.iload_n 1, 1) := by decide +kernel
theorem d_BT_keep_2 : decode b_BT_keep 2 = .ok (.ifCond .ne 7, 3) := by decide +kernel
theorem d_BT_keep_5 : decode b_BT_keep 5 = .ok (.iconst 0, 1) := by decide +kernel
theorem d_BT_keep_6 : decode b_BT_keep 6 = .ok (.goto 8, 3) := by decide +kernel
theorem d_BT_keep_9 : decode b_BT_keep 9 = .ok (.iload_n 1, 1) := by decide +kernel
theorem d_BT_keep_10 : decode b_BT_keep 10 = .ok (.iconst 5, 1) := by decide +kernel
theorem d_BT_keep_11 : decode b_BT_keep 11 = .ok (.imul, 1) := by decide +kernel
theorem d_BT_keep_12 : decode b_BT_keep 12 = .ok (.iconst 1, 1) := by decide +kernel
theorem d_BT_keep_13 : decode b_BT_keep 13 = .ok (.isub, 1) := by decide +kernel
theorem d_BT_keep_14 : decode b_BT_keep 14 = .ok (.putfield 15, 3) := by decide +kernel
theorem d_BT_keep_17 : decode b_BT_keep 17 = .ok (.return_, 1) := by decide +kernel
noncomputable def BT_keep (S : St) (x1 : Int32) : Option (St) :=
  if x1 = 0 then
      some (up S 25 1 0)
    else
      some (up S 25 1 ((x1 * 5) - 1))
set_option maxHeartbeats 4000000 in
set_option maxRecDepth 100000 in
theorem c_BT_keep (l : Launch) (w : gw) (S : St) (x1 : Int32)  {z : St} (h : (BT_keep S x1) = some z) : gMv l w y_BT_keep b_BT_keep 2 none (rmm 0 0) [.ref (gad w 25), .int x1] S z := by
  unfold BT_keep at h
  refine g_met (Qc := gQv w z) (by decide +kernel) (Nat.le_of_ble_eq_true rfl) ?_
  intro p e s m args below meth c A Q ls hQ C hG hl
  have hx := C.1
  have hb := C.2.1
  have hl : lv_has ls 2 [(0, .ref (gad w 25)), (1, .int x1)] := hl
  refine lv_aload_n hx hb d_BT_keep_0 rfl (lv_at hl 0 rfl) ?_
  refine lv_iload_n hx hb d_BT_keep_1 rfl (lv_at hl 1 rfl) ?_
  refine lv_if_ne (tgt := 9) hx hb d_BT_keep_2 (by decide) (fun hc => ?_) (fun hc => ?_)
  · replace h := it_f h hc
    refine lv_iload_n hx hb d_BT_keep_9 rfl (lv_at hl 1 rfl) ?_
    refine lv_iconst (v := 5) hx hb d_BT_keep_10 (by decide) ?_
    refine lv_imul hx hb d_BT_keep_11 ?_
    refine lv_iconst (v := 1) hx hb d_BT_keep_12 (by decide) ?_
    refine lv_isub hx hb d_BT_keep_13 ?_
    refine g_put (x := (x1 * 5) - 1) C hG (hG.lt (Nat.le_of_ble_eq_true rfl)) (ce25 w _) rfl inC0 okC0 nmC0 1 (Nat.le_of_ble_eq_true rfl) qw77 rfl rfl rfl (Nat.le_of_ble_eq_true rfl) rfl d_BT_keep_14 (fun H locs hG => ?_)
    exact g_vret C hG (Option.some.inj h) hQ d_BT_keep_17
  · replace h := it_t h hc
    refine lv_iconst (v := 0) hx hb d_BT_keep_5 (by decide) ?_
    refine lv_goto (tgt := 14) hx hb d_BT_keep_6 (by decide) ?_
    refine g_put (x := 0) C hG (hG.lt (Nat.le_of_ble_eq_true rfl)) (ce25 w _) rfl inC0 okC0 nmC0 1 (Nat.le_of_ble_eq_true rfl) qw77 rfl rfl rfl (Nat.le_of_ble_eq_true rfl) rfl d_BT_keep_14 (fun H locs hG => ?_)
    exact g_vret C hG (Option.some.inj h) hQ d_BT_keep_17
theorem d_BT_fits_0 : decode b_BT_fits 0 = .ok (.aload_n 0, 1) := by decide +kernel
theorem d_BT_fits_1 : decode b_BT_fits 1 = .ok (.getfield 9, 3) := by decide +kernel
theorem d_BT_fits_4 : decode b_BT_fits 4 = .ok (.iload_n 1, 1) := by decide +kernel
theorem d_BT_fits_5 : decode b_BT_fits 5 = .ok (.iaload, 1) := by decide +kernel
theorem d_BT_fits_6 : decode b_BT_fits 6 = .ok (.istore_n 2, 1) := by decide +kernel
theorem d_BT_fits_7 : decode b_BT_fits 7 = .ok (.iload_n 1, 1) := by decide +kernel
theorem d_BT_fits_8 : decode b_BT_fits 8 = .ok (.iconst 5, 1) := by decide +kernel
theorem d_BT_fits_9 : decode b_BT_fits 9 = .ok (.irem, 1) := by decide +kernel
theorem d_BT_fits_10 : decode b_BT_fits 10 = .ok (.tableswitch 97 1 4 #[30, 97, 39, 85], 30) := by decide +kernel
theorem d_BT_fits_40 : decode b_BT_fits 40 = .ok (.iload_n 2, 1) := by decide +kernel
theorem d_BT_fits_41 : decode b_BT_fits 41 = .ok (.bipush 48, 2) := by decide +kernel
theorem d_BT_fits_43 : decode b_BT_fits 43 = .ok (.bipush 52, 2) := by decide +kernel
theorem d_BT_fits_45 : decode b_BT_fits 45 = .ok (.invokestatic 29, 3) := by decide +kernel
theorem d_BT_fits_48 : decode b_BT_fits 48 = .ok (.ireturn, 1) := by decide +kernel
theorem d_BT_fits_49 : decode b_BT_fits 49 = .ok (.iload_n 2, 1) := by decide +kernel
theorem d_BT_fits_50 : decode b_BT_fits 50 = .ok (.bipush 48, 2) := by decide +kernel
theorem d_BT_fits_52 : decode b_BT_fits 52 = .ok (.if_icmp .ne 20, 3) := by decide +kernel
theorem d_BT_fits_55 : decode b_BT_fits 55 = .ok (.aload_n 0, 1) := by decide +kernel
theorem d_BT_fits_56 : decode b_BT_fits 56 = .ok (.getfield 9, 3) := by decide +kernel
theorem d_BT_fits_59 : decode b_BT_fits 59 = .ok (.iload_n 1, 1) := by decide +kernel
theorem d_BT_fits_60 : decode b_BT_fits 60 = .ok (.iconst 1, 1) := by decide +kernel
theorem d_BT_fits_61 : decode b_BT_fits 61 = .ok (.isub, 1) := by decide +kernel
theorem d_BT_fits_62 : decode b_BT_fits 62 = .ok (.iaload, 1) := by decide +kernel
theorem d_BT_fits_63 : decode b_BT_fits 63 = .ok (.bipush 48, 2) := by decide +kernel
theorem d_BT_fits_65 : decode b_BT_fits 65 = .ok (.if_icmp .ne 7, 3) := by decide +kernel
theorem d_BT_fits_68 : decode b_BT_fits 68 = .ok (.iconst 1, 1) := by decide +kernel
theorem d_BT_fits_69 : decode b_BT_fits 69 = .ok (.goto 4, 3) := by decide +kernel
theorem d_BT_fits_72 : decode b_BT_fits 72 = .ok (.iconst 0, 1) := by decide +kernel
theorem d_BT_fits_73 : decode b_BT_fits 73 = .ok (.istore_n 3, 1) := by decide +kernel
theorem d_BT_fits_74 : decode b_BT_fits 74 = .ok (.iload_n 2, 1) := by decide +kernel
theorem d_BT_fits_75 : decode b_BT_fits 75 = .ok (.bipush 48, 2) := by decide +kernel
theorem d_BT_fits_77 : decode b_BT_fits 77 = .ok (.bipush 57, 2) := by decide +kernel
theorem d_BT_fits_79 : decode b_BT_fits 79 = .ok (.invokestatic 29, 3) := by decide +kernel
theorem d_BT_fits_82 : decode b_BT_fits 82 = .ok (.ifCond .eq 11, 3) := by decide +kernel
theorem d_BT_fits_85 : decode b_BT_fits 85 = .ok (.iload_n 3, 1) := by decide +kernel
theorem d_BT_fits_86 : decode b_BT_fits 86 = .ok (.ifCond .ne 7, 3) := by decide +kernel
theorem d_BT_fits_89 : decode b_BT_fits 89 = .ok (.iconst 1, 1) := by decide +kernel
theorem d_BT_fits_90 : decode b_BT_fits 90 = .ok (.goto 4, 3) := by decide +kernel
theorem d_BT_fits_93 : decode b_BT_fits 93 = .ok (.iconst 0, 1) := by decide +kernel
theorem d_BT_fits_94 : decode b_BT_fits 94 = .ok (.ireturn, 1) := by decide +kernel
theorem d_BT_fits_95 : decode b_BT_fits 95 = .ok (.iload_n 2, 1) := by decide +kernel
theorem d_BT_fits_96 : decode b_BT_fits 96 = .ok (.bipush 59, 2) := by decide +kernel
theorem d_BT_fits_98 : decode b_BT_fits 98 = .ok (.if_icmp .ne 7, 3) := by decide +kernel
theorem d_BT_fits_101 : decode b_BT_fits 101 = .ok (.iconst 1, 1) := by decide +kernel
theorem d_BT_fits_102 : decode b_BT_fits 102 = .ok (.goto 4, 3) := by decide +kernel
theorem d_BT_fits_105 : decode b_BT_fits 105 = .ok (.iconst 0, 1) := by decide +kernel
theorem d_BT_fits_106 : decode b_BT_fits 106 = .ok (.ireturn, 1) := by decide +kernel
theorem d_BT_fits_107 : decode b_BT_fits 107 = .ok (.iload_n 2, 1) := by decide +kernel
theorem d_BT_fits_108 : decode b_BT_fits 108 = .ok (.bipush 48, 2) := by decide +kernel
theorem d_BT_fits_110 : decode b_BT_fits 110 = .ok (.bipush 57, 2) := by decide +kernel
theorem d_BT_fits_112 : decode b_BT_fits 112 = .ok (.invokestatic 29, 3) := by decide +kernel
theorem d_BT_fits_115 : decode b_BT_fits 115 = .ok (.ireturn, 1) := by decide +kernel
noncomputable def BT_fits_J73 (S : St) (x2 : Int32) (t0 : Int32) : Option (Int32) :=
  if (X_within x2 48 57) = 0 then
      some 0
    else
      if t0 = 0 then
        some 1
      else
        some 0
noncomputable def BT_fits_J72 (S : St) (x2 : Int32) : Option (Int32) :=
  BT_fits_J73 S x2 0
noncomputable def BT_fits (S : St) (x1 : Int32) : Option (Int32) :=
  chk (inb x1 100) <|
    if (x1 - x1 / 5 * 5) = 1 then
      some (X_within (S 26 (ix x1)) 48 52)
    else if (x1 - x1 / 5 * 5) = 3 then
      if (S 26 (ix x1)) = 48 then
        chk (inb (x1 - 1) 100) <|
        if (S 26 (ix (x1 - 1))) = 48 then
          BT_fits_J73 S (S 26 (ix x1)) 1
        else
          BT_fits_J72 S (S 26 (ix x1))
      else
        BT_fits_J72 S (S 26 (ix x1))
    else if (x1 - x1 / 5 * 5) = 4 then
      if (S 26 (ix x1)) = 59 then
        some 1
      else
        some 0
    else some (X_within (S 26 (ix x1)) 48 57)
set_option maxHeartbeats 4000000 in
set_option maxRecDepth 100000 in
theorem c_BT_fits (l : Launch) (w : gw) (S : St) (x1 : Int32)  {z : Int32} (h : (BT_fits S x1) = some z) : gMi l w y_BT_fits b_BT_fits 4 (some .boolean) (rmm 1 22) [.ref (gad w 25), .int x1] S z S := by
  unfold BT_fits at h
  refine g_met (Qc := gQi w z S) (by decide +kernel) (Nat.le_of_ble_eq_true rfl) ?_
  intro p e s m args below meth c A Q ls hQ C hG hl
  have hx := C.1
  have hb := C.2.1
  have hl : lv_has ls 4 [(0, .ref (gad w 25)), (1, .int x1)] := hl
  have J73 : ∀ (x2 : Int32) (t0 : Int32), BT_fits_J73 S x2 t0 = some z → ∀ (ls : Array Slot) (H : Heap) (locs : List Loc), GH w s A S H locs → lv_has ls 4 [(2, .int x2)] → W p l e (rmm 1 22) s m args below meth c H locs 0 0 Q (F0 m 73 ls [.int t0]) := by
    intro x2 t0 h ls H locs hG hl
    unfold BT_fits_J73 at h
    refine lv_istore_n (lv' := [(3, .int t0), (2, .int x2)]) hx hb d_BT_fits_73 rfl hl (by decide) rfl (fun ls hl => ?_)
    refine lv_iload_n hx hb d_BT_fits_74 rfl (lv_at hl 1 rfl) ?_
    refine lv_bipush (v := 48) hx hb d_BT_fits_75 (by decide) ?_
    refine lv_bipush (v := 57) hx hb d_BT_fits_77 (by decide) ?_
    refine g_goi hG (g_runSN (n := 3) (As := [.int x2, .int 48, .int 57]) (rest := []) C hG (c_X_within l w S x2 48 57 _) (hG.2.2.2.2.2.1.2.2.2.2.2.2.1) ⟨qw235, qw1, qw236, by decide +kernel, by decide +kernel, by decide +kernel⟩ rfl rfl ⟨by decide, by decide⟩ rfl hl.1 rfl (Nat.le_of_ble_eq_true rfl) d_BT_fits_79 ⟨Nat.zero_le _, Nat.zero_le _⟩) (fun H locs hG => ?_)
    refine lv_if_eq (tgt := 93) hx hb d_BT_fits_82 (by decide) (fun hc => ?_) (fun hc => ?_)
    · replace h := it_t h hc
      refine lv_iconst (v := 0) hx hb d_BT_fits_93 (by decide) ?_
      exact g_zret C hG (Or.inl rfl) (Option.some.inj h) rfl hQ d_BT_fits_94
    · replace h := it_f h hc
      refine lv_iload_n hx hb d_BT_fits_85 rfl (lv_at hl 0 rfl) ?_
      refine lv_if_ne (tgt := 93) hx hb d_BT_fits_86 (by decide) (fun hc => ?_) (fun hc => ?_)
      · replace h := it_f h hc
        refine lv_iconst (v := 0) hx hb d_BT_fits_93 (by decide) ?_
        exact g_zret C hG (Or.inl rfl) (Option.some.inj h) rfl hQ d_BT_fits_94
      · replace h := it_t h hc
        refine lv_iconst (v := 1) hx hb d_BT_fits_89 (by decide) ?_
        refine lv_goto (tgt := 94) hx hb d_BT_fits_90 (by decide) ?_
        exact g_zret C hG (Or.inr rfl) (Option.some.inj h) rfl hQ d_BT_fits_94
  have J72 : ∀ (x2 : Int32), BT_fits_J72 S x2 = some z → ∀ (ls : Array Slot) (H : Heap) (locs : List Loc), GH w s A S H locs → lv_has ls 4 [(2, .int x2)] → W p l e (rmm 1 22) s m args below meth c H locs 0 0 Q (F0 m 72 ls []) := by
    intro x2 h ls H locs hG hl
    unfold BT_fits_J72 at h
    refine lv_iconst (v := 0) hx hb d_BT_fits_72 (by decide) ?_
    exact J73 _ _ h ls _ _ hG (lv_sub hl [0] rfl)
  refine lv_aload_n hx hb d_BT_fits_0 rfl (lv_at hl 0 rfl) ?_
  refine g_get C hG (hG.lt (Nat.le_of_ble_eq_true rfl)) (ce25 w _) rfl inC0 0 (Nat.le_of_ble_eq_true rfl) qw76 rfl d_BT_fits_1 ?_
  refine lv_iload_n hx hb d_BT_fits_4 rfl (lv_at hl 1 rfl) ?_
  obtain ⟨hi1, h⟩ := chk_some h
  refine g_iald (j := ix x1) C hG (hG.lt (Nat.le_of_ble_eq_true rfl)) (ce26 w _) (inb_in hi1) rfl d_BT_fits_5 ?_
  refine lv_istore_n (lv' := [(2, .int (S 26 (ix x1))), (0, .ref (gad w 25)), (1, .int x1)]) hx hb d_BT_fits_6 rfl hl (by decide) rfl (fun ls hl => ?_)
  refine lv_iload_n hx hb d_BT_fits_7 rfl (lv_at hl 2 rfl) ?_
  refine lv_iconst (v := 5) hx hb d_BT_fits_8 (by decide) ?_
  refine lv_irem hx hb d_BT_fits_9 (by decide) ?_
  by_cases hc1 : (x1 - x1 / 5 * 5) = 1
  · replace h := it_t h hc1
    refine lv_tableIn (off := 30) (tgt := 40) hx hb d_BT_fits_10 (by rw [hc1]; decide) (by rw [hc1]; decide) (by rw [hc1]; rfl) (by decide) ?_
    refine lv_iload_n hx hb d_BT_fits_40 rfl (lv_at hl 0 rfl) ?_
    refine lv_bipush (v := 48) hx hb d_BT_fits_41 (by decide) ?_
    refine lv_bipush (v := 52) hx hb d_BT_fits_43 (by decide) ?_
    refine g_goi hG (g_runSN (n := 3) (As := [.int (S 26 (ix x1)), .int 48, .int 52]) (rest := []) C hG (c_X_within l w S (S 26 (ix x1)) 48 52 _) (hG.2.2.2.2.2.1.2.2.2.2.2.2.1) ⟨qw235, qw1, qw236, by decide +kernel, by decide +kernel, by decide +kernel⟩ rfl rfl ⟨by decide, by decide⟩ rfl hl.1 rfl (Nat.le_of_ble_eq_true rfl) d_BT_fits_45 ⟨Nat.zero_le _, Nat.zero_le _⟩) (fun H locs hG => ?_)
    exact g_zret C hG (bz_X_within (S 26 (ix x1)) 48 52) (Option.some.inj h) rfl hQ d_BT_fits_48
  replace h := it_f h hc1
  by_cases hc3 : (x1 - x1 / 5 * 5) = 3
  · replace h := it_t h hc3
    refine lv_tableIn (off := 39) (tgt := 49) hx hb d_BT_fits_10 (by rw [hc3]; decide) (by rw [hc3]; decide) (by rw [hc3]; rfl) (by decide) ?_
    refine lv_iload_n hx hb d_BT_fits_49 rfl (lv_at hl 0 rfl) ?_
    refine lv_bipush (v := 48) hx hb d_BT_fits_50 (by decide) ?_
    refine lv_icmp_ne (tgt := 72) hx hb d_BT_fits_52 (by decide) (fun hc => ?_) (fun hc => ?_)
    · replace h := it_f h hc
      exact J72 _ h ls _ _ hG (lv_sub hl [0] rfl)
    · replace h := it_t h hc
      refine lv_aload_n hx hb d_BT_fits_55 rfl (lv_at hl 1 rfl) ?_
      refine g_get C hG (hG.lt (Nat.le_of_ble_eq_true rfl)) (ce25 w _) rfl inC0 0 (Nat.le_of_ble_eq_true rfl) qw76 rfl d_BT_fits_56 ?_
      refine lv_iload_n hx hb d_BT_fits_59 rfl (lv_at hl 2 rfl) ?_
      refine lv_iconst (v := 1) hx hb d_BT_fits_60 (by decide) ?_
      refine lv_isub hx hb d_BT_fits_61 ?_
      obtain ⟨hi2, h⟩ := chk_some h
      refine g_iald (j := ix (x1 - 1)) C hG (hG.lt (Nat.le_of_ble_eq_true rfl)) (ce26 w _) (inb_in hi2) rfl d_BT_fits_62 ?_
      refine lv_bipush (v := 48) hx hb d_BT_fits_63 (by decide) ?_
      refine lv_icmp_ne (tgt := 72) hx hb d_BT_fits_65 (by decide) (fun hc => ?_) (fun hc => ?_)
      · replace h := it_f h hc
        exact J72 _ h ls _ _ hG (lv_sub hl [0] rfl)
      · replace h := it_t h hc
        refine lv_iconst (v := 1) hx hb d_BT_fits_68 (by decide) ?_
        refine lv_goto (tgt := 73) hx hb d_BT_fits_69 (by decide) ?_
        exact J73 _ _ h ls _ _ hG (lv_sub hl [0] rfl)
  replace h := it_f h hc3
  by_cases hc4 : (x1 - x1 / 5 * 5) = 4
  · replace h := it_t h hc4
    refine lv_tableIn (off := 85) (tgt := 95) hx hb d_BT_fits_10 (by rw [hc4]; decide) (by rw [hc4]; decide) (by rw [hc4]; rfl) (by decide) ?_
    refine lv_iload_n hx hb d_BT_fits_95 rfl (lv_at hl 0 rfl) ?_
    refine lv_bipush (v := 59) hx hb d_BT_fits_96 (by decide) ?_
    refine lv_icmp_ne (tgt := 105) hx hb d_BT_fits_98 (by decide) (fun hc => ?_) (fun hc => ?_)
    · replace h := it_f h hc
      refine lv_iconst (v := 0) hx hb d_BT_fits_105 (by decide) ?_
      exact g_zret C hG (Or.inl rfl) (Option.some.inj h) rfl hQ d_BT_fits_106
    · replace h := it_t h hc
      refine lv_iconst (v := 1) hx hb d_BT_fits_101 (by decide) ?_
      refine lv_goto (tgt := 106) hx hb d_BT_fits_102 (by decide) ?_
      exact g_zret C hG (Or.inr rfl) (Option.some.inj h) rfl hQ d_BT_fits_106
  replace h := it_f h hc4
  by_cases hc2 : (x1 - x1 / 5 * 5) = 2
  · refine lv_tableIn (off := 97) (tgt := 107) hx hb d_BT_fits_10 (by rw [hc2]; decide) (by rw [hc2]; decide) (by rw [hc2]; rfl) (by decide) ?_
    refine lv_iload_n hx hb d_BT_fits_107 rfl (lv_at hl 0 rfl) ?_
    refine lv_bipush (v := 48) hx hb d_BT_fits_108 (by decide) ?_
    refine lv_bipush (v := 57) hx hb d_BT_fits_110 (by decide) ?_
    refine g_goi hG (g_runSN (n := 3) (As := [.int (S 26 (ix x1)), .int 48, .int 57]) (rest := []) C hG (c_X_within l w S (S 26 (ix x1)) 48 57 _) (hG.2.2.2.2.2.1.2.2.2.2.2.2.1) ⟨qw235, qw1, qw236, by decide +kernel, by decide +kernel, by decide +kernel⟩ rfl rfl ⟨by decide, by decide⟩ rfl hl.1 rfl (Nat.le_of_ble_eq_true rfl) d_BT_fits_112 ⟨Nat.zero_le _, Nat.zero_le _⟩) (fun H locs hG => ?_)
    exact g_zret C hG (bz_X_within (S 26 (ix x1)) 48 57) (Option.some.inj h) rfl hQ d_BT_fits_115
  refine lv_tableOut (tgt := 107) hx hb d_BT_fits_10 (by have g1 := lv_neT hc1 (a := 1) (by decide); have g2 := lv_neT hc2 (a := 2) (by decide); have g3 := lv_neT hc3 (a := 3) (by decide); have g4 := lv_neT hc4 (a := 4) (by decide); omega) (by decide) ?_
  refine lv_iload_n hx hb d_BT_fits_107 rfl (lv_at hl 0 rfl) ?_
  refine lv_bipush (v := 48) hx hb d_BT_fits_108 (by decide) ?_
  refine lv_bipush (v := 57) hx hb d_BT_fits_110 (by decide) ?_
  refine g_goi hG (g_runSN (n := 3) (As := [.int (S 26 (ix x1)), .int 48, .int 57]) (rest := []) C hG (c_X_within l w S (S 26 (ix x1)) 48 57 _) (hG.2.2.2.2.2.1.2.2.2.2.2.2.1) ⟨qw235, qw1, qw236, by decide +kernel, by decide +kernel, by decide +kernel⟩ rfl rfl ⟨by decide, by decide⟩ rfl hl.1 rfl (Nat.le_of_ble_eq_true rfl) d_BT_fits_112 ⟨Nat.zero_le _, Nat.zero_le _⟩) (fun H locs hG => ?_)
  exact g_zret C hG (bz_X_within (S 26 (ix x1)) 48 57) (Option.some.inj h) rfl hQ d_BT_fits_115
