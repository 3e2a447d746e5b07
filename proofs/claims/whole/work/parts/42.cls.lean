variable {p : Program} {l : Launch} {e : Env} {s : State} {m : MethodId} {args : Array Value} {below : List Frame} {meth : Method} {c : Code} {A : Nat → Prop} {Q : State → Prop} {w : gw} {S : St}
theorem d_SI_clear_0 : decode b_SI_clear 0 = .ok (.iconst 0, 1) := by decide +kernel
theorem d_SI_clear_1 : decode b_SI_clear 1 = .ok (.istore_n 1, 1) := by decide +kernel
theorem d_SI_clear_2 : decode b_SI_clear 2 = .ok (.iload_n 1, 1) := by decide +kernel
theorem d_SI_clear_3 : decode b_SI_clear 3 = .ok (.bipush 10, 2) := by decide +kernel
theorem d_SI_clear_5 : decode b_SI_clear 5 = .ok (.if_icmp .ge 16, 3) := by decide +kernel
theorem d_SI_clear_8 : decode b_SI_clear 8 = .ok (.aload_n 0, 1) := by decide +kernel
theorem d_SI_clear_9 : decode b_SI_clear 9 = .ok (.getfield 9, 3) := by decide +kernel
theorem d_SI_clear_12 : decode b_SI_clear 12 = .ok (.iload_n 1, 1) := by decide +kernel
theorem d_SI_clear_13 : decode b_SI_clear 13 = .ok (.iconst (-1), 1) := by decide +kernel
theorem d_SI_clear_14 : decode b_SI_clear 14 = .ok (.iastore, 1) := by decide +kernel
theorem d_SI_clear_15 : decode b_SI_clear 15 = .ok (.iinc 1 1, 3) := by decide +kernel
theorem d_SI_clear_18 : decode b_SI_clear 18 = .ok (.goto (-16), 3) := by decide +kernel
theorem d_SI_clear_21 : decode b_SI_clear 21 = .ok (.aload_n 0, 1) := by decide +kernel
theorem d_SI_clear_22 : decode b_SI_clear 22 = .ok (.iconst 0, 1) := by decide +kernel
theorem d_SI_clear_23 : decode b_SI_clear 23 = .ok (.putfield 18, 3) := by decide +kernel
theorem d_SI_clear_26 : decode b_SI_clear 26 = .ok (.aload_n 0, 1) := by decide +kernel
theorem d_SI_clear_27 : decode b_SI_clear 27 = .ok (.iconst 0, 1) := by decide +kernel
theorem d_SI_clear_28 : decode b_SI_clear 28 = .ok (.putfield 22, 3) := by decide +kernel
theorem d_SI_clear_31 : decode b_SI_clear 31 = .ok (.return_, 1) := by decide +kernel
noncomputable def SI_clear_L2 (S : St) (x1 : Int32) : Option ((Int32 × St) × Nat) :=
  if 10 ≤ x1 then
      some ((x1, S), 1)
    else
      chk (inb x1 10) <|
      some ((x1 + 1, up S 46 (ix x1) (-1)), 0)
noncomputable def SI_clear_J21 (S : St) : Option (St) :=
  some (up (up S 45 2 0) 45 3 0)
noncomputable def SI_clear (S : St) : Option (St) :=
  bnd (lp (σ := Int32 × St) (fun q => SI_clear_L2 q.2 q.1) FZ (0, S)) fun z1 =>
    SI_clear_J21 z1.1.2
set_option maxHeartbeats 4000000 in
set_option maxRecDepth 100000 in
theorem L_SI_clear_2 (C : gCx p s m args meth c y_SI_clear.cls b_SI_clear 2 none) : ∀ (n : Nat) (x1 : Int32) (S : St) (r : (Int32 × St) × Nat), lp (σ := Int32 × St) (fun q => SI_clear_L2 q.2 q.1) n (x1, S) = some r → (∀ (y1 : Int32) (Sy : St), r = ((y1, Sy), 1) → ∀ (ls : Array Slot) (H : Heap) (locs : List Loc), GH w s A Sy H locs → lv_has ls 2 [(0, .ref (gad w 45))] → W p l e (rmm 0 0) s m args below meth c H locs 0 0 Q (F0 m 21 ls [])) → ∀ (ls : Array Slot) (H : Heap) (locs : List Loc), GH w s A S H locs → lv_has ls 2 [(0, .ref (gad w 45)), (1, .int x1)] → W p l e (rmm 0 0) s m args below meth c H locs 0 0 Q (F0 m 2 ls []) := by
  have hx := C.1
  have hb := C.2.1
  intro n
  induction n with
  | zero => intro x1 S r h; cases h
  | succ n ih =>
    intro x1 S r h k1 ls H locs hG hl
    obtain ⟨z, h, hr⟩ := lp_succ h
    have h : SI_clear_L2 S x1 = some z := h
    unfold SI_clear_L2 at h
    refine lv_iload_n hx hb d_SI_clear_2 rfl (lv_at hl 1 rfl) ?_
    refine lv_bipush (v := 10) hx hb d_SI_clear_3 (by decide) ?_
    refine lv_icmp_ge (tgt := 21) hx hb d_SI_clear_5 (by decide) (fun hc => ?_) (fun hc => ?_)
    · replace h := it_t h hc
      exact k1 _ _ (lp_exit h hr) ls _ _ hG (lv_sub hl [0] rfl)
    · replace h := it_f h hc
      refine lv_aload_n hx hb d_SI_clear_8 rfl (lv_at hl 0 rfl) ?_
      refine g_get C hG (hG.lt (Nat.le_of_ble_eq_true rfl)) (ce45 w _) rfl inC5 0 (Nat.le_of_ble_eq_true rfl) qw182 rfl d_SI_clear_9 ?_
      refine lv_iload_n hx hb d_SI_clear_12 rfl (lv_at hl 1 rfl) ?_
      refine lv_iconst (v := (-1)) hx hb d_SI_clear_13 (by decide) ?_
      obtain ⟨hi1, h⟩ := chk_some h
      refine g_iast (j := ix x1) (x := (-1)) C hG (hG.lt (Nat.le_of_ble_eq_true rfl)) (ce46 w) (inb_in hi1) rfl d_SI_clear_14 (fun H locs hG => ?_)
      refine lv_iinc (v := x1 + 1) (lv' := [(1, .int (x1 + 1)), (0, .ref (gad w 45))]) hx hb d_SI_clear_15 hl (k := 1) rfl (congrArg (HAdd.hAdd x1) (by decide : Int32.ofInt 1 = 1)) (by decide) rfl (fun ls hl => ?_)
      refine lv_goto (tgt := 2) hx hb d_SI_clear_18 (by decide) ?_
      exact ih _ _ _ (lp_back h hr) k1 ls _ _ hG (lv_sub hl [1, 0] rfl)
set_option maxHeartbeats 4000000 in
set_option maxRecDepth 100000 in
theorem c_SI_clear (l : Launch) (w : gw) (S : St)   {z : St} (h : (SI_clear S) = some z) : gMv l w y_SI_clear b_SI_clear 2 none (rmm 0 0) [.ref (gad w 45)] S z := by
  unfold SI_clear at h
  refine g_met (Qc := gQv w z) (by decide +kernel) (Nat.le_of_ble_eq_true rfl) ?_
  intro p e s m args below meth c A Q ls hQ C hG hl
  have hx := C.1
  have hb := C.2.1
  have hl : lv_has ls 2 [(0, .ref (gad w 45))] := hl
  have J21 : ∀ (S : St), SI_clear_J21 S = some z → ∀ (ls : Array Slot) (H : Heap) (locs : List Loc), GH w s A S H locs → lv_has ls 2 [(0, .ref (gad w 45))] → W p l e (rmm 0 0) s m args below meth c H locs 0 0 Q (F0 m 21 ls []) := by
    intro S h ls H locs hG hl
    unfold SI_clear_J21 at h
    refine lv_aload_n hx hb d_SI_clear_21 rfl (lv_at hl 0 rfl) ?_
    refine lv_iconst (v := 0) hx hb d_SI_clear_22 (by decide) ?_
    refine g_put (x := 0) C hG (hG.lt (Nat.le_of_ble_eq_true rfl)) (ce45 w _) rfl inC5 okC5 nmC5 2 (Nat.le_of_ble_eq_true rfl) qw185 rfl rfl rfl (Nat.le_of_ble_eq_true rfl) rfl d_SI_clear_23 (fun H locs hG => ?_)
    refine lv_aload_n hx hb d_SI_clear_26 rfl (lv_at hl 0 rfl) ?_
    refine lv_iconst (v := 0) hx hb d_SI_clear_27 (by decide) ?_
    refine g_put (x := 0) C hG (hG.lt (Nat.le_of_ble_eq_true rfl)) (ce45 w _) rfl inC5 okC5 nmC5 3 (Nat.le_of_ble_eq_true rfl) qw186 rfl rfl rfl (Nat.le_of_ble_eq_true rfl) rfl d_SI_clear_28 (fun H locs hG => ?_)
    exact g_vret C hG (Option.some.inj h) hQ d_SI_clear_31
  refine lv_iconst (v := 0) hx hb d_SI_clear_0 (by decide) ?_
  refine lv_istore_n (lv' := [(1, .int 0), (0, .ref (gad w 45))]) hx hb d_SI_clear_1 rfl hl (by decide) rfl (fun ls hl => ?_)
  obtain ⟨z1, hz1, h⟩ := bnd_some h
  refine L_SI_clear_2 C FZ _ _ _ hz1 ?_ ls _ _ hG (lv_sub hl [1, 0] rfl)
  intro y1 Sy e9 ls H locs hG hl
  subst e9
  exact J21 _ h ls _ _ hG (lv_sub hl [0] rfl)
theorem d_SI_note_0 : decode b_SI_note 0 = .ok (.aload_n 0, 1) := by decide +kernel
theorem d_SI_note_1 : decode b_SI_note 1 = .ok (.getfield 9, 3) := by decide +kernel
theorem d_SI_note_4 : decode b_SI_note 4 = .ok (.iload_n 1, 1) := by decide +kernel
theorem d_SI_note_5 : decode b_SI_note 5 = .ok (.iaload, 1) := by decide +kernel
theorem d_SI_note_6 : decode b_SI_note 6 = .ok (.iconst (-1), 1) := by decide +kernel
theorem d_SI_note_7 : decode b_SI_note 7 = .ok (.if_icmp .eq 18, 3) := by decide +kernel
theorem d_SI_note_10 : decode b_SI_note 10 = .ok (.aload_n 0, 1) := by decide +kernel
theorem d_SI_note_11 : decode b_SI_note 11 = .ok (.getfield 9, 3) := by decide +kernel
theorem d_SI_note_14 : decode b_SI_note 14 = .ok (.iload_n 1, 1) := by decide +kernel
theorem d_SI_note_15 : decode b_SI_note 15 = .ok (.iaload, 1) := by decide +kernel
theorem d_SI_note_16 : decode b_SI_note 16 = .ok (.iload_n 2, 1) := by decide +kernel
theorem d_SI_note_17 : decode b_SI_note 17 = .ok (.if_icmp .eq 8, 3) := by decide +kernel
theorem d_SI_note_20 : decode b_SI_note 20 = .ok (.aload_n 0, 1) := by decide +kernel
theorem d_SI_note_21 : decode b_SI_note 21 = .ok (.iconst 1, 1) := by decide +kernel
theorem d_SI_note_22 : decode b_SI_note 22 = .ok (.putfield 18, 3) := by decide +kernel
theorem d_SI_note_25 : decode b_SI_note 25 = .ok (.aload_n 0, 1) := by decide +kernel
theorem d_SI_note_26 : decode b_SI_note 26 = .ok (.getfield 9, 3) := by decide +kernel
theorem d_SI_note_29 : decode b_SI_note 29 = .ok (.iload_n 1, 1) := by decide +kernel
theorem d_SI_note_30 : decode b_SI_note 30 = .ok (.iload_n 2, 1) := by decide +kernel
theorem d_SI_note_31 : decode b_SI_note 31 = .ok (.iastore, 1) := by decide +kernel
theorem d_SI_note_32 : decode b_SI_note 32 = .ok (.aload_n 0, 1) := by decide +kernel
theorem d_SI_note_33 : decode b_SI_note 33 = .ok (.dup, 1) := by decide +kernel
theorem d_SI_note_34 : decode b_SI_note 34 = .ok (.getfield 22, 3) := by decide +kernel
theorem d_SI_note_37 : decode b_SI_note 37 = .ok (.iconst 1, 1) := by decide +kernel
theorem d_SI_note_38 : decode b_SI_note 38 = .ok (.iadd, 1) := by decide +kernel
theorem d_SI_note_39 : decode b_SI_note 39 = .ok (.putfield 22, 3) := by decide +kernel
theorem d_SI_note_42 : decode b_SI_note 42 = .ok (.return_, 1) := by decide +kernel
noncomputable def SI_note_J25 (S : St) (x1 : Int32) (x2 : Int32) : Option (St) :=
  chk (inb x1 10) <|
    some (up (up S 46 (ix x1) x2) 45 3 (((up S 46 (ix x1) x2) 45 3) + 1))
noncomputable def SI_note (S : St) (x1 : Int32) (x2 : Int32) : Option (St) :=
  chk (inb x1 10) <|
    if (S 46 (ix x1)) = (-1) then
      SI_note_J25 S x1 x2
    else
      chk (inb x1 10) <|
      if (S 46 (ix x1)) = x2 then
        SI_note_J25 S x1 x2
      else
        SI_note_J25 (up S 45 2 1) x1 x2
set_option maxHeartbeats 4000000 in
set_option maxRecDepth 100000 in
theorem c_SI_note (l : Launch) (w : gw) (S : St) (x1 : Int32) (x2 : Int32)  {z : St} (h : (SI_note S x1 x2) = some z) : gMv l w y_SI_note b_SI_note 3 none (rmm 0 0) [.ref (gad w 45), .int x1, .int x2] S z := by
  unfold SI_note at h
  refine g_met (Qc := gQv w z) (by decide +kernel) (Nat.le_of_ble_eq_true rfl) ?_
  intro p e s m args below meth c A Q ls hQ C hG hl
  have hx := C.1
  have hb := C.2.1
  have hl : lv_has ls 3 [(0, .ref (gad w 45)), (1, .int x1), (2, .int x2)] := hl
  have J25 : ∀ (S : St), SI_note_J25 S x1 x2 = some z → ∀ (ls : Array Slot) (H : Heap) (locs : List Loc), GH w s A S H locs → lv_has ls 3 [(0, .ref (gad w 45)), (1, .int x1), (2, .int x2)] → W p l e (rmm 0 0) s m args below meth c H locs 0 0 Q (F0 m 25 ls []) := by
    intro S h ls H locs hG hl
    unfold SI_note_J25 at h
    refine lv_aload_n hx hb d_SI_note_25 rfl (lv_at hl 0 rfl) ?_
    refine g_get C hG (hG.lt (Nat.le_of_ble_eq_true rfl)) (ce45 w _) rfl inC5 0 (Nat.le_of_ble_eq_true rfl) qw182 rfl d_SI_note_26 ?_
    refine lv_iload_n hx hb d_SI_note_29 rfl (lv_at hl 1 rfl) ?_
    refine lv_iload_n hx hb d_SI_note_30 rfl (lv_at hl 2 rfl) ?_
    obtain ⟨hi1, h⟩ := chk_some h
    refine g_iast (j := ix x1) (x := x2) C hG (hG.lt (Nat.le_of_ble_eq_true rfl)) (ce46 w) (inb_in hi1) rfl d_SI_note_31 (fun H locs hG => ?_)
    refine lv_aload_n hx hb d_SI_note_32 rfl (lv_at hl 0 rfl) ?_
    refine lv_dup hx hb d_SI_note_33 rfl ?_
    refine g_get C hG (hG.lt (Nat.le_of_ble_eq_true rfl)) (ce45 w _) rfl inC5 3 (Nat.le_of_ble_eq_true rfl) qw186 rfl d_SI_note_34 ?_
    refine lv_iconst (v := 1) hx hb d_SI_note_37 (by decide) ?_
    refine lv_iadd hx hb d_SI_note_38 ?_
    refine g_put (x := ((up S 46 (ix x1) x2) 45 3) + 1) C hG (hG.lt (Nat.le_of_ble_eq_true rfl)) (ce45 w _) rfl inC5 okC5 nmC5 3 (Nat.le_of_ble_eq_true rfl) qw186 rfl rfl rfl (Nat.le_of_ble_eq_true rfl) rfl d_SI_note_39 (fun H locs hG => ?_)
    exact g_vret C hG (Option.some.inj h) hQ d_SI_note_42
  refine lv_aload_n hx hb d_SI_note_0 rfl (lv_at hl 0 rfl) ?_
  refine g_get C hG (hG.lt (Nat.le_of_ble_eq_true rfl)) (ce45 w _) rfl inC5 0 (Nat.le_of_ble_eq_true rfl) qw182 rfl d_SI_note_1 ?_
  refine lv_iload_n hx hb d_SI_note_4 rfl (lv_at hl 1 rfl) ?_
  obtain ⟨hi2, h⟩ := chk_some h
  refine g_iald (j := ix x1) C hG (hG.lt (Nat.le_of_ble_eq_true rfl)) (ce46 w _) (inb_in hi2) rfl d_SI_note_5 ?_
  refine lv_iconst (v := (-1)) hx hb d_SI_note_6 (by decide) ?_
  refine lv_icmp_eq (tgt := 25) hx hb d_SI_note_7 (by decide) (fun hc => ?_) (fun hc => ?_)
  · replace h := it_t h hc
    exact J25 _ h ls _ _ hG (lv_sub hl [0, 1, 2] rfl)
  · replace h := it_f h hc
    refine lv_aload_n hx hb d_SI_note_10 rfl (lv_at hl 0 rfl) ?_
    refine g_get C hG (hG.lt (Nat.le_of_ble_eq_true rfl)) (ce45 w _) rfl inC5 0 (Nat.le_of_ble_eq_true rfl) qw182 rfl d_SI_note_11 ?_
    refine lv_iload_n hx hb d_SI_note_14 rfl (lv_at hl 1 rfl) ?_
    obtain ⟨hi3, h⟩ := chk_some h
    refine g_iald (j := ix x1) C hG (hG.lt (Nat.le_of_ble_eq_true rfl)) (ce46 w _) (inb_in hi3) rfl d_SI_note_15 ?_
    refine lv_iload_n hx hb d_SI_note_16 rfl (lv_at hl 2 rfl) ?_
    refine lv_icmp_eq (tgt := 25) hx hb d_SI_note_17 (by decide) (fun hc => ?_) (fun hc => ?_)
    · replace h := it_t h hc
      exact J25 _ h ls _ _ hG (lv_sub hl [0, 1, 2] rfl)
    · replace h := it_f h hc
      refine lv_aload_n hx hb d_SI_note_20 rfl (lv_at hl 0 rfl) ?_
      refine lv_iconst (v := 1) hx hb d_SI_note_21 (by decide) ?_
      refine g_put (x := 1) C hG (hG.lt (Nat.le_of_ble_eq_true rfl)) (ce45 w _) rfl inC5 okC5 nmC5 2 (Nat.le_of_ble_eq_true rfl) qw185 rfl rfl rfl (Nat.le_of_ble_eq_true rfl) rfl d_SI_note_22 (fun H locs hG => ?_)
      exact J25 _ h ls _ _ hG (lv_sub hl [0, 1, 2] rfl)
theorem d_SI_eveningsWith_0 : decode b_SI_eveningsWith 0 = .ok (.iconst 0, 1) := by decide +kernel
theorem d_SI_eveningsWith_1 : decode b_SI_eveningsWith 1 = .ok (.istore_n 2, 1) := by decide +kernel
theorem d_SI_eveningsWith_2 : decode b_SI_eveningsWith 2 = .ok (.iconst 0, 1) := by decide +kernel
theorem d_SI_eveningsWith_3 : decode b_SI_eveningsWith 3 = .ok (.istore_n 3, 1) := by decide +kernel
theorem d_SI_eveningsWith_4 : decode b_SI_eveningsWith 4 = .ok (.iload_n 3, 1) := by decide +kernel
theorem d_SI_eveningsWith_5 : decode b_SI_eveningsWith 5 = .ok (.bipush 10, 2) := by decide +kernel
theorem d_SI_eveningsWith_7 : decode b_SI_eveningsWith 7 = .ok (.if_icmp .ge 22, 3) := by decide +kernel
theorem d_SI_eveningsWith_10 : decode b_SI_eveningsWith 10 = .ok (.aload_n 0, 1) := by decide +kernel
theorem d_SI_eveningsWith_11 : decode b_SI_eveningsWith 11 = .ok (.getfield 9, 3) := by decide +kernel
theorem d_SI_eveningsWith_14 : decode b_SI_eveningsWith 14 = .ok (.iload_n 3, 1) := by decide +kernel
theorem d_SI_eveningsWith_15 : decode b_SI_eveningsWith 15 = .ok (.iaload, 1) := by decide +kernel
theorem d_SI_eveningsWith_16 : decode b_SI_eveningsWith 16 = .ok (.iload_n 1, 1) := by decide +kernel
theorem d_SI_eveningsWith_17 : decode b_SI_eveningsWith 17 = .ok (.if_icmp .ne 6, 3) := by decide +kernel
theorem d_SI_eveningsWith_20 : decode b_SI_eveningsWith 20 = .ok (.iinc 2 1, 3) := by decide +kernel
theorem d_SI_eveningsWith_23 : decode b_SI_eveningsWith 23 = .ok (.iinc 3 1, 3) := by decide +kernel
theorem d_SI_eveningsWith_26 : decode b_SI_eveningsWith 26 = .ok (.goto (-22), 3) := by decide +kernel
theorem d_SI_eveningsWith_29 : decode b_SI_eveningsWith 29 = .ok (.iload_n 2, 1) := by decide +kernel
theorem d_SI_eveningsWith_30 : decode b_SI_eveningsWith 30 = .ok (.bipush 8, 2) := by decide +kernel
theorem d_SI_eveningsWith_32 : decode b_SI_eveningsWith 32 = .ok (.invokestatic 50, 3) := by decide +kernel
theorem d_SI_eveningsWith_35 : decode b_SI_eveningsWith 35 = .ok (.ireturn, 1) := by decide +kernel
noncomputable def SI_eveningsWith_L4 (S : St) (x1 : Int32) (x2 : Int32) (x3 : Int32) : Option ((Int32 × Int32) × Nat) :=
  if 10 ≤ x3 then
      some ((x2, x3), 1)
    else
      chk (inb x3 10) <|
      if (S 46 (ix x3)) = x1 then
        some ((x2 + 1, x3 + 1), 0)
      else
        some ((x2, x3 + 1), 0)
noncomputable def SI_eveningsWith_J29 (S : St) (x2 : Int32) : Option (Int32) :=
  some (mn x2 8)
noncomputable def SI_eveningsWith (S : St) (x1 : Int32) : Option (Int32) :=
  bnd (lp (σ := Int32 × Int32) (fun q => SI_eveningsWith_L4 S x1 q.1 q.2) FZ (0, 0)) fun z1 =>
    SI_eveningsWith_J29 S z1.1.1
set_option maxHeartbeats 4000000 in
set_option maxRecDepth 100000 in
theorem L_SI_eveningsWith_4 (C : gCx p s m args meth c y_SI_eveningsWith.cls b_SI_eveningsWith 4 (some .int)) : ∀ (S : St) (x1 : Int32) (n : Nat) (x2 : Int32) (x3 : Int32) (r : (Int32 × Int32) × Nat), lp (σ := Int32 × Int32) (fun q => SI_eveningsWith_L4 S x1 q.1 q.2) n (x2, x3) = some r → (∀ (y2 : Int32) (y3 : Int32), r = ((y2, y3), 1) → ∀ (ls : Array Slot) (H : Heap) (locs : List Loc), GH w s A S H locs → lv_has ls 4 [(2, .int y2)] → W p l e (rmm 1 21) s m args below meth c H locs 0 0 Q (F0 m 29 ls [])) → ∀ (ls : Array Slot) (H : Heap) (locs : List Loc), GH w s A S H locs → lv_has ls 4 [(0, .ref (gad w 45)), (1, .int x1), (2, .int x2), (3, .int x3)] → W p l e (rmm 1 21) s m args below meth c H locs 0 0 Q (F0 m 4 ls []) := by
  have hx := C.1
  have hb := C.2.1
  intro S x1 n
  induction n with
  | zero => intro x2 x3 r h; cases h
  | succ n ih =>
    intro x2 x3 r h k1 ls H locs hG hl
    obtain ⟨z, h, hr⟩ := lp_succ h
    have h : SI_eveningsWith_L4 S x1 x2 x3 = some z := h
    unfold SI_eveningsWith_L4 at h
    refine lv_iload_n hx hb d_SI_eveningsWith_4 rfl (lv_at hl 3 rfl) ?_
    refine lv_bipush (v := 10) hx hb d_SI_eveningsWith_5 (by decide) ?_
    refine lv_icmp_ge (tgt := 29) hx hb d_SI_eveningsWith_7 (by decide) (fun hc => ?_) (fun hc => ?_)
    · replace h := it_t h hc
      exact k1 _ _ (lp_exit h hr) ls _ _ hG (lv_sub hl [2] rfl)
    · replace h := it_f h hc
      refine lv_aload_n hx hb d_SI_eveningsWith_10 rfl (lv_at hl 0 rfl) ?_
      refine g_get C hG (hG.lt (Nat.le_of_ble_eq_true rfl)) (ce45 w _) rfl inC5 0 (Nat.le_of_ble_eq_true rfl) qw182 rfl d_SI_eveningsWith_11 ?_
      refine lv_iload_n hx hb d_SI_eveningsWith_14 rfl (lv_at hl 3 rfl) ?_
      obtain ⟨hi1, h⟩ := chk_some h
      refine g_iald (j := ix x3) C hG (hG.lt (Nat.le_of_ble_eq_true rfl)) (ce46 w _) (inb_in hi1) rfl d_SI_eveningsWith_15 ?_
      refine lv_iload_n hx hb d_SI_eveningsWith_16 rfl (lv_at hl 1 rfl) ?_
      refine lv_icmp_ne (tgt := 23) hx hb d_SI_eveningsWith_17 (by decide) (fun hc => ?_) (fun hc => ?_)
      · replace h := it_f h hc
        refine lv_iinc (v := x3 + 1) (lv' := [(3, .int (x3 + 1)), (0, .ref (gad w 45)), (1, .int x1), (2, .int x2)]) hx hb d_SI_eveningsWith_23 hl (k := 3) rfl (congrArg (HAdd.hAdd x3) (by decide : Int32.ofInt 1 = 1)) (by decide) rfl (fun ls hl => ?_)
        refine lv_goto (tgt := 4) hx hb d_SI_eveningsWith_26 (by decide) ?_
        exact ih _ _ _ (lp_back h hr) k1 ls _ _ hG (lv_sub hl [1, 2, 3, 0] rfl)
      · replace h := it_t h hc
        refine lv_iinc (v := x2 + 1) (lv' := [(2, .int (x2 + 1)), (0, .ref (gad w 45)), (1, .int x1), (3, .int x3)]) hx hb d_SI_eveningsWith_20 hl (k := 2) rfl (congrArg (HAdd.hAdd x2) (by decide : Int32.ofInt 1 = 1)) (by decide) rfl (fun ls hl => ?_)
        refine lv_iinc (v := x3 + 1) (lv' := [(3, .int (x3 + 1)), (2, .int (x2 + 1)), (0, .ref (gad w 45)), (1, .int x1)]) hx hb d_SI_eveningsWith_23 hl (k := 3) rfl (congrArg (HAdd.hAdd x3) (by decide : Int32.ofInt 1 = 1)) (by decide) rfl (fun ls hl => ?_)
        refine lv_goto (tgt := 4) hx hb d_SI_eveningsWith_26 (by decide) ?_
        exact ih _ _ _ (lp_back h hr) k1 ls _ _ hG (lv_sub hl [2, 3, 1, 0] rfl)
set_option maxHeartbeats 4000000 in
set_option maxRecDepth 100000 in
theorem c_SI_eveningsWith (l : Launch) (w : gw) (S : St) (x1 : Int32)  {z : Int32} (h : (SI_eveningsWith S x1) = some z) : gMi l w y_SI_eveningsWith b_SI_eveningsWith 4 (some .int) (rmm 1 21) [.ref (gad w 45), .int x1] S z S := by
  unfold SI_eveningsWith at h
  refine g_met (Qc := gQi w z S) (by decide +kernel) (Nat.le_of_ble_eq_true rfl) ?_
  intro p e s m args below meth c A Q ls hQ C hG hl
  have hx := C.1
  have hb := C.2.1
  have hl : lv_has ls 4 [(0, .ref (gad w 45)), (1, .int x1)] := hl
  have J29 : ∀ (x2 : Int32), SI_eveningsWith_J29 S x2 = some z → ∀ (ls : Array Slot) (H : Heap) (locs : List Loc), GH w s A S H locs → lv_has ls 4 [(2, .int x2)] → W p l e (rmm 1 21) s m args below meth c H locs 0 0 Q (F0 m 29 ls []) := by
    intro x2 h ls H locs hG hl
    unfold SI_eveningsWith_J29 at h
    refine lv_iload_n hx hb d_SI_eveningsWith_29 rfl (lv_at hl 0 rfl) ?_
    refine lv_bipush (v := 8) hx hb d_SI_eveningsWith_30 (by decide) ?_
    refine g_min C hl.1 qw545 ⟨by decide, by decide⟩ (Nat.le_of_ble_eq_true rfl) ⟨Nat.zero_le _, Nat.zero_le _⟩ d_SI_eveningsWith_32 ?_
    exact g_iret C hG (Option.some.inj h) rfl hQ d_SI_eveningsWith_35
  refine lv_iconst (v := 0) hx hb d_SI_eveningsWith_0 (by decide) ?_
  refine lv_istore_n (lv' := [(2, .int 0), (0, .ref (gad w 45)), (1, .int x1)]) hx hb d_SI_eveningsWith_1 rfl hl (by decide) rfl (fun ls hl => ?_)
  refine lv_iconst (v := 0) hx hb d_SI_eveningsWith_2 (by decide) ?_
  refine lv_istore_n (lv' := [(3, .int 0), (2, .int 0), (0, .ref (gad w 45)), (1, .int x1)]) hx hb d_SI_eveningsWith_3 rfl hl (by decide) rfl (fun ls hl => ?_)
  obtain ⟨z1, hz1, h⟩ := bnd_some h
  refine L_SI_eveningsWith_4 C _ _ FZ _ _ _ hz1 ?_ ls _ _ hG (lv_sub hl [2, 3, 1, 0] rfl)
  intro y2 y3 e9 ls H locs hG hl
  subst e9
  exact J29 _ h ls _ _ hG (lv_sub hl [0] rfl)
theorem d_SI_waysWithOneMore_0 : decode b_SI_waysWithOneMore 0 = .ok (.iconst 0, 1) := by decide +kernel
theorem d_SI_waysWithOneMore_1 : decode b_SI_waysWithOneMore 1 = .ok (.istore_n 3, 1) := by decide +kernel
theorem d_SI_waysWithOneMore_2 : decode b_SI_waysWithOneMore 2 = .ok (.iconst 1, 1) := by decide +kernel
theorem d_SI_waysWithOneMore_3 : decode b_SI_waysWithOneMore 3 = .ok (.istore 4, 2) := by decide +kernel
theorem d_SI_waysWithOneMore_5 : decode b_SI_waysWithOneMore 5 = .ok (.iconst 0, 1) := by decide +kernel
theorem d_SI_waysWithOneMore_6 : decode b_SI_waysWithOneMore 6 = .ok (.istore 5, 2) := by decide +kernel
theorem d_SI_waysWithOneMore_8 : decode b_SI_waysWithOneMore 8 = .ok (.iload 5, 2) := by decide +kernel
theorem d_SI_waysWithOneMore_10 : decode b_SI_waysWithOneMore 10 = .ok (.iload_n 1, 1) := by decide +kernel
theorem d_SI_waysWithOneMore_11 : decode b_SI_waysWithOneMore 11 = .ok (.if_icmp .gt 44, 3) := by decide +kernel
theorem d_SI_waysWithOneMore_14 : decode b_SI_waysWithOneMore 14 = .ok (.iload 5, 2) := by decide +kernel
theorem d_SI_waysWithOneMore_16 : decode b_SI_waysWithOneMore 16 = .ok (.iload_n 2, 1) := by decide +kernel
theorem d_SI_waysWithOneMore_17 : decode b_SI_waysWithOneMore 17 = .ok (.if_icmp .gt 38, 3) := by decide +kernel
theorem d_SI_waysWithOneMore_20 : decode b_SI_waysWithOneMore 20 = .ok (.iload_n 3, 1) := by decide +kernel
theorem d_SI_waysWithOneMore_21 : decode b_SI_waysWithOneMore 21 = .ok (.iload 4, 2) := by decide +kernel
theorem d_SI_waysWithOneMore_23 : decode b_SI_waysWithOneMore 23 = .ok (.aload_n 0, 1) := by decide +kernel
theorem d_SI_waysWithOneMore_24 : decode b_SI_waysWithOneMore 24 = .ok (.getfield 15, 3) := by decide +kernel
theorem d_SI_waysWithOneMore_27 : decode b_SI_waysWithOneMore 27 = .ok (.iload_n 1, 1) := by decide +kernel
theorem d_SI_waysWithOneMore_28 : decode b_SI_waysWithOneMore 28 = .ok (.iload 5, 2) := by decide +kernel
theorem d_SI_waysWithOneMore_30 : decode b_SI_waysWithOneMore 30 = .ok (.isub, 1) := by decide +kernel
theorem d_SI_waysWithOneMore_31 : decode b_SI_waysWithOneMore 31 = .ok (.iaload, 1) := by decide +kernel
theorem d_SI_waysWithOneMore_32 : decode b_SI_waysWithOneMore 32 = .ok (.imul, 1) := by decide +kernel
theorem d_SI_waysWithOneMore_33 : decode b_SI_waysWithOneMore 33 = .ok (.iadd, 1) := by decide +kernel
theorem d_SI_waysWithOneMore_34 : decode b_SI_waysWithOneMore 34 = .ok (.istore_n 3, 1) := by decide +kernel
theorem d_SI_waysWithOneMore_35 : decode b_SI_waysWithOneMore 35 = .ok (.iload 4, 2) := by decide +kernel
theorem d_SI_waysWithOneMore_37 : decode b_SI_waysWithOneMore 37 = .ok (.iload_n 1, 1) := by decide +kernel
theorem d_SI_waysWithOneMore_38 : decode b_SI_waysWithOneMore 38 = .ok (.iload 5, 2) := by decide +kernel
theorem d_SI_waysWithOneMore_40 : decode b_SI_waysWithOneMore 40 = .ok (.isub, 1) := by decide +kernel
theorem d_SI_waysWithOneMore_41 : decode b_SI_waysWithOneMore 41 = .ok (.imul, 1) := by decide +kernel
theorem d_SI_waysWithOneMore_42 : decode b_SI_waysWithOneMore 42 = .ok (.iload 5, 2) := by decide +kernel
theorem d_SI_waysWithOneMore_44 : decode b_SI_waysWithOneMore 44 = .ok (.iconst 1, 1) := by decide +kernel
theorem d_SI_waysWithOneMore_45 : decode b_SI_waysWithOneMore 45 = .ok (.iadd, 1) := by decide +kernel
theorem d_SI_waysWithOneMore_46 : decode b_SI_waysWithOneMore 46 = .ok (.idiv, 1) := by decide +kernel
theorem d_SI_waysWithOneMore_47 : decode b_SI_waysWithOneMore 47 = .ok (.istore 4, 2) := by decide +kernel
theorem d_SI_waysWithOneMore_49 : decode b_SI_waysWithOneMore 49 = .ok (.iinc 5 1, 3) := by decide +kernel
theorem d_SI_waysWithOneMore_52 : decode b_SI_waysWithOneMore 52 = .ok (.goto (-44), 3) := by decide +kernel
theorem d_SI_waysWithOneMore_55 : decode b_SI_waysWithOneMore 55 = .ok (.iload_n 3, 1) := by decide +kernel
theorem d_SI_waysWithOneMore_56 : decode b_SI_waysWithOneMore 56 = .ok (.ireturn, 1) := by decide +kernel
noncomputable def SI_waysWithOneMore_L8 (S : St) (x1 : Int32) (x2 : Int32) (x3 : Int32) (x4 : Int32) (x5 : Int32) : Option ((Int32 × Int32 × Int32) × Nat) :=
  if x1 < x5 then
      some ((x3, x4, x5), 1)
    else
      if x2 < x5 then
        some ((x3, x4, x5), 1)
      else
        chk (inb (x1 - x5) 9) <|
        chk (nz32 (x5 + 1)) <|
        some ((x3 + (x4 * (S 47 (ix (x1 - x5)))), (x4 * (x1 - x5)) / (x5 + 1), x5 + 1), 0)
noncomputable def SI_waysWithOneMore_J55 (S : St) (x3 : Int32) : Option (Int32) :=
  some x3
noncomputable def SI_waysWithOneMore (S : St) (x1 : Int32) (x2 : Int32) : Option (Int32) :=
  bnd (lp (σ := Int32 × Int32 × Int32) (fun q => SI_waysWithOneMore_L8 S x1 x2 q.1 q.2.1 q.2.2) FZ (0, 1, 0)) fun z1 =>
    SI_waysWithOneMore_J55 S z1.1.1
set_option maxHeartbeats 4000000 in
set_option maxRecDepth 100000 in
theorem L_SI_waysWithOneMore_8 (C : gCx p s m args meth c y_SI_waysWithOneMore.cls b_SI_waysWithOneMore 6 (some .int)) : ∀ (S : St) (x1 : Int32) (x2 : Int32) (n : Nat) (x3 : Int32) (x4 : Int32) (x5 : Int32) (r : (Int32 × Int32 × Int32) × Nat), lp (σ := Int32 × Int32 × Int32) (fun q => SI_waysWithOneMore_L8 S x1 x2 q.1 q.2.1 q.2.2) n (x3, x4, x5) = some r → (∀ (y3 : Int32) (y4 : Int32) (y5 : Int32), r = ((y3, y4, y5), 1) → ∀ (ls : Array Slot) (H : Heap) (locs : List Loc), GH w s A S H locs → lv_has ls 6 [(3, .int y3)] → W p l e (rmm 0 0) s m args below meth c H locs 0 0 Q (F0 m 55 ls [])) → ∀ (ls : Array Slot) (H : Heap) (locs : List Loc), GH w s A S H locs → lv_has ls 6 [(0, .ref (gad w 45)), (1, .int x1), (2, .int x2), (3, .int x3), (4, .int x4), (5, .int x5)] → W p l e (rmm 0 0) s m args below meth c H locs 0 0 Q (F0 m 8 ls []) := by
  have hx := C.1
  have hb := C.2.1
  intro S x1 x2 n
  induction n with
  | zero => intro x3 x4 x5 r h; cases h
  | succ n ih =>
    intro x3 x4 x5 r h k1 ls H locs hG hl
    obtain ⟨z, h, hr⟩ := lp_succ h
    have h : SI_waysWithOneMore_L8 S x1 x2 x3 x4 x5 = some z := h
    unfold SI_waysWithOneMore_L8 at h
    refine lv_iload hx hb d_SI_waysWithOneMore_8 (lv_at hl 5 rfl) ?_
    refine lv_iload_n hx hb d_SI_waysWithOneMore_10 rfl (lv_at hl 1 rfl) ?_
    refine lv_icmp_gt (tgt := 55) hx hb d_SI_waysWithOneMore_11 (by decide) (fun hc => ?_) (fun hc => ?_)
    · replace h := it_t h hc
      exact k1 _ _ _ (lp_exit h hr) ls _ _ hG (lv_sub hl [3] rfl)
    · replace h := it_f h hc
      refine lv_iload hx hb d_SI_waysWithOneMore_14 (lv_at hl 5 rfl) ?_
      refine lv_iload_n hx hb d_SI_waysWithOneMore_16 rfl (lv_at hl 2 rfl) ?_
      refine lv_icmp_gt (tgt := 55) hx hb d_SI_waysWithOneMore_17 (by decide) (fun hc => ?_) (fun hc => ?_)
      · replace h := it_t h hc
        exact k1 _ _ _ (lp_exit h hr) ls _ _ hG (lv_sub hl [3] rfl)
      · replace h := it_f h hc
        refine lv_iload_n hx hb d_SI_waysWithOneMore_20 rfl (lv_at hl 3 rfl) ?_
        refine lv_iload hx hb d_SI_waysWithOneMore_21 (lv_at hl 4 rfl) ?_
        refine lv_aload_n hx hb d_SI_waysWithOneMore_23 rfl (lv_at hl 0 rfl) ?_
        refine g_get C hG (hG.lt (Nat.le_of_ble_eq_true rfl)) (ce45 w _) rfl inC5 1 (Nat.le_of_ble_eq_true rfl) qw184 rfl d_SI_waysWithOneMore_24 ?_
        refine lv_iload_n hx hb d_SI_waysWithOneMore_27 rfl (lv_at hl 1 rfl) ?_
        refine lv_iload hx hb d_SI_waysWithOneMore_28 (lv_at hl 5 rfl) ?_
        refine lv_isub hx hb d_SI_waysWithOneMore_30 ?_
        obtain ⟨hi1, h⟩ := chk_some h
        refine g_iald (j := ix (x1 - x5)) C hG (hG.lt (Nat.le_of_ble_eq_true rfl)) (ce47 w _) (inb_in hi1) rfl d_SI_waysWithOneMore_31 ?_
        refine lv_imul hx hb d_SI_waysWithOneMore_32 ?_
        refine lv_iadd hx hb d_SI_waysWithOneMore_33 ?_
        refine lv_istore_n (lv' := [(3, .int (x3 + (x4 * (S 47 (ix (x1 - x5)))))), (0, .ref (gad w 45)), (1, .int x1), (2, .int x2), (4, .int x4), (5, .int x5)]) hx hb d_SI_waysWithOneMore_34 rfl hl (by decide) rfl (fun ls hl => ?_)
        refine lv_iload hx hb d_SI_waysWithOneMore_35 (lv_at hl 4 rfl) ?_
        refine lv_iload_n hx hb d_SI_waysWithOneMore_37 rfl (lv_at hl 2 rfl) ?_
        refine lv_iload hx hb d_SI_waysWithOneMore_38 (lv_at hl 5 rfl) ?_
        refine lv_isub hx hb d_SI_waysWithOneMore_40 ?_
        refine lv_imul hx hb d_SI_waysWithOneMore_41 ?_
        refine lv_iload hx hb d_SI_waysWithOneMore_42 (lv_at hl 5 rfl) ?_
        refine lv_iconst (v := 1) hx hb d_SI_waysWithOneMore_44 (by decide) ?_
        refine lv_iadd hx hb d_SI_waysWithOneMore_45 ?_
        obtain ⟨hi2, h⟩ := chk_some h
        refine lv_idiv hx hb d_SI_waysWithOneMore_46 (nz32_in hi2) ?_
        refine lv_istore (lv' := [(4, .int ((x4 * (x1 - x5)) / (x5 + 1))), (3, .int (x3 + (x4 * (S 47 (ix (x1 - x5)))))), (0, .ref (gad w 45)), (1, .int x1), (2, .int x2), (5, .int x5)]) hx hb d_SI_waysWithOneMore_47 hl (by decide) rfl (fun ls hl => ?_)
        refine lv_iinc (v := x5 + 1) (lv' := [(5, .int (x5 + 1)), (4, .int ((x4 * (x1 - x5)) / (x5 + 1))), (3, .int (x3 + (x4 * (S 47 (ix (x1 - x5)))))), (0, .ref (gad w 45)), (1, .int x1), (2, .int x2)]) hx hb d_SI_waysWithOneMore_49 hl (k := 5) rfl (congrArg (HAdd.hAdd x5) (by decide : Int32.ofInt 1 = 1)) (by decide) rfl (fun ls hl => ?_)
        refine lv_goto (tgt := 8) hx hb d_SI_waysWithOneMore_52 (by decide) ?_
        exact ih _ _ _ _ (lp_back h hr) k1 ls _ _ hG (lv_sub hl [3, 4, 5, 2, 1, 0] rfl)
set_option maxHeartbeats 4000000 in
set_option maxRecDepth 100000 in
theorem c_SI_waysWithOneMore (l : Launch) (w : gw) (S : St) (x1 : Int32) (x2 : Int32)  {z : Int32} (h : (SI_waysWithOneMore S x1 x2) = some z) : gMi l w y_SI_waysWithOneMore b_SI_waysWithOneMore 6 (some .int) (rmm 0 0) [.ref (gad w 45), .int x1, .int x2] S z S := by
  unfold SI_waysWithOneMore at h
  refine g_met (Qc := gQi w z S) (by decide +kernel) (Nat.le_of_ble_eq_true rfl) ?_
  intro p e s m args below meth c A Q ls hQ C hG hl
  have hx := C.1
  have hb := C.2.1
  have hl : lv_has ls 6 [(0, .ref (gad w 45)), (1, .int x1), (2, .int x2)] := hl
  have J55 : ∀ (x3 : Int32), SI_waysWithOneMore_J55 S x3 = some z → ∀ (ls : Array Slot) (H : Heap) (locs : List Loc), GH w s A S H locs → lv_has ls 6 [(3, .int x3)] → W p l e (rmm 0 0) s m args below meth c H locs 0 0 Q (F0 m 55 ls []) := by
    intro x3 h ls H locs hG hl
    unfold SI_waysWithOneMore_J55 at h
    refine lv_iload_n hx hb d_SI_waysWithOneMore_55 rfl (lv_at hl 0 rfl) ?_
    exact g_iret C hG (Option.some.inj h) rfl hQ d_SI_waysWithOneMore_56
  refine lv_iconst (v := 0) hx hb d_SI_waysWithOneMore_0 (by decide) ?_
  refine lv_istore_n (lv' := [(3, .int 0), (0, .ref (gad w 45)), (1, .int x1), (2, .int x2)]) hx hb d_SI_waysWithOneMore_1 rfl hl (by decide) rfl (fun ls hl => ?_)
  refine lv_iconst (v := 1) hx hb d_SI_waysWithOneMore_2 (by decide) ?_
  refine lv_istore (lv' := [(4, .int 1), (3, .int 0), (0, .ref (gad w 45)), (1, .int x1), (2, .int x2)]) hx hb d_SI_waysWithOneMore_3 hl (by decide) rfl (fun ls hl => ?_)
  refine lv_iconst (v := 0) hx hb d_SI_waysWithOneMore_5 (by decide) ?_
  refine lv_istore (lv' := [(5, .int 0), (4, .int 1), (3, .int 0), (0, .ref (gad w 45)), (1, .int x1), (2, .int x2)]) hx hb d_SI_waysWithOneMore_6 hl (by decide) rfl (fun ls hl => ?_)
  obtain ⟨z1, hz1, h⟩ := bnd_some h
  refine L_SI_waysWithOneMore_8 C _ _ _ FZ _ _ _ _ hz1 ?_ ls _ _ hG (lv_sub hl [3, 4, 5, 2, 1, 0] rfl)
  intro y3 y4 y5 e9 ls H locs hG hl
  subst e9
  exact J55 _ h ls _ _ hG (lv_sub hl [0] rfl)
theorem d_TW_joyOfAll_0 : decode b_TW_joyOfAll 0 = .ok (.iconst 0, 1) := by decide +kernel
theorem d_TW_joyOfAll_1 : decode b_TW_joyOfAll 1 = .ok (.istore_n 2, 1) := by decide +kernel
theorem d_TW_joyOfAll_2 : decode b_TW_joyOfAll 2 = .ok (.iconst 0, 1) := by decide +kernel
theorem d_TW_joyOfAll_3 : decode b_TW_joyOfAll 3 = .ok (.istore_n 3, 1) := by decide +kernel
theorem d_TW_joyOfAll_4 : decode b_TW_joyOfAll 4 = .ok (.iload_n 3, 1) := by decide +kernel
theorem d_TW_joyOfAll_5 : decode b_TW_joyOfAll 5 = .ok (.iconst 5, 1) := by decide +kernel
theorem d_TW_joyOfAll_6 : decode b_TW_joyOfAll 6 = .ok (.if_icmp .ge 20, 3) := by decide +kernel
theorem d_TW_joyOfAll_9 : decode b_TW_joyOfAll 9 = .ok (.iload_n 2, 1) := by decide +kernel
theorem d_TW_joyOfAll_10 : decode b_TW_joyOfAll 10 = .ok (.aload_n 0, 1) := by decide +kernel
theorem d_TW_joyOfAll_11 : decode b_TW_joyOfAll 11 = .ok (.getfield 23, 3) := by decide +kernel
theorem d_TW_joyOfAll_14 : decode b_TW_joyOfAll 14 = .ok (.iload_n 3, 1) := by decide +kernel
theorem d_TW_joyOfAll_15 : decode b_TW_joyOfAll 15 = .ok (.aaload, 1) := by decide +kernel
theorem d_TW_joyOfAll_16 : decode b_TW_joyOfAll 16 = .ok (.iload_n 1, 1) := by decide +kernel
theorem d_TW_joyOfAll_17 : decode b_TW_joyOfAll 17 = .ok (.iaload, 1) := by decide +kernel
theorem d_TW_joyOfAll_18 : decode b_TW_joyOfAll 18 = .ok (.iadd, 1) := by decide +kernel
theorem d_TW_joyOfAll_19 : decode b_TW_joyOfAll 19 = .ok (.istore_n 2, 1) := by decide +kernel
theorem d_TW_joyOfAll_20 : decode b_TW_joyOfAll 20 = .ok (.iinc 3 1, 3) := by decide +kernel
theorem d_TW_joyOfAll_23 : decode b_TW_joyOfAll 23 = .ok (.goto (-19), 3) := by decide +kernel
theorem d_TW_joyOfAll_26 : decode b_TW_joyOfAll 26 = .ok (.iload_n 2, 1) := by decide +kernel
theorem d_TW_joyOfAll_27 : decode b_TW_joyOfAll 27 = .ok (.ireturn, 1) := by decide +kernel
noncomputable def TW_joyOfAll_L4 (S : St) (x1 : Int32) (x2 : Int32) (x3 : Int32) : Option ((Int32 × Int32) × Nat) :=
  if 5 ≤ x3 then
      some ((x2, x3), 1)
    else
      chk (inb x3 5) <|
      chk (inb x1 5) <|
      some ((x2 + (S (11 + (ix x3)) (ix x1)), x3 + 1), 0)
noncomputable def TW_joyOfAll_J26 (S : St) (x2 : Int32) : Option (Int32) :=
  some x2
noncomputable def TW_joyOfAll (S : St) (x1 : Int32) : Option (Int32) :=
  bnd (lp (σ := Int32 × Int32) (fun q => TW_joyOfAll_L4 S x1 q.1 q.2) FZ (0, 0)) fun z1 =>
    TW_joyOfAll_J26 S z1.1.1
set_option maxHeartbeats 4000000 in
set_option maxRecDepth 100000 in
theorem L_TW_joyOfAll_4 (C : gCx p s m args meth c y_TW_joyOfAll.cls b_TW_joyOfAll 4 (some .int)) : ∀ (S : St) (x1 : Int32) (n : Nat) (x2 : Int32) (x3 : Int32) (r : (Int32 × Int32) × Nat), lp (σ := Int32 × Int32) (fun q => TW_joyOfAll_L4 S x1 q.1 q.2) n (x2, x3) = some r → (∀ (y2 : Int32) (y3 : Int32), r = ((y2, y3), 1) → ∀ (ls : Array Slot) (H : Heap) (locs : List Loc), GH w s A S H locs → lv_has ls 4 [(2, .int y2)] → W p l e (rmm 0 0) s m args below meth c H locs 0 0 Q (F0 m 26 ls [])) → ∀ (ls : Array Slot) (H : Heap) (locs : List Loc), GH w s A S H locs → lv_has ls 4 [(0, .ref (gad w 1)), (1, .int x1), (2, .int x2), (3, .int x3)] → W p l e (rmm 0 0) s m args below meth c H locs 0 0 Q (F0 m 4 ls []) := by
  have hx := C.1
  have hb := C.2.1
  intro S x1 n
  induction n with
  | zero => intro x2 x3 r h; cases h
  | succ n ih =>
    intro x2 x3 r h k1 ls H locs hG hl
    obtain ⟨z, h, hr⟩ := lp_succ h
    have h : TW_joyOfAll_L4 S x1 x2 x3 = some z := h
    unfold TW_joyOfAll_L4 at h
    refine lv_iload_n hx hb d_TW_joyOfAll_4 rfl (lv_at hl 3 rfl) ?_
    refine lv_iconst (v := 5) hx hb d_TW_joyOfAll_5 (by decide) ?_
    refine lv_icmp_ge (tgt := 26) hx hb d_TW_joyOfAll_6 (by decide) (fun hc => ?_) (fun hc => ?_)
    · replace h := it_t h hc
      exact k1 _ _ (lp_exit h hr) ls _ _ hG (lv_sub hl [2] rfl)
    · replace h := it_f h hc
      refine lv_iload_n hx hb d_TW_joyOfAll_9 rfl (lv_at hl 2 rfl) ?_
      refine lv_aload_n hx hb d_TW_joyOfAll_10 rfl (lv_at hl 0 rfl) ?_
      refine g_get C hG (hG.lt (Nat.le_of_ble_eq_true rfl)) (ce1 w _) rfl inC6 3 (Nat.le_of_ble_eq_true rfl) qw38 rfl d_TW_joyOfAll_11 ?_
      refine lv_iload_n hx hb d_TW_joyOfAll_14 rfl (lv_at hl 3 rfl) ?_
      obtain ⟨hi1, h⟩ := chk_some h
      refine g_ald2 (j := ix x3) C hG (hG.lt (Nat.le_of_ble_eq_true rfl)) (ce10 w _) (inb_in hi1) rfl d_TW_joyOfAll_15 ?_
      have hr2 : ix x3 < 5 := row_lt (inb_in hi1)
      refine lv_iload_n hx hb d_TW_joyOfAll_16 rfl (lv_at hl 1 rfl) ?_
      obtain ⟨hi3, h⟩ := chk_some h
      refine g_iald (j := ix x1) C hG (hG.lt (by omega)) (cr10 w _ hr2) (inb_in hi3) rfl d_TW_joyOfAll_17 ?_
      refine lv_iadd hx hb d_TW_joyOfAll_18 ?_
      refine lv_istore_n (lv' := [(2, .int (x2 + (S (11 + (ix x3)) (ix x1)))), (0, .ref (gad w 1)), (1, .int x1), (3, .int x3)]) hx hb d_TW_joyOfAll_19 rfl hl (by decide) rfl (fun ls hl => ?_)
      refine lv_iinc (v := x3 + 1) (lv' := [(3, .int (x3 + 1)), (2, .int (x2 + (S (11 + (ix x3)) (ix x1)))), (0, .ref (gad w 1)), (1, .int x1)]) hx hb d_TW_joyOfAll_20 hl (k := 3) rfl (congrArg (HAdd.hAdd x3) (by decide : Int32.ofInt 1 = 1)) (by decide) rfl (fun ls hl => ?_)
      refine lv_goto (tgt := 4) hx hb d_TW_joyOfAll_23 (by decide) ?_
      exact ih _ _ _ (lp_back h hr) k1 ls _ _ hG (lv_sub hl [2, 3, 1, 0] rfl)
set_option maxHeartbeats 4000000 in
set_option maxRecDepth 100000 in
theorem c_TW_joyOfAll (l : Launch) (w : gw) (S : St) (x1 : Int32)  {z : Int32} (h : (TW_joyOfAll S x1) = some z) : gMi l w y_TW_joyOfAll b_TW_joyOfAll 4 (some .int) (rmm 0 0) [.ref (gad w 1), .int x1] S z S := by
  unfold TW_joyOfAll at h
  refine g_met (Qc := gQi w z S) (by decide +kernel) (Nat.le_of_ble_eq_true rfl) ?_
  intro p e s m args below meth c A Q ls hQ C hG hl
  have hx := C.1
  have hb := C.2.1
  have hl : lv_has ls 4 [(0, .ref (gad w 1)), (1, .int x1)] := hl
  have J26 : ∀ (x2 : Int32), TW_joyOfAll_J26 S x2 = some z → ∀ (ls : Array Slot) (H : Heap) (locs : List Loc), GH w s A S H locs → lv_has ls 4 [(2, .int x2)] → W p l e (rmm 0 0) s m args below meth c H locs 0 0 Q (F0 m 26 ls []) := by
    intro x2 h ls H locs hG hl
    unfold TW_joyOfAll_J26 at h
    refine lv_iload_n hx hb d_TW_joyOfAll_26 rfl (lv_at hl 0 rfl) ?_
    exact g_iret C hG (Option.some.inj h) rfl hQ d_TW_joyOfAll_27
  refine lv_iconst (v := 0) hx hb d_TW_joyOfAll_0 (by decide) ?_
  refine lv_istore_n (lv' := [(2, .int 0), (0, .ref (gad w 1)), (1, .int x1)]) hx hb d_TW_joyOfAll_1 rfl hl (by decide) rfl (fun ls hl => ?_)
  refine lv_iconst (v := 0) hx hb d_TW_joyOfAll_2 (by decide) ?_
  refine lv_istore_n (lv' := [(3, .int 0), (2, .int 0), (0, .ref (gad w 1)), (1, .int x1)]) hx hb d_TW_joyOfAll_3 rfl hl (by decide) rfl (fun ls hl => ?_)
  obtain ⟨z1, hz1, h⟩ := bnd_some h
  refine L_TW_joyOfAll_4 C _ _ FZ _ _ _ hz1 ?_ ls _ _ hG (lv_sub hl [2, 3, 1, 0] rfl)
  intro y2 y3 e9 ls H locs hG hl
  subst e9
  exact J26 _ h ls _ _ hG (lv_sub hl [0] rfl)
theorem d_TW_joyBy_0 : decode b_TW_joyBy 0 = .ok (.iload_n 1, 1) := by decide +kernel
theorem d_TW_joyBy_1 : decode b_TW_joyBy 1 = .ok (.invokestatic 38, 3) := by decide +kernel
theorem d_TW_joyBy_4 : decode b_TW_joyBy 4 = .ok (.ifCond .eq 19, 3) := by decide +kernel
theorem d_TW_joyBy_7 : decode b_TW_joyBy 7 = .ok (.aload_n 0, 1) := by decide +kernel
theorem d_TW_joyBy_8 : decode b_TW_joyBy 8 = .ok (.getfield 23, 3) := by decide +kernel
theorem d_TW_joyBy_11 : decode b_TW_joyBy 11 = .ok (.iload_n 2, 1) := by decide +kernel
theorem d_TW_joyBy_12 : decode b_TW_joyBy 12 = .ok (.aaload, 1) := by decide +kernel
theorem d_TW_joyBy_13 : decode b_TW_joyBy 13 = .ok (.aload_n 0, 1) := by decide +kernel
theorem d_TW_joyBy_14 : decode b_TW_joyBy 14 = .ok (.getfield 15, 3) := by decide +kernel
theorem d_TW_joyBy_17 : decode b_TW_joyBy 17 = .ok (.iload_n 1, 1) := by decide +kernel
theorem d_TW_joyBy_18 : decode b_TW_joyBy 18 = .ok (.iaload, 1) := by decide +kernel
theorem d_TW_joyBy_19 : decode b_TW_joyBy 19 = .ok (.iaload, 1) := by decide +kernel
theorem d_TW_joyBy_20 : decode b_TW_joyBy 20 = .ok (.goto 4, 3) := by decide +kernel
theorem d_TW_joyBy_23 : decode b_TW_joyBy 23 = .ok (.iconst 0, 1) := by decide +kernel
theorem d_TW_joyBy_24 : decode b_TW_joyBy 24 = .ok (.ireturn, 1) := by decide +kernel
noncomputable def TW_joyBy (S : St) (x1 : Int32) (x2 : Int32) : Option (Int32) :=
  if (X_isBidder x1) = 0 then
      some 0
    else
      chk (inb x2 5) <|
      chk (inb x1 5) <|
      chk (inb (S 3 (ix x1)) 5) <|
      some (S (11 + (ix x2)) (ix (S 3 (ix x1))))
set_option maxHeartbeats 4000000 in
set_option maxRecDepth 100000 in
theorem c_TW_joyBy (l : Launch) (w : gw) (S : St) (x1 : Int32) (x2 : Int32)  {z : Int32} (h : (TW_joyBy S x1 x2) = some z) : gMi l w y_TW_joyBy b_TW_joyBy 3 (some .int) (rmm 2 42) [.ref (gad w 1), .int x1, .int x2] S z S := by
  unfold TW_joyBy at h
  refine g_met (Qc := gQi w z S) (by decide +kernel) (Nat.le_of_ble_eq_true rfl) ?_
  intro p e s m args below meth c A Q ls hQ C hG hl
  have hx := C.1
  have hb := C.2.1
  have hl : lv_has ls 3 [(0, .ref (gad w 1)), (1, .int x1), (2, .int x2)] := hl
  refine lv_iload_n hx hb d_TW_joyBy_0 rfl (lv_at hl 1 rfl) ?_
  refine g_goi hG (g_runSN (n := 1) (As := [.int x1]) (rest := []) C hG (c_X_isBidder l w S x1 _) (hG.2.2.2.2.2.1.2.2.2.2.2.2.2.1) ⟨qw303, qw1, qw304, by decide +kernel, by decide +kernel, by decide +kernel⟩ rfl rfl ⟨by decide, by decide⟩ rfl hl.1 rfl (Nat.le_of_ble_eq_true rfl) d_TW_joyBy_1 ⟨Nat.zero_le _, Nat.zero_le _⟩) (fun H locs hG => ?_)
  refine lv_if_eq (tgt := 23) hx hb d_TW_joyBy_4 (by decide) (fun hc => ?_) (fun hc => ?_)
  · replace h := it_t h hc
    refine lv_iconst (v := 0) hx hb d_TW_joyBy_23 (by decide) ?_
    exact g_iret C hG (Option.some.inj h) rfl hQ d_TW_joyBy_24
  · replace h := it_f h hc
    refine lv_aload_n hx hb d_TW_joyBy_7 rfl (lv_at hl 0 rfl) ?_
    refine g_get C hG (hG.lt (Nat.le_of_ble_eq_true rfl)) (ce1 w _) rfl inC6 3 (Nat.le_of_ble_eq_true rfl) qw38 rfl d_TW_joyBy_8 ?_
    refine lv_iload_n hx hb d_TW_joyBy_11 rfl (lv_at hl 2 rfl) ?_
    obtain ⟨hi1, h⟩ := chk_some h
    refine g_ald2 (j := ix x2) C hG (hG.lt (Nat.le_of_ble_eq_true rfl)) (ce10 w _) (inb_in hi1) rfl d_TW_joyBy_12 ?_
    have hr2 : ix x2 < 5 := row_lt (inb_in hi1)
    refine lv_aload_n hx hb d_TW_joyBy_13 rfl (lv_at hl 0 rfl) ?_
    refine g_get C hG (hG.lt (Nat.le_of_ble_eq_true rfl)) (ce1 w _) rfl inC6 1 (Nat.le_of_ble_eq_true rfl) qw32 rfl d_TW_joyBy_14 ?_
    refine lv_iload_n hx hb d_TW_joyBy_17 rfl (lv_at hl 1 rfl) ?_
    obtain ⟨hi3, h⟩ := chk_some h
    refine g_iald (j := ix x1) C hG (hG.lt (Nat.le_of_ble_eq_true rfl)) (ce3 w _) (inb_in hi3) rfl d_TW_joyBy_18 ?_
    obtain ⟨hi4, h⟩ := chk_some h
    refine g_iald (j := ix (S 3 (ix x1))) C hG (hG.lt (by omega)) (cr10 w _ hr2) (inb_in hi4) rfl d_TW_joyBy_19 ?_
    refine lv_goto (tgt := 24) hx hb d_TW_joyBy_20 (by decide) ?_
    exact g_iret C hG (Option.some.inj h) rfl hQ d_TW_joyBy_24
theorem d_TW_valueTo_0 : decode b_TW_valueTo 0 = .ok (.iload_n 2, 1) := by decide +kernel
theorem d_TW_valueTo_1 : decode b_TW_valueTo 1 = .ok (.ifCond .lt 20, 3) := by decide +kernel
theorem d_TW_valueTo_4 : decode b_TW_valueTo 4 = .ok (.iload_n 2, 1) := by decide +kernel
theorem d_TW_valueTo_5 : decode b_TW_valueTo 5 = .ok (.bipush 10, 2) := by decide +kernel
theorem d_TW_valueTo_7 : decode b_TW_valueTo 7 = .ok (.if_icmp .ge 14, 3) := by decide +kernel
theorem d_TW_valueTo_10 : decode b_TW_valueTo 10 = .ok (.aload_n 0, 1) := by decide +kernel
theorem d_TW_valueTo_11 : decode b_TW_valueTo 11 = .ok (.getfield 20, 3) := by decide +kernel
theorem d_TW_valueTo_14 : decode b_TW_valueTo 14 = .ok (.iload_n 1, 1) := by decide +kernel
theorem d_TW_valueTo_15 : decode b_TW_valueTo 15 = .ok (.aaload, 1) := by decide +kernel
theorem d_TW_valueTo_16 : decode b_TW_valueTo 16 = .ok (.iload_n 2, 1) := by decide +kernel
theorem d_TW_valueTo_17 : decode b_TW_valueTo 17 = .ok (.iaload, 1) := by decide +kernel
theorem d_TW_valueTo_18 : decode b_TW_valueTo 18 = .ok (.goto 4, 3) := by decide +kernel
theorem d_TW_valueTo_21 : decode b_TW_valueTo 21 = .ok (.iconst 0, 1) := by decide +kernel
theorem d_TW_valueTo_22 : decode b_TW_valueTo 22 = .ok (.ireturn, 1) := by decide +kernel
noncomputable def TW_valueTo (S : St) (x1 : Int32) (x2 : Int32) : Option (Int32) :=
  if x2 < 0 then
      some 0
    else
      if 10 ≤ x2 then
        some 0
      else
        chk (inb x1 5) <|
        chk (inb x2 10) <|
        some (S (5 + (ix x1)) (ix x2))
set_option maxHeartbeats 4000000 in
set_option maxRecDepth 100000 in
theorem c_TW_valueTo (l : Launch) (w : gw) (S : St) (x1 : Int32) (x2 : Int32)  {z : Int32} (h : (TW_valueTo S x1 x2) = some z) : gMi l w y_TW_valueTo b_TW_valueTo 3 (some .int) (rmm 0 0) [.ref (gad w 1), .int x1, .int x2] S z S := by
  unfold TW_valueTo at h
  refine g_met (Qc := gQi w z S) (by decide +kernel) (Nat.le_of_ble_eq_true rfl) ?_
  intro p e s m args below meth c A Q ls hQ C hG hl
  have hx := C.1
  have hb := C.2.1
  have hl : lv_has ls 3 [(0, .ref (gad w 1)), (1, .int x1), (2, .int x2)] := hl
  refine lv_iload_n hx hb d_TW_valueTo_0 rfl (lv_at hl 2 rfl) ?_
  refine lv_if_lt (tgt := 21) hx hb d_TW_valueTo_1 (by decide) (fun hc => ?_) (fun hc => ?_)
  · replace h := it_t h hc
    refine lv_iconst (v := 0) hx hb d_TW_valueTo_21 (by decide) ?_
    exact g_iret C hG (Option.some.inj h) rfl hQ d_TW_valueTo_22
  · replace h := it_f h hc
    refine lv_iload_n hx hb d_TW_valueTo_4 rfl (lv_at hl 2 rfl) ?_
    refine lv_bipush (v := 10) hx hb d_TW_valueTo_5 (by decide) ?_
    refine lv_icmp_ge (tgt := 21) hx hb d_TW_valueTo_7 (by decide) (fun hc => ?_) (fun hc => ?_)
    · replace h := it_t h hc
      refine lv_iconst (v := 0) hx hb d_TW_valueTo_21 (by decide) ?_
      exact g_iret C hG (Option.some.inj h) rfl hQ d_TW_valueTo_22
    · replace h := it_f h hc
      refine lv_aload_n hx hb d_TW_valueTo_10 rfl (lv_at hl 0 rfl) ?_
      refine g_get C hG (hG.lt (Nat.le_of_ble_eq_true rfl)) (ce1 w _) rfl inC6 2 (Nat.le_of_ble_eq_true rfl) qw34 rfl d_TW_valueTo_11 ?_
      refine lv_iload_n hx hb d_TW_valueTo_14 rfl (lv_at hl 1 rfl) ?_
      obtain ⟨hi1, h⟩ := chk_some h
      refine g_ald2 (j := ix x1) C hG (hG.lt (Nat.le_of_ble_eq_true rfl)) (ce4 w _) (inb_in hi1) rfl d_TW_valueTo_15 ?_
      have hr2 : ix x1 < 5 := row_lt (inb_in hi1)
      refine lv_iload_n hx hb d_TW_valueTo_16 rfl (lv_at hl 2 rfl) ?_
      obtain ⟨hi3, h⟩ := chk_some h
      refine g_iald (j := ix x2) C hG (hG.lt (by omega)) (cr4 w _ hr2) (inb_in hi3) rfl d_TW_valueTo_17 ?_
      refine lv_goto (tgt := 22) hx hb d_TW_valueTo_18 (by decide) ?_
      exact g_iret C hG (Option.some.inj h) rfl hQ d_TW_valueTo_22
theorem d_TW_isAnyBusy_0 : decode b_TW_isAnyBusy 0 = .ok (.iconst 0, 1) := by decide +kernel
theorem d_TW_isAnyBusy_1 : decode b_TW_isAnyBusy 1 = .ok (.istore_n 3, 1) := by decide +kernel
theorem d_TW_isAnyBusy_2 : decode b_TW_isAnyBusy 2 = .ok (.iload_n 3, 1) := by decide +kernel
theorem d_TW_isAnyBusy_3 : decode b_TW_isAnyBusy 3 = .ok (.iconst 5, 1) := by decide +kernel
theorem d_TW_isAnyBusy_4 : decode b_TW_isAnyBusy 4 = .ok (.if_icmp .ge 32, 3) := by decide +kernel
theorem d_TW_isAnyBusy_7 : decode b_TW_isAnyBusy 7 = .ok (.iload_n 1, 1) := by decide +kernel
theorem d_TW_isAnyBusy_8 : decode b_TW_isAnyBusy 8 = .ok (.iload_n 3, 1) := by decide +kernel
theorem d_TW_isAnyBusy_9 : decode b_TW_isAnyBusy 9 = .ok (.ishr, 1) := by decide +kernel
theorem d_TW_isAnyBusy_10 : decode b_TW_isAnyBusy 10 = .ok (.iconst 1, 1) := by decide +kernel
theorem d_TW_isAnyBusy_11 : decode b_TW_isAnyBusy 11 = .ok (.iand, 1) := by decide +kernel
theorem d_TW_isAnyBusy_12 : decode b_TW_isAnyBusy 12 = .ok (.iconst 1, 1) := by decide +kernel
theorem d_TW_isAnyBusy_13 : decode b_TW_isAnyBusy 13 = .ok (.if_icmp .ne 17, 3) := by decide +kernel
theorem d_TW_isAnyBusy_16 : decode b_TW_isAnyBusy 16 = .ok (.aload_n 0, 1) := by decide +kernel
theorem d_TW_isAnyBusy_17 : decode b_TW_isAnyBusy 17 = .ok (.getfield 26, 3) := by decide +kernel
theorem d_TW_isAnyBusy_20 : decode b_TW_isAnyBusy 20 = .ok (.iload_n 3, 1) := by decide +kernel
theorem d_TW_isAnyBusy_21 : decode b_TW_isAnyBusy 21 = .ok (.aaload, 1) := by decide +kernel
theorem d_TW_isAnyBusy_22 : decode b_TW_isAnyBusy 22 = .ok (.iload_n 2, 1) := by decide +kernel
theorem d_TW_isAnyBusy_23 : decode b_TW_isAnyBusy 23 = .ok (.iaload, 1) := by decide +kernel
theorem d_TW_isAnyBusy_24 : decode b_TW_isAnyBusy 24 = .ok (.iconst 1, 1) := by decide +kernel
theorem d_TW_isAnyBusy_25 : decode b_TW_isAnyBusy 25 = .ok (.if_icmp .ne 5, 3) := by decide +kernel
theorem d_TW_isAnyBusy_28 : decode b_TW_isAnyBusy 28 = .ok (.iconst 1, 1) := by decide +kernel
theorem d_TW_isAnyBusy_29 : decode b_TW_isAnyBusy 29 = .ok (.ireturn, 1) := by decide +kernel
theorem d_TW_isAnyBusy_30 : decode b_TW_isAnyBusy 30 = .ok (.iinc 3 1, 3) := by decide +kernel
theorem d_TW_isAnyBusy_33 : decode b_TW_isAnyBusy 33 = .ok (.goto (-31), 3) := by decide +kernel
theorem d_TW_isAnyBusy_36 : decode b_TW_isAnyBusy 36 = .ok (.iconst 0, 1) := by decide +kernel
theorem d_TW_isAnyBusy_37 : decode b_TW_isAnyBusy 37 = .ok (.ireturn, 1) := by decide +kernel
noncomputable def TW_isAnyBusy_L2 (S : St) (x1 : Int32) (x2 : Int32) (x3 : Int32) : Option ((Int32) × Nat) :=
  if 5 ≤ x3 then
      some (x3, 2)
    else
      if ((x1 >>> (x3 &&& 31)) &&& 1) = 1 then
        chk (inb x3 5) <|
        chk (inb x2 10) <|
        if (S (17 + (ix x3)) (ix x2)) = 1 then
          some (x3, 1)
        else
          some ((x3 + 1), 0)
      else
        some ((x3 + 1), 0)
noncomputable def TW_isAnyBusy_J36 (S : St) : Option (Int32) :=
  some 0
noncomputable def TW_isAnyBusy_J28 (S : St) : Option (Int32) :=
  some 1
noncomputable def TW_isAnyBusy (S : St) (x1 : Int32) (x2 : Int32) : Option (Int32) :=
  bnd (lp (σ := Int32) (fun q => TW_isAnyBusy_L2 S x1 x2 q) FZ 0) fun z1 =>
    if z1.2 = 1 then
      TW_isAnyBusy_J28 S
    else TW_isAnyBusy_J36 S
set_option maxHeartbeats 4000000 in
set_option maxRecDepth 100000 in
theorem L_TW_isAnyBusy_2 (C : gCx p s m args meth c y_TW_isAnyBusy.cls b_TW_isAnyBusy 4 (some .boolean)) : ∀ (S : St) (x1 : Int32) (x2 : Int32) (n : Nat) (x3 : Int32) (r : (Int32) × Nat), lp (σ := Int32) (fun q => TW_isAnyBusy_L2 S x1 x2 q) n x3 = some r → (∀ (y3 : Int32), r = (y3, 1) → ∀ (ls : Array Slot) (H : Heap) (locs : List Loc), GH w s A S H locs → lv_has ls 4 [] → W p l e (rmm 0 0) s m args below meth c H locs 0 0 Q (F0 m 28 ls [])) → (∀ (y3 : Int32), r = (y3, 2) → ∀ (ls : Array Slot) (H : Heap) (locs : List Loc), GH w s A S H locs → lv_has ls 4 [] → W p l e (rmm 0 0) s m args below meth c H locs 0 0 Q (F0 m 36 ls [])) → ∀ (ls : Array Slot) (H : Heap) (locs : List Loc), GH w s A S H locs → lv_has ls 4 [(0, .ref (gad w 1)), (1, .int x1), (2, .int x2), (3, .int x3)] → W p l e (rmm 0 0) s m args below meth c H locs 0 0 Q (F0 m 2 ls []) := by
  have hx := C.1
  have hb := C.2.1
  intro S x1 x2 n
  induction n with
  | zero => intro x3 r h; cases h
  | succ n ih =>
    intro x3 r h k1 k2 ls H locs hG hl
    obtain ⟨z, h, hr⟩ := lp_succ h
    have h : TW_isAnyBusy_L2 S x1 x2 x3 = some z := h
    unfold TW_isAnyBusy_L2 at h
    refine lv_iload_n hx hb d_TW_isAnyBusy_2 rfl (lv_at hl 3 rfl) ?_
    refine lv_iconst (v := 5) hx hb d_TW_isAnyBusy_3 (by decide) ?_
    refine lv_icmp_ge (tgt := 36) hx hb d_TW_isAnyBusy_4 (by decide) (fun hc => ?_) (fun hc => ?_)
    · replace h := it_t h hc
      exact k2 _ (lp_exit h hr) ls _ _ hG (lv_sub hl [] rfl)
    · replace h := it_f h hc
      refine lv_iload_n hx hb d_TW_isAnyBusy_7 rfl (lv_at hl 1 rfl) ?_
      refine lv_iload_n hx hb d_TW_isAnyBusy_8 rfl (lv_at hl 3 rfl) ?_
      refine lv_ishr hx hb d_TW_isAnyBusy_9 ?_
      refine lv_iconst (v := 1) hx hb d_TW_isAnyBusy_10 (by decide) ?_
      refine lv_iand hx hb d_TW_isAnyBusy_11 ?_
      refine lv_iconst (v := 1) hx hb d_TW_isAnyBusy_12 (by decide) ?_
      refine lv_icmp_ne (tgt := 30) hx hb d_TW_isAnyBusy_13 (by decide) (fun hc => ?_) (fun hc => ?_)
      · replace h := it_f h hc
        refine lv_iinc (v := x3 + 1) (lv' := [(3, .int (x3 + 1)), (0, .ref (gad w 1)), (1, .int x1), (2, .int x2)]) hx hb d_TW_isAnyBusy_30 hl (k := 3) rfl (congrArg (HAdd.hAdd x3) (by decide : Int32.ofInt 1 = 1)) (by decide) rfl (fun ls hl => ?_)
        refine lv_goto (tgt := 2) hx hb d_TW_isAnyBusy_33 (by decide) ?_
        exact ih _ _ (lp_back h hr) k1 k2 ls _ _ hG (lv_sub hl [1, 2, 3, 0] rfl)
      · replace h := it_t h hc
        refine lv_aload_n hx hb d_TW_isAnyBusy_16 rfl (lv_at hl 0 rfl) ?_
        refine g_get C hG (hG.lt (Nat.le_of_ble_eq_true rfl)) (ce1 w _) rfl inC6 4 (Nat.le_of_ble_eq_true rfl) qw40 rfl d_TW_isAnyBusy_17 ?_
        refine lv_iload_n hx hb d_TW_isAnyBusy_20 rfl (lv_at hl 3 rfl) ?_
        obtain ⟨hi1, h⟩ := chk_some h
        refine g_ald2 (j := ix x3) C hG (hG.lt (Nat.le_of_ble_eq_true rfl)) (ce16 w _) (inb_in hi1) rfl d_TW_isAnyBusy_21 ?_
        have hr2 : ix x3 < 5 := row_lt (inb_in hi1)
        refine lv_iload_n hx hb d_TW_isAnyBusy_22 rfl (lv_at hl 2 rfl) ?_
        obtain ⟨hi3, h⟩ := chk_some h
        refine g_iald (j := ix x2) C hG (hG.lt (by omega)) (cr16 w _ hr2) (inb_in hi3) rfl d_TW_isAnyBusy_23 ?_
        refine lv_iconst (v := 1) hx hb d_TW_isAnyBusy_24 (by decide) ?_
        refine lv_icmp_ne (tgt := 30) hx hb d_TW_isAnyBusy_25 (by decide) (fun hc => ?_) (fun hc => ?_)
        · replace h := it_f h hc
          refine lv_iinc (v := x3 + 1) (lv' := [(3, .int (x3 + 1)), (0, .ref (gad w 1)), (1, .int x1), (2, .int x2)]) hx hb d_TW_isAnyBusy_30 hl (k := 3) rfl (congrArg (HAdd.hAdd x3) (by decide : Int32.ofInt 1 = 1)) (by decide) rfl (fun ls hl => ?_)
          refine lv_goto (tgt := 2) hx hb d_TW_isAnyBusy_33 (by decide) ?_
          exact ih _ _ (lp_back h hr) k1 k2 ls _ _ hG (lv_sub hl [1, 2, 3, 0] rfl)
        · replace h := it_t h hc
          exact k1 _ (lp_exit h hr) ls _ _ hG (lv_sub hl [] rfl)
set_option maxHeartbeats 4000000 in
set_option maxRecDepth 100000 in
theorem c_TW_isAnyBusy (l : Launch) (w : gw) (S : St) (x1 : Int32) (x2 : Int32)  {z : Int32} (h : (TW_isAnyBusy S x1 x2) = some z) : gMi l w y_TW_isAnyBusy b_TW_isAnyBusy 4 (some .boolean) (rmm 0 0) [.ref (gad w 1), .int x1, .int x2] S z S := by
  unfold TW_isAnyBusy at h
  refine g_met (Qc := gQi w z S) (by decide +kernel) (Nat.le_of_ble_eq_true rfl) ?_
  intro p e s m args below meth c A Q ls hQ C hG hl
  have hx := C.1
  have hb := C.2.1
  have hl : lv_has ls 4 [(0, .ref (gad w 1)), (1, .int x1), (2, .int x2)] := hl
  have J36 : TW_isAnyBusy_J36 S = some z → ∀ (ls : Array Slot) (H : Heap) (locs : List Loc), GH w s A S H locs → lv_has ls 4 [] → W p l e (rmm 0 0) s m args below meth c H locs 0 0 Q (F0 m 36 ls []) := by
    intro  h ls H locs hG hl
    unfold TW_isAnyBusy_J36 at h
    refine lv_iconst (v := 0) hx hb d_TW_isAnyBusy_36 (by decide) ?_
    exact g_zret C hG (Or.inl rfl) (Option.some.inj h) rfl hQ d_TW_isAnyBusy_37
  have J28 : TW_isAnyBusy_J28 S = some z → ∀ (ls : Array Slot) (H : Heap) (locs : List Loc), GH w s A S H locs → lv_has ls 4 [] → W p l e (rmm 0 0) s m args below meth c H locs 0 0 Q (F0 m 28 ls []) := by
    intro  h ls H locs hG hl
    unfold TW_isAnyBusy_J28 at h
    refine lv_iconst (v := 1) hx hb d_TW_isAnyBusy_28 (by decide) ?_
    exact g_zret C hG (Or.inr rfl) (Option.some.inj h) rfl hQ d_TW_isAnyBusy_29
  refine lv_iconst (v := 0) hx hb d_TW_isAnyBusy_0 (by decide) ?_
  refine lv_istore_n (lv' := [(3, .int 0), (0, .ref (gad w 1)), (1, .int x1), (2, .int x2)]) hx hb d_TW_isAnyBusy_1 rfl hl (by decide) rfl (fun ls hl => ?_)
  obtain ⟨z1, hz1, h⟩ := bnd_some h
  refine L_TW_isAnyBusy_2 C _ _ _ FZ _ _ hz1 ?_ ?_ ls _ _ hG (lv_sub hl [1, 2, 3, 0] rfl)
  · intro y3 e9 ls H locs hG hl
    subst e9
    replace h := it_t h rfl
    exact J28 h ls _ _ hG (lv_sub hl [] rfl)
  · intro y3 e9 ls H locs hG hl
    subst e9
    replace h := it_f h (show ¬ (2 : Nat) = 1 by decide)
    exact J36 h ls _ _ hG (lv_sub hl [] rfl)
theorem d_TW_biddersWith_0 : decode b_TW_biddersWith 0 = .ok (.iconst 0, 1) := by decide +kernel
theorem d_TW_biddersWith_1 : decode b_TW_biddersWith 1 = .ok (.istore_n 2, 1) := by decide +kernel
theorem d_TW_biddersWith_2 : decode b_TW_biddersWith 2 = .ok (.iconst 0, 1) := by decide +kernel
theorem d_TW_biddersWith_3 : decode b_TW_biddersWith 3 = .ok (.istore_n 3, 1) := by decide +kernel
theorem d_TW_biddersWith_4 : decode b_TW_biddersWith 4 = .ok (.iload_n 3, 1) := by decide +kernel
theorem d_TW_biddersWith_5 : decode b_TW_biddersWith 5 = .ok (.iconst 5, 1) := by decide +kernel
theorem d_TW_biddersWith_6 : decode b_TW_biddersWith 6 = .ok (.if_icmp .ge 25, 3) := by decide +kernel
theorem d_TW_biddersWith_9 : decode b_TW_biddersWith 9 = .ok (.aload_n 0, 1) := by decide +kernel
theorem d_TW_biddersWith_10 : decode b_TW_biddersWith 10 = .ok (.getfield 15, 3) := by decide +kernel
theorem d_TW_biddersWith_13 : decode b_TW_biddersWith 13 = .ok (.iload_n 3, 1) := by decide +kernel
theorem d_TW_biddersWith_14 : decode b_TW_biddersWith 14 = .ok (.iaload, 1) := by decide +kernel
theorem d_TW_biddersWith_15 : decode b_TW_biddersWith 15 = .ok (.iload_n 1, 1) := by decide +kernel
theorem d_TW_biddersWith_16 : decode b_TW_biddersWith 16 = .ok (.if_icmp .ne 9, 3) := by decide +kernel
theorem d_TW_biddersWith_19 : decode b_TW_biddersWith 19 = .ok (.iload_n 2, 1) := by decide +kernel
theorem d_TW_biddersWith_20 : decode b_TW_biddersWith 20 = .ok (.iconst 1, 1) := by decide +kernel
theorem d_TW_biddersWith_21 : decode b_TW_biddersWith 21 = .ok (.iload_n 3, 1) := by decide +kernel
theorem d_TW_biddersWith_22 : decode b_TW_biddersWith 22 = .ok (.ishl, 1) := by decide +kernel
theorem d_TW_biddersWith_23 : decode b_TW_biddersWith 23 = .ok (.ior, 1) := by decide +kernel
theorem d_TW_biddersWith_24 : decode b_TW_biddersWith 24 = .ok (.istore_n 2, 1) := by decide +kernel
theorem d_TW_biddersWith_25 : decode b_TW_biddersWith 25 = .ok (.iinc 3 1, 3) := by decide +kernel
theorem d_TW_biddersWith_28 : decode b_TW_biddersWith 28 = .ok (.goto (-24), 3) := by decide +kernel
theorem d_TW_biddersWith_31 : decode b_TW_biddersWith 31 = .ok (.iload_n 2, 1) := by decide +kernel
theorem d_TW_biddersWith_32 : decode b_TW_biddersWith 32 = .ok (.ireturn, 1) := by decide +kernel
noncomputable def TW_biddersWith_L4 (S : St) (x1 : Int32) (x2 : Int32) (x3 : Int32) : Option ((Int32 × Int32) × Nat) :=
  if 5 ≤ x3 then
      some ((x2, x3), 1)
    else
      chk (inb x3 5) <|
      if (S 3 (ix x3)) = x1 then
        some ((x2 ||| ((1 : Int32) <<< (x3 &&& 31)), x3 + 1), 0)
      else
        some ((x2, x3 + 1), 0)
noncomputable def TW_biddersWith_J31 (S : St) (x2 : Int32) : Option (Int32) :=
  some x2
noncomputable def TW_biddersWith (S : St) (x1 : Int32) : Option (Int32) :=
  bnd (lp (σ := Int32 × Int32) (fun q => TW_biddersWith_L4 S x1 q.1 q.2) FZ (0, 0)) fun z1 =>
    TW_biddersWith_J31 S z1.1.1
set_option maxHeartbeats 4000000 in
set_option maxRecDepth 100000 in
theorem L_TW_biddersWith_4 (C : gCx p s m args meth c y_TW_biddersWith.cls b_TW_biddersWith 4 (some .int)) : ∀ (S : St) (x1 : Int32) (n : Nat) (x2 : Int32) (x3 : Int32) (r : (Int32 × Int32) × Nat), lp (σ := Int32 × Int32) (fun q => TW_biddersWith_L4 S x1 q.1 q.2) n (x2, x3) = some r → (∀ (y2 : Int32) (y3 : Int32), r = ((y2, y3), 1) → ∀ (ls : Array Slot) (H : Heap) (locs : List Loc), GH w s A S H locs → lv_has ls 4 [(2, .int y2)] → W p l e (rmm 0 0) s m args below meth c H locs 0 0 Q (F0 m 31 ls [])) → ∀ (ls : Array Slot) (H : Heap) (locs : List Loc), GH w s A S H locs → lv_has ls 4 [(0, .ref (gad w 1)), (1, .int x1), (2, .int x2), (3, .int x3)] → W p l e (rmm 0 0) s m args below meth c H locs 0 0 Q (F0 m 4 ls []) := by
  have hx := C.1
  have hb := C.2.1
  intro S x1 n
  induction n with
  | zero => intro x2 x3 r h; cases h
  | succ n ih =>
    intro x2 x3 r h k1 ls H locs hG hl
    obtain ⟨z, h, hr⟩ := lp_succ h
    have h : TW_biddersWith_L4 S x1 x2 x3 = some z := h
    unfold TW_biddersWith_L4 at h
    refine lv_iload_n hx hb d_TW_biddersWith_4 rfl (lv_at hl 3 rfl) ?_
    refine lv_iconst (v := 5) hx hb d_TW_biddersWith_5 (by decide) ?_
    refine lv_icmp_ge (tgt := 31) hx hb d_TW_biddersWith_6 (by decide) (fun hc => ?_) (fun hc => ?_)
    · replace h := it_t h hc
      exact k1 _ _ (lp_exit h hr) ls _ _ hG (lv_sub hl [2] rfl)
    · replace h := it_f h hc
      refine lv_aload_n hx hb d_TW_biddersWith_9 rfl (lv_at hl 0 rfl) ?_
      refine g_get C hG (hG.lt (Nat.le_of_ble_eq_true rfl)) (ce1 w _) rfl inC6 1 (Nat.le_of_ble_eq_true rfl) qw32 rfl d_TW_biddersWith_10 ?_
      refine lv_iload_n hx hb d_TW_biddersWith_13 rfl (lv_at hl 3 rfl) ?_
      obtain ⟨hi1, h⟩ := chk_some h
      refine g_iald (j := ix x3) C hG (hG.lt (Nat.le_of_ble_eq_true rfl)) (ce3 w _) (inb_in hi1) rfl d_TW_biddersWith_14 ?_
      refine lv_iload_n hx hb d_TW_biddersWith_15 rfl (lv_at hl 1 rfl) ?_
      refine lv_icmp_ne (tgt := 25) hx hb d_TW_biddersWith_16 (by decide) (fun hc => ?_) (fun hc => ?_)
      · replace h := it_f h hc
        refine lv_iinc (v := x3 + 1) (lv' := [(3, .int (x3 + 1)), (0, .ref (gad w 1)), (1, .int x1), (2, .int x2)]) hx hb d_TW_biddersWith_25 hl (k := 3) rfl (congrArg (HAdd.hAdd x3) (by decide : Int32.ofInt 1 = 1)) (by decide) rfl (fun ls hl => ?_)
        refine lv_goto (tgt := 4) hx hb d_TW_biddersWith_28 (by decide) ?_
        exact ih _ _ _ (lp_back h hr) k1 ls _ _ hG (lv_sub hl [1, 2, 3, 0] rfl)
      · replace h := it_t h hc
        refine lv_iload_n hx hb d_TW_biddersWith_19 rfl (lv_at hl 2 rfl) ?_
        refine lv_iconst (v := 1) hx hb d_TW_biddersWith_20 (by decide) ?_
        refine lv_iload_n hx hb d_TW_biddersWith_21 rfl (lv_at hl 3 rfl) ?_
        refine lv_ishl hx hb d_TW_biddersWith_22 ?_
        refine lv_ior hx hb d_TW_biddersWith_23 ?_
        refine lv_istore_n (lv' := [(2, .int (x2 ||| ((1 : Int32) <<< (x3 &&& 31)))), (0, .ref (gad w 1)), (1, .int x1), (3, .int x3)]) hx hb d_TW_biddersWith_24 rfl hl (by decide) rfl (fun ls hl => ?_)
        refine lv_iinc (v := x3 + 1) (lv' := [(3, .int (x3 + 1)), (2, .int (x2 ||| ((1 : Int32) <<< (x3 &&& 31)))), (0, .ref (gad w 1)), (1, .int x1)]) hx hb d_TW_biddersWith_25 hl (k := 3) rfl (congrArg (HAdd.hAdd x3) (by decide : Int32.ofInt 1 = 1)) (by decide) rfl (fun ls hl => ?_)
        refine lv_goto (tgt := 4) hx hb d_TW_biddersWith_28 (by decide) ?_
        exact ih _ _ _ (lp_back h hr) k1 ls _ _ hG (lv_sub hl [2, 3, 1, 0] rfl)
set_option maxHeartbeats 4000000 in
set_option maxRecDepth 100000 in
theorem c_TW_biddersWith (l : Launch) (w : gw) (S : St) (x1 : Int32)  {z : Int32} (h : (TW_biddersWith S x1) = some z) : gMi l w y_TW_biddersWith b_TW_biddersWith 4 (some .int) (rmm 0 0) [.ref (gad w 1), .int x1] S z S := by
  unfold TW_biddersWith at h
  refine g_met (Qc := gQi w z S) (by decide +kernel) (Nat.le_of_ble_eq_true rfl) ?_
  intro p e s m args below meth c A Q ls hQ C hG hl
  have hx := C.1
  have hb := C.2.1
  have hl : lv_has ls 4 [(0, .ref (gad w 1)), (1, .int x1)] := hl
  have J31 : ∀ (x2 : Int32), TW_biddersWith_J31 S x2 = some z → ∀ (ls : Array Slot) (H : Heap) (locs : List Loc), GH w s A S H locs → lv_has ls 4 [(2, .int x2)] → W p l e (rmm 0 0) s m args below meth c H locs 0 0 Q (F0 m 31 ls []) := by
    intro x2 h ls H locs hG hl
    unfold TW_biddersWith_J31 at h
    refine lv_iload_n hx hb d_TW_biddersWith_31 rfl (lv_at hl 0 rfl) ?_
    exact g_iret C hG (Option.some.inj h) rfl hQ d_TW_biddersWith_32
  refine lv_iconst (v := 0) hx hb d_TW_biddersWith_0 (by decide) ?_
  refine lv_istore_n (lv' := [(2, .int 0), (0, .ref (gad w 1)), (1, .int x1)]) hx hb d_TW_biddersWith_1 rfl hl (by decide) rfl (fun ls hl => ?_)
  refine lv_iconst (v := 0) hx hb d_TW_biddersWith_2 (by decide) ?_
  refine lv_istore_n (lv' := [(3, .int 0), (2, .int 0), (0, .ref (gad w 1)), (1, .int x1)]) hx hb d_TW_biddersWith_3 rfl hl (by decide) rfl (fun ls hl => ?_)
  obtain ⟨z1, hz1, h⟩ := bnd_some h
  refine L_TW_biddersWith_4 C _ _ FZ _ _ _ hz1 ?_ ls _ _ hG (lv_sub hl [2, 3, 1, 0] rfl)
  intro y2 y3 e9 ls H locs hG hl
  subst e9
  exact J31 _ h ls _ _ hG (lv_sub hl [0] rfl)
theorem d_JI_bitCount_0 : decode b_JI_bitCount 0 = .ok (.iload_n 0, 1) := by decide +kernel
theorem d_JI_bitCount_1 : decode b_JI_bitCount 1 = .ok (.iload_n 0, 1) := by decide +kernel
theorem d_JI_bitCount_2 : decode b_JI_bitCount 2 = .ok (.iconst 1, 1) := by decide +kernel
theorem d_JI_bitCount_3 : decode b_JI_bitCount 3 = .ok (.iushr, 1) := by decide +kernel
theorem d_JI_bitCount_4 : decode b_JI_bitCount 4 = .ok (.ldc_w 265, 3) := by decide +kernel
theorem d_JI_bitCount_7 : decode b_JI_bitCount 7 = .ok (.iand, 1) := by decide +kernel
theorem d_JI_bitCount_8 : decode b_JI_bitCount 8 = .ok (.isub, 1) := by decide +kernel
theorem d_JI_bitCount_9 : decode b_JI_bitCount 9 = .ok (.istore_n 0, 1) := by decide +kernel
theorem d_JI_bitCount_10 : decode b_JI_bitCount 10 = .ok (.iload_n 0, 1) := by decide +kernel
theorem d_JI_bitCount_11 : decode b_JI_bitCount 11 = .ok (.ldc_w 266, 3) := by decide +kernel
theorem d_JI_bitCount_14 : decode b_JI_bitCount 14 = .ok (.iand, 1) := by decide +kernel
theorem d_JI_bitCount_15 : decode b_JI_bitCount 15 = .ok (.iload_n 0, 1) := by decide +kernel
theorem d_JI_bitCount_16 : decode b_JI_bitCount 16 = .ok (.iconst 2, 1) := by decide +kernel
theorem d_JI_bitCount_17 : decode b_JI_bitCount 17 = .ok (.iushr, 1) := by decide +kernel
theorem d_JI_bitCount_18 : decode b_JI_bitCount 18 = .ok (.ldc_w 266, 3) := by decide +kernel
theorem d_JI_bitCount_21 : decode b_JI_bitCount 21 = .ok (.iand, 1) := by decide +kernel
theorem d_JI_bitCount_22 : decode b_JI_bitCount 22 = .ok (.iadd, 1) := by decide +kernel
theorem d_JI_bitCount_23 : decode b_JI_bitCount 23 = .ok (.istore_n 0, 1) := by decide +kernel
theorem d_JI_bitCount_24 : decode b_JI_bitCount 24 = .ok (.iload_n 0, 1) := by decide +kernel
theorem d_JI_bitCount_25 : decode b_JI_bitCount 25 = .ok (.iload_n 0, 1) := by decide +kernel
theorem d_JI_bitCount_26 : decode b_JI_bitCount 26 = .ok (.iconst 4, 1) := by decide +kernel
theorem d_JI_bitCount_27 : decode b_JI_bitCount 27 = .ok (.iushr, 1) := by decide +kernel
theorem d_JI_bitCount_28 : decode b_JI_bitCount 28 = .ok (.iadd, 1) := by decide +kernel
theorem d_JI_bitCount_29 : decode b_JI_bitCount 29 = .ok (.ldc_w 267, 3) := by decide +kernel
theorem d_JI_bitCount_32 : decode b_JI_bitCount 32 = .ok (.iand, 1) := by decide +kernel
theorem d_JI_bitCount_33 : decode b_JI_bitCount 33 = .ok (.istore_n 0, 1) := by decide +kernel
theorem d_JI_bitCount_34 : decode b_JI_bitCount 34 = .ok (.iload_n 0, 1) := by decide +kernel
theorem d_JI_bitCount_35 : decode b_JI_bitCount 35 = .ok (.iload_n 0, 1) := by decide +kernel
theorem d_JI_bitCount_36 : decode b_JI_bitCount 36 = .ok (.bipush 8, 2) := by decide +kernel
theorem d_JI_bitCount_38 : decode b_JI_bitCount 38 = .ok (.iushr, 1) := by decide +kernel
theorem d_JI_bitCount_39 : decode b_JI_bitCount 39 = .ok (.iadd, 1) := by decide +kernel
theorem d_JI_bitCount_40 : decode b_JI_bitCount 40 = .ok (.istore_n 0, 1) := by decide +kernel
theorem d_JI_bitCount_41 : decode b_JI_bitCount 41 = .ok (.iload_n 0, 1) := by decide +kernel
theorem d_JI_bitCount_42 : decode b_JI_bitCount 42 = .ok (.iload_n 0, 1) := by decide +kernel
theorem d_JI_bitCount_43 : decode b_JI_bitCount 43 = .ok (.bipush 16, 2) := by decide +kernel
theorem d_JI_bitCount_45 : decode b_JI_bitCount 45 = .ok (.iushr, 1) := by decide +kernel
theorem d_JI_bitCount_46 : decode b_JI_bitCount 46 = .ok (.iadd, 1) := by decide +kernel
theorem d_JI_bitCount_47 : decode b_JI_bitCount 47 = .ok (.istore_n 0, 1) := by decide +kernel
theorem d_JI_bitCount_48 : decode b_JI_bitCount 48 = .ok (.iload_n 0, 1) := by decide +kernel
theorem d_JI_bitCount_49 : decode b_JI_bitCount 49 = .ok (.bipush 63, 2) := by decide +kernel
theorem d_JI_bitCount_51 : decode b_JI_bitCount 51 = .ok (.iand, 1) := by decide +kernel
theorem d_JI_bitCount_52 : decode b_JI_bitCount 52 = .ok (.ireturn, 1) := by decide +kernel
noncomputable def JI_bitCount (x0 : Int32) : Int32 :=
  (((((((x0 - (((x0.toUInt32 >>> ((1 : Int32).toUInt32 &&& Int32.toUInt32 31)).toInt32) &&& 1431655765)) &&& 858993459) + ((((x0 - (((x0.toUInt32 >>> ((1 : Int32).toUInt32 &&& Int32.toUInt32 31)).toInt32) &&& 1431655765)).toUInt32 >>> ((2 : Int32).toUInt32 &&& Int32.toUInt32 31)).toInt32) &&& 858993459)) + (((((x0 - (((x0.toUInt32 >>> ((1 : Int32).toUInt32 &&& Int32.toUInt32 31)).toInt32) &&& 1431655765)) &&& 858993459) + ((((x0 - (((x0.toUInt32 >>> ((1 : Int32).toUInt32 &&& Int32.toUInt32 31)).toInt32) &&& 1431655765)).toUInt32 >>> ((2 : Int32).toUInt32 &&& Int32.toUInt32 31)).toInt32) &&& 858993459)).toUInt32 >>> ((4 : Int32).toUInt32 &&& Int32.toUInt32 31)).toInt32)) &&& 252645135) + (((((((x0 - (((x0.toUInt32 >>> ((1 : Int32).toUInt32 &&& Int32.toUInt32 31)).toInt32) &&& 1431655765)) &&& 858993459) + ((((x0 - (((x0.toUInt32 >>> ((1 : Int32).toUInt32 &&& Int32.toUInt32 31)).toInt32) &&& 1431655765)).toUInt32 >>> ((2 : Int32).toUInt32 &&& Int32.toUInt32 31)).toInt32) &&& 858993459)) + (((((x0 - (((x0.toUInt32 >>> ((1 : Int32).toUInt32 &&& Int32.toUInt32 31)).toInt32) &&& 1431655765)) &&& 858993459) + ((((x0 - (((x0.toUInt32 >>> ((1 : Int32).toUInt32 &&& Int32.toUInt32 31)).toInt32) &&& 1431655765)).toUInt32 >>> ((2 : Int32).toUInt32 &&& Int32.toUInt32 31)).toInt32) &&& 858993459)).toUInt32 >>> ((4 : Int32).toUInt32 &&& Int32.toUInt32 31)).toInt32)) &&& 252645135).toUInt32 >>> ((8 : Int32).toUInt32 &&& Int32.toUInt32 31)).toInt32)) + ((((((((x0 - (((x0.toUInt32 >>> ((1 : Int32).toUInt32 &&& Int32.toUInt32 31)).toInt32) &&& 1431655765)) &&& 858993459) + ((((x0 - (((x0.toUInt32 >>> ((1 : Int32).toUInt32 &&& Int32.toUInt32 31)).toInt32) &&& 1431655765)).toUInt32 >>> ((2 : Int32).toUInt32 &&& Int32.toUInt32 31)).toInt32) &&& 858993459)) + (((((x0 - (((x0.toUInt32 >>> ((1 : Int32).toUInt32 &&& Int32.toUInt32 31)).toInt32) &&& 1431655765)) &&& 858993459) + ((((x0 - (((x0.toUInt32 >>> ((1 : Int32).toUInt32 &&& Int32.toUInt32 31)).toInt32) &&& 1431655765)).toUInt32 >>> ((2 : Int32).toUInt32 &&& Int32.toUInt32 31)).toInt32) &&& 858993459)).toUInt32 >>> ((4 : Int32).toUInt32 &&& Int32.toUInt32 31)).toInt32)) &&& 252645135) + (((((((x0 - (((x0.toUInt32 >>> ((1 : Int32).toUInt32 &&& Int32.toUInt32 31)).toInt32) &&& 1431655765)) &&& 858993459) + ((((x0 - (((x0.toUInt32 >>> ((1 : Int32).toUInt32 &&& Int32.toUInt32 31)).toInt32) &&& 1431655765)).toUInt32 >>> ((2 : Int32).toUInt32 &&& Int32.toUInt32 31)).toInt32) &&& 858993459)) + (((((x0 - (((x0.toUInt32 >>> ((1 : Int32).toUInt32 &&& Int32.toUInt32 31)).toInt32) &&& 1431655765)) &&& 858993459) + ((((x0 - (((x0.toUInt32 >>> ((1 : Int32).toUInt32 &&& Int32.toUInt32 31)).toInt32) &&& 1431655765)).toUInt32 >>> ((2 : Int32).toUInt32 &&& Int32.toUInt32 31)).toInt32) &&& 858993459)).toUInt32 >>> ((4 : Int32).toUInt32 &&& Int32.toUInt32 31)).toInt32)) &&& 252645135).toUInt32 >>> ((8 : Int32).toUInt32 &&& Int32.toUInt32 31)).toInt32)).toUInt32 >>> ((16 : Int32).toUInt32 &&& Int32.toUInt32 31)).toInt32)) &&& 63
set_option maxHeartbeats 4000000 in
set_option maxRecDepth 100000 in
theorem c_JI_bitCount (l : Launch) (w : gw) (S : St) (x0 : Int32)   : gMi l w y_JI_bitCount b_JI_bitCount 1 (some .int) (rmm 0 0) [.int x0] S (JI_bitCount x0) S := by
  generalize h : JI_bitCount x0 = z
  unfold JI_bitCount at h
  refine g_met (Qc := gQi w z S) (by decide +kernel) (Nat.le_of_ble_eq_true rfl) ?_
  intro p e s m args below meth c A Q ls hQ C hG hl
  have hx := C.1
  have hb := C.2.1
  have hl : lv_has ls 1 [(0, .int x0)] := hl
  refine lv_iload_n hx hb d_JI_bitCount_0 rfl (lv_at hl 0 rfl) ?_
  refine lv_iload_n hx hb d_JI_bitCount_1 rfl (lv_at hl 0 rfl) ?_
  refine lv_iconst (v := 1) hx hb d_JI_bitCount_2 (by decide) ?_
  refine lv_iushr (v := (x0.toUInt32 >>> ((1 : Int32).toUInt32 &&& Int32.toUInt32 31)).toInt32) hx hb d_JI_bitCount_3 rfl ?_
  refine lv_ldcw (v := 1431655765) hx hb C.2.2.2.1 (C.2.2.2.2.1 _ qw498) d_JI_bitCount_4 ?_
  refine lv_iand hx hb d_JI_bitCount_7 ?_
  refine lv_isub hx hb d_JI_bitCount_8 ?_
  refine lv_istore_n (lv' := [(0, .int (x0 - (((x0.toUInt32 >>> ((1 : Int32).toUInt32 &&& Int32.toUInt32 31)).toInt32) &&& 1431655765)))]) hx hb d_JI_bitCount_9 rfl hl (by decide) rfl (fun ls hl => ?_)
  refine lv_iload_n hx hb d_JI_bitCount_10 rfl (lv_at hl 0 rfl) ?_
  refine lv_ldcw (v := 858993459) hx hb C.2.2.2.1 (C.2.2.2.2.1 _ qw499) d_JI_bitCount_11 ?_
  refine lv_iand hx hb d_JI_bitCount_14 ?_
  refine lv_iload_n hx hb d_JI_bitCount_15 rfl (lv_at hl 0 rfl) ?_
  refine lv_iconst (v := 2) hx hb d_JI_bitCount_16 (by decide) ?_
  refine lv_iushr (v := ((x0 - (((x0.toUInt32 >>> ((1 : Int32).toUInt32 &&& Int32.toUInt32 31)).toInt32) &&& 1431655765)).toUInt32 >>> ((2 : Int32).toUInt32 &&& Int32.toUInt32 31)).toInt32) hx hb d_JI_bitCount_17 rfl ?_
  refine lv_ldcw (v := 858993459) hx hb C.2.2.2.1 (C.2.2.2.2.1 _ qw499) d_JI_bitCount_18 ?_
  refine lv_iand hx hb d_JI_bitCount_21 ?_
  refine lv_iadd hx hb d_JI_bitCount_22 ?_
  refine lv_istore_n (lv' := [(0, .int (((x0 - (((x0.toUInt32 >>> ((1 : Int32).toUInt32 &&& Int32.toUInt32 31)).toInt32) &&& 1431655765)) &&& 858993459) + ((((x0 - (((x0.toUInt32 >>> ((1 : Int32).toUInt32 &&& Int32.toUInt32 31)).toInt32) &&& 1431655765)).toUInt32 >>> ((2 : Int32).toUInt32 &&& Int32.toUInt32 31)).toInt32) &&& 858993459)))]) hx hb d_JI_bitCount_23 rfl hl (by decide) rfl (fun ls hl => ?_)
  refine lv_iload_n hx hb d_JI_bitCount_24 rfl (lv_at hl 0 rfl) ?_
  refine lv_iload_n hx hb d_JI_bitCount_25 rfl (lv_at hl 0 rfl) ?_
  refine lv_iconst (v := 4) hx hb d_JI_bitCount_26 (by decide) ?_
  refine lv_iushr (v := ((((x0 - (((x0.toUInt32 >>> ((1 : Int32).toUInt32 &&& Int32.toUInt32 31)).toInt32) &&& 1431655765)) &&& 858993459) + ((((x0 - (((x0.toUInt32 >>> ((1 : Int32).toUInt32 &&& Int32.toUInt32 31)).toInt32) &&& 1431655765)).toUInt32 >>> ((2 : Int32).toUInt32 &&& Int32.toUInt32 31)).toInt32) &&& 858993459)).toUInt32 >>> ((4 : Int32).toUInt32 &&& Int32.toUInt32 31)).toInt32) hx hb d_JI_bitCount_27 rfl ?_
  refine lv_iadd hx hb d_JI_bitCount_28 ?_
  refine lv_ldcw (v := 252645135) hx hb C.2.2.2.1 (C.2.2.2.2.1 _ qw500) d_JI_bitCount_29 ?_
  refine lv_iand hx hb d_JI_bitCount_32 ?_
  refine lv_istore_n (lv' := [(0, .int (((((x0 - (((x0.toUInt32 >>> ((1 : Int32).toUInt32 &&& Int32.toUInt32 31)).toInt32) &&& 1431655765)) &&& 858993459) + ((((x0 - (((x0.toUInt32 >>> ((1 : Int32).toUInt32 &&& Int32.toUInt32 31)).toInt32) &&& 1431655765)).toUInt32 >>> ((2 : Int32).toUInt32 &&& Int32.toUInt32 31)).toInt32) &&& 858993459)) + (((((x0 - (((x0.toUInt32 >>> ((1 : Int32).toUInt32 &&& Int32.toUInt32 31)).toInt32) &&& 1431655765)) &&& 858993459) + ((((x0 - (((x0.toUInt32 >>> ((1 : Int32).toUInt32 &&& Int32.toUInt32 31)).toInt32) &&& 1431655765)).toUInt32 >>> ((2 : Int32).toUInt32 &&& Int32.toUInt32 31)).toInt32) &&& 858993459)).toUInt32 >>> ((4 : Int32).toUInt32 &&& Int32.toUInt32 31)).toInt32)) &&& 252645135))]) hx hb d_JI_bitCount_33 rfl hl (by decide) rfl (fun ls hl => ?_)
  refine lv_iload_n hx hb d_JI_bitCount_34 rfl (lv_at hl 0 rfl) ?_
  refine lv_iload_n hx hb d_JI_bitCount_35 rfl (lv_at hl 0 rfl) ?_
  refine lv_bipush (v := 8) hx hb d_JI_bitCount_36 (by decide) ?_
  refine lv_iushr (v := ((((((x0 - (((x0.toUInt32 >>> ((1 : Int32).toUInt32 &&& Int32.toUInt32 31)).toInt32) &&& 1431655765)) &&& 858993459) + ((((x0 - (((x0.toUInt32 >>> ((1 : Int32).toUInt32 &&& Int32.toUInt32 31)).toInt32) &&& 1431655765)).toUInt32 >>> ((2 : Int32).toUInt32 &&& Int32.toUInt32 31)).toInt32) &&& 858993459)) + (((((x0 - (((x0.toUInt32 >>> ((1 : Int32).toUInt32 &&& Int32.toUInt32 31)).toInt32) &&& 1431655765)) &&& 858993459) + ((((x0 - (((x0.toUInt32 >>> ((1 : Int32).toUInt32 &&& Int32.toUInt32 31)).toInt32) &&& 1431655765)).toUInt32 >>> ((2 : Int32).toUInt32 &&& Int32.toUInt32 31)).toInt32) &&& 858993459)).toUInt32 >>> ((4 : Int32).toUInt32 &&& Int32.toUInt32 31)).toInt32)) &&& 252645135).toUInt32 >>> ((8 : Int32).toUInt32 &&& Int32.toUInt32 31)).toInt32) hx hb d_JI_bitCount_38 rfl ?_
  refine lv_iadd hx hb d_JI_bitCount_39 ?_
  refine lv_istore_n (lv' := [(0, .int ((((((x0 - (((x0.toUInt32 >>> ((1 : Int32).toUInt32 &&& Int32.toUInt32 31)).toInt32) &&& 1431655765)) &&& 858993459) + ((((x0 - (((x0.toUInt32 >>> ((1 : Int32).toUInt32 &&& Int32.toUInt32 31)).toInt32) &&& 1431655765)).toUInt32 >>> ((2 : Int32).toUInt32 &&& Int32.toUInt32 31)).toInt32) &&& 858993459)) + (((((x0 - (((x0.toUInt32 >>> ((1 : Int32).toUInt32 &&& Int32.toUInt32 31)).toInt32) &&& 1431655765)) &&& 858993459) + ((((x0 - (((x0.toUInt32 >>> ((1 : Int32).toUInt32 &&& Int32.toUInt32 31)).toInt32) &&& 1431655765)).toUInt32 >>> ((2 : Int32).toUInt32 &&& Int32.toUInt32 31)).toInt32) &&& 858993459)).toUInt32 >>> ((4 : Int32).toUInt32 &&& Int32.toUInt32 31)).toInt32)) &&& 252645135) + (((((((x0 - (((x0.toUInt32 >>> ((1 : Int32).toUInt32 &&& Int32.toUInt32 31)).toInt32) &&& 1431655765)) &&& 858993459) + ((((x0 - (((x0.toUInt32 >>> ((1 : Int32).toUInt32 &&& Int32.toUInt32 31)).toInt32) &&& 1431655765)).toUInt32 >>> ((2 : Int32).toUInt32 &&& Int32.toUInt32 31)).toInt32) &&& 858993459)) + (((((x0 - (((x0.toUInt32 >>> ((1 : Int32).toUInt32 &&& Int32.toUInt32 31)).toInt32) &&& 1431655765)) &&& 858993459) + ((((x0 - (((x0.toUInt32 >>> ((1 : Int32).toUInt32 &&& Int32.toUInt32 31)).toInt32) &&& 1431655765)).toUInt32 >>> ((2 : Int32).toUInt32 &&& Int32.toUInt32 31)).toInt32) &&& 858993459)).toUInt32 >>> ((4 : Int32).toUInt32 &&& Int32.toUInt32 31)).toInt32)) &&& 252645135).toUInt32 >>> ((8 : Int32).toUInt32 &&& Int32.toUInt32 31)).toInt32)))]) hx hb d_JI_bitCount_40 rfl hl (by decide) rfl (fun ls hl => ?_)
  refine lv_iload_n hx hb d_JI_bitCount_41 rfl (lv_at hl 0 rfl) ?_
  refine lv_iload_n hx hb d_JI_bitCount_42 rfl (lv_at hl 0 rfl) ?_
  refine lv_bipush (v := 16) hx hb d_JI_bitCount_43 (by decide) ?_
  refine lv_iushr (v := (((((((x0 - (((x0.toUInt32 >>> ((1 : Int32).toUInt32 &&& Int32.toUInt32 31)).toInt32) &&& 1431655765)) &&& 858993459) + ((((x0 - (((x0.toUInt32 >>> ((1 : Int32).toUInt32 &&& Int32.toUInt32 31)).toInt32) &&& 1431655765)).toUInt32 >>> ((2 : Int32).toUInt32 &&& Int32.toUInt32 31)).toInt32) &&& 858993459)) + (((((x0 - (((x0.toUInt32 >>> ((1 : Int32).toUInt32 &&& Int32.toUInt32 31)).toInt32) &&& 1431655765)) &&& 858993459) + ((((x0 - (((x0.toUInt32 >>> ((1 : Int32).toUInt32 &&& Int32.toUInt32 31)).toInt32) &&& 1431655765)).toUInt32 >>> ((2 : Int32).toUInt32 &&& Int32.toUInt32 31)).toInt32) &&& 858993459)).toUInt32 >>> ((4 : Int32).toUInt32 &&& Int32.toUInt32 31)).toInt32)) &&& 252645135) + (((((((x0 - (((x0.toUInt32 >>> ((1 : Int32).toUInt32 &&& Int32.toUInt32 31)).toInt32) &&& 1431655765)) &&& 858993459) + ((((x0 - (((x0.toUInt32 >>> ((1 : Int32).toUInt32 &&& Int32.toUInt32 31)).toInt32) &&& 1431655765)).toUInt32 >>> ((2 : Int32).toUInt32 &&& Int32.toUInt32 31)).toInt32) &&& 858993459)) + (((((x0 - (((x0.toUInt32 >>> ((1 : Int32).toUInt32 &&& Int32.toUInt32 31)).toInt32) &&& 1431655765)) &&& 858993459) + ((((x0 - (((x0.toUInt32 >>> ((1 : Int32).toUInt32 &&& Int32.toUInt32 31)).toInt32) &&& 1431655765)).toUInt32 >>> ((2 : Int32).toUInt32 &&& Int32.toUInt32 31)).toInt32) &&& 858993459)).toUInt32 >>> ((4 : Int32).toUInt32 &&& Int32.toUInt32 31)).toInt32)) &&& 252645135).toUInt32 >>> ((8 : Int32).toUInt32 &&& Int32.toUInt32 31)).toInt32)).toUInt32 >>> ((16 : Int32).toUInt32 &&& Int32.toUInt32 31)).toInt32) hx hb d_JI_bitCount_45 rfl ?_
  refine lv_iadd hx hb d_JI_bitCount_46 ?_
  refine lv_istore_n (lv' := [(0, .int (((((((x0 - (((x0.toUInt32 >>> ((1 : Int32).toUInt32 &&& Int32.toUInt32 31)).toInt32) &&& 1431655765)) &&& 858993459) + ((((x0 - (((x0.toUInt32 >>> ((1 : Int32).toUInt32 &&& Int32.toUInt32 31)).toInt32) &&& 1431655765)).toUInt32 >>> ((2 : Int32).toUInt32 &&& Int32.toUInt32 31)).toInt32) &&& 858993459)) + (((((x0 - (((x0.toUInt32 >>> ((1 : Int32).toUInt32 &&& Int32.toUInt32 31)).toInt32) &&& 1431655765)) &&& 858993459) + ((((x0 - (((x0.toUInt32 >>> ((1 : Int32).toUInt32 &&& Int32.toUInt32 31)).toInt32) &&& 1431655765)).toUInt32 >>> ((2 : Int32).toUInt32 &&& Int32.toUInt32 31)).toInt32) &&& 858993459)).toUInt32 >>> ((4 : Int32).toUInt32 &&& Int32.toUInt32 31)).toInt32)) &&& 252645135) + (((((((x0 - (((x0.toUInt32 >>> ((1 : Int32).toUInt32 &&& Int32.toUInt32 31)).toInt32) &&& 1431655765)) &&& 858993459) + ((((x0 - (((x0.toUInt32 >>> ((1 : Int32).toUInt32 &&& Int32.toUInt32 31)).toInt32) &&& 1431655765)).toUInt32 >>> ((2 : Int32).toUInt32 &&& Int32.toUInt32 31)).toInt32) &&& 858993459)) + (((((x0 - (((x0.toUInt32 >>> ((1 : Int32).toUInt32 &&& Int32.toUInt32 31)).toInt32) &&& 1431655765)) &&& 858993459) + ((((x0 - (((x0.toUInt32 >>> ((1 : Int32).toUInt32 &&& Int32.toUInt32 31)).toInt32) &&& 1431655765)).toUInt32 >>> ((2 : Int32).toUInt32 &&& Int32.toUInt32 31)).toInt32) &&& 858993459)).toUInt32 >>> ((4 : Int32).toUInt32 &&& Int32.toUInt32 31)).toInt32)) &&& 252645135).toUInt32 >>> ((8 : Int32).toUInt32 &&& Int32.toUInt32 31)).toInt32)) + ((((((((x0 - (((x0.toUInt32 >>> ((1 : Int32).toUInt32 &&& Int32.toUInt32 31)).toInt32) &&& 1431655765)) &&& 858993459) + ((((x0 - (((x0.toUInt32 >>> ((1 : Int32).toUInt32 &&& Int32.toUInt32 31)).toInt32) &&& 1431655765)).toUInt32 >>> ((2 : Int32).toUInt32 &&& Int32.toUInt32 31)).toInt32) &&& 858993459)) + (((((x0 - (((x0.toUInt32 >>> ((1 : Int32).toUInt32 &&& Int32.toUInt32 31)).toInt32) &&& 1431655765)) &&& 858993459) + ((((x0 - (((x0.toUInt32 >>> ((1 : Int32).toUInt32 &&& Int32.toUInt32 31)).toInt32) &&& 1431655765)).toUInt32 >>> ((2 : Int32).toUInt32 &&& Int32.toUInt32 31)).toInt32) &&& 858993459)).toUInt32 >>> ((4 : Int32).toUInt32 &&& Int32.toUInt32 31)).toInt32)) &&& 252645135) + (((((((x0 - (((x0.toUInt32 >>> ((1 : Int32).toUInt32 &&& Int32.toUInt32 31)).toInt32) &&& 1431655765)) &&& 858993459) + ((((x0 - (((x0.toUInt32 >>> ((1 : Int32).toUInt32 &&& Int32.toUInt32 31)).toInt32) &&& 1431655765)).toUInt32 >>> ((2 : Int32).toUInt32 &&& Int32.toUInt32 31)).toInt32) &&& 858993459)) + (((((x0 - (((x0.toUInt32 >>> ((1 : Int32).toUInt32 &&& Int32.toUInt32 31)).toInt32) &&& 1431655765)) &&& 858993459) + ((((x0 - (((x0.toUInt32 >>> ((1 : Int32).toUInt32 &&& Int32.toUInt32 31)).toInt32) &&& 1431655765)).toUInt32 >>> ((2 : Int32).toUInt32 &&& Int32.toUInt32 31)).toInt32) &&& 858993459)).toUInt32 >>> ((4 : Int32).toUInt32 &&& Int32.toUInt32 31)).toInt32)) &&& 252645135).toUInt32 >>> ((8 : Int32).toUInt32 &&& Int32.toUInt32 31)).toInt32)).toUInt32 >>> ((16 : Int32).toUInt32 &&& Int32.toUInt32 31)).toInt32)))]) hx hb d_JI_bitCount_47 rfl hl (by decide) rfl (fun ls hl => ?_)
  refine lv_iload_n hx hb d_JI_bitCount_48 rfl (lv_at hl 0 rfl) ?_
  refine lv_bipush (v := 63) hx hb d_JI_bitCount_49 (by decide) ?_
  refine lv_iand hx hb d_JI_bitCount_51 ?_
  exact g_iret C hG h rfl hQ d_JI_bitCount_52
noncomputable def OC_clear_b_L2 (S : St) (x1 : Int32) : Option ((Int32 × St) × Nat) :=
  if 10 ≤ x1 then
      some ((x1, S), 1)
    else
      chk (inb x1 10) <|
      chk (inb x1 10) <|
      chk (inb x1 10) <|
      some ((x1 + 1, up (up (up S 35 (ix x1) (-1)) 36 (ix x1) 0) 37 (ix x1) 0), 0)
noncomputable def OC_clear_b_L37 (S : St) (x1 : Int32) : Option ((Int32 × St) × Nat) :=
  if 5 ≤ x1 then
      some ((x1, S), 1)
    else
      chk (inb x1 5) <|
      some ((x1 + 1, up S 38 (ix x1) 0), 0)
noncomputable def OC_clear_b_J55 (S : St) : Option (St) :=
  some (up (up S 33 5 0) 33 6 (-1))
noncomputable def OC_clear_b_J35 (S : St) : Option (St) :=
  bnd (lp (σ := Int32 × St) (fun q => OC_clear_b_L37 q.2 q.1) FZ (0, S)) fun z1 =>
    OC_clear_b_J55 z1.1.2
noncomputable def OC_clear_b (S : St) : Option (St) :=
  bnd (lp (σ := Int32 × St) (fun q => OC_clear_b_L2 q.2 q.1) FZ (0, S)) fun z2 =>
    OC_clear_b_J35 z2.1.2
set_option maxHeartbeats 4000000 in
set_option maxRecDepth 100000 in
theorem L_OC_clear_b_2 (C : gCx p s m args meth c y_OC_clear.cls b_OC_clear 2 none) : ∀ (n : Nat) (x1 : Int32) (S : St) (r : (Int32 × St) × Nat), lp (σ := Int32 × St) (fun q => OC_clear_b_L2 q.2 q.1) n (x1, S) = some r → (∀ (y1 : Int32) (Sy : St), r = ((y1, Sy), 1) → ∀ (ls : Array Slot) (H : Heap) (locs : List Loc), GH w s A Sy H locs → lv_has ls 2 [(0, .ref (gad w 33))] → W p l e (rmm 0 0) s m args below meth c H locs 0 0 Q (F0 m 35 ls [])) → ∀ (ls : Array Slot) (H : Heap) (locs : List Loc), GH w s A S H locs → lv_has ls 2 [(0, .ref (gad w 33)), (1, .int x1)] → W p l e (rmm 0 0) s m args below meth c H locs 0 0 Q (F0 m 2 ls []) := by
  have hx := C.1
  have hb := C.2.1
  intro n
  induction n with
  | zero => intro x1 S r h; cases h
  | succ n ih =>
    intro x1 S r h k1 ls H locs hG hl
    obtain ⟨z, h, hr⟩ := lp_succ h
    have h : OC_clear_b_L2 S x1 = some z := h
    unfold OC_clear_b_L2 at h
    refine lv_iload_n hx hb d_OC_clear_2 rfl (lv_at hl 1 rfl) ?_
    refine lv_bipush (v := 10) hx hb d_OC_clear_3 (by decide) ?_
    refine lv_icmp_ge (tgt := 35) hx hb d_OC_clear_5 (by decide) (fun hc => ?_) (fun hc => ?_)
    · replace h := it_t h hc
      exact k1 _ _ (lp_exit h hr) ls _ _ hG (lv_sub hl [0] rfl)
    · replace h := it_f h hc
      refine lv_aload_n hx hb d_OC_clear_8 rfl (lv_at hl 0 rfl) ?_
      refine g_get C hG (hG.lt (Nat.le_of_ble_eq_true rfl)) (ce33 w _) rfl inC3 1 (Nat.le_of_ble_eq_true rfl) qw101 rfl d_OC_clear_9 ?_
      refine lv_iload_n hx hb d_OC_clear_12 rfl (lv_at hl 1 rfl) ?_
      refine lv_iconst (v := (-1)) hx hb d_OC_clear_13 (by decide) ?_
      obtain ⟨hi1, h⟩ := chk_some h
      refine g_iast (j := ix x1) (x := (-1)) C hG (hG.lt (Nat.le_of_ble_eq_true rfl)) (ce35 w) (inb_in hi1) rfl d_OC_clear_14 (fun H locs hG => ?_)
      refine lv_aload_n hx hb d_OC_clear_15 rfl (lv_at hl 0 rfl) ?_
      refine g_get C hG (hG.lt (Nat.le_of_ble_eq_true rfl)) (ce33 w _) rfl inC3 2 (Nat.le_of_ble_eq_true rfl) qw103 rfl d_OC_clear_16 ?_
      refine lv_iload_n hx hb d_OC_clear_19 rfl (lv_at hl 1 rfl) ?_
      refine lv_iconst (v := 0) hx hb d_OC_clear_20 (by decide) ?_
      obtain ⟨hi2, h⟩ := chk_some h
      refine g_iast (j := ix x1) (x := 0) C hG (hG.lt (Nat.le_of_ble_eq_true rfl)) (ce36 w) (inb_in hi2) rfl d_OC_clear_21 (fun H locs hG => ?_)
      refine lv_aload_n hx hb d_OC_clear_22 rfl (lv_at hl 0 rfl) ?_
      refine g_get C hG (hG.lt (Nat.le_of_ble_eq_true rfl)) (ce33 w _) rfl inC3 3 (Nat.le_of_ble_eq_true rfl) qw104 rfl d_OC_clear_23 ?_
      refine lv_iload_n hx hb d_OC_clear_26 rfl (lv_at hl 1 rfl) ?_
      refine lv_iconst (v := 0) hx hb d_OC_clear_27 (by decide) ?_
      obtain ⟨hi3, h⟩ := chk_some h
      refine g_iast (j := ix x1) (x := 0) C hG (hG.lt (Nat.le_of_ble_eq_true rfl)) (ce37 w) (inb_in hi3) rfl d_OC_clear_28 (fun H locs hG => ?_)
      refine lv_iinc (v := x1 + 1) (lv' := [(1, .int (x1 + 1)), (0, .ref (gad w 33))]) hx hb d_OC_clear_29 hl (k := 1) rfl (congrArg (HAdd.hAdd x1) (by decide : Int32.ofInt 1 = 1)) (by decide) rfl (fun ls hl => ?_)
      refine lv_goto (tgt := 2) hx hb d_OC_clear_32 (by decide) ?_
      exact ih _ _ _ (lp_back h hr) k1 ls _ _ hG (lv_sub hl [1, 0] rfl)
set_option maxHeartbeats 4000000 in
set_option maxRecDepth 100000 in
theorem L_OC_clear_b_37 (C : gCx p s m args meth c y_OC_clear.cls b_OC_clear 2 none) : ∀ (n : Nat) (x1 : Int32) (S : St) (r : (Int32 × St) × Nat), lp (σ := Int32 × St) (fun q => OC_clear_b_L37 q.2 q.1) n (x1, S) = some r → (∀ (y1 : Int32) (Sy : St), r = ((y1, Sy), 1) → ∀ (ls : Array Slot) (H : Heap) (locs : List Loc), GH w s A Sy H locs → lv_has ls 2 [(0, .ref (gad w 33))] → W p l e (rmm 0 0) s m args below meth c H locs 0 0 Q (F0 m 55 ls [])) → ∀ (ls : Array Slot) (H : Heap) (locs : List Loc), GH w s A S H locs → lv_has ls 2 [(0, .ref (gad w 33)), (1, .int x1)] → W p l e (rmm 0 0) s m args below meth c H locs 0 0 Q (F0 m 37 ls []) := by
  have hx := C.1
  have hb := C.2.1
  intro n
  induction n with
  | zero => intro x1 S r h; cases h
  | succ n ih =>
    intro x1 S r h k1 ls H locs hG hl
    obtain ⟨z, h, hr⟩ := lp_succ h
    have h : OC_clear_b_L37 S x1 = some z := h
    unfold OC_clear_b_L37 at h
    refine lv_iload_n hx hb d_OC_clear_37 rfl (lv_at hl 1 rfl) ?_
    refine lv_iconst (v := 5) hx hb d_OC_clear_38 (by decide) ?_
    refine lv_icmp_ge (tgt := 55) hx hb d_OC_clear_39 (by decide) (fun hc => ?_) (fun hc => ?_)
    · replace h := it_t h hc
      exact k1 _ _ (lp_exit h hr) ls _ _ hG (lv_sub hl [0] rfl)
    · replace h := it_f h hc
      refine lv_aload_n hx hb d_OC_clear_42 rfl (lv_at hl 0 rfl) ?_
      refine g_get C hG (hG.lt (Nat.le_of_ble_eq_true rfl)) (ce33 w _) rfl inC3 4 (Nat.le_of_ble_eq_true rfl) qw105 rfl d_OC_clear_43 ?_
      refine lv_iload_n hx hb d_OC_clear_46 rfl (lv_at hl 1 rfl) ?_
      refine lv_iconst (v := 0) hx hb d_OC_clear_47 (by decide) ?_
      obtain ⟨hi4, h⟩ := chk_some h
      refine g_iast (j := ix x1) (x := 0) C hG (hG.lt (Nat.le_of_ble_eq_true rfl)) (ce38 w) (inb_in hi4) rfl d_OC_clear_48 (fun H locs hG => ?_)
      refine lv_iinc (v := x1 + 1) (lv' := [(1, .int (x1 + 1)), (0, .ref (gad w 33))]) hx hb d_OC_clear_49 hl (k := 1) rfl (congrArg (HAdd.hAdd x1) (by decide : Int32.ofInt 1 = 1)) (by decide) rfl (fun ls hl => ?_)
      refine lv_goto (tgt := 37) hx hb d_OC_clear_52 (by decide) ?_
      exact ih _ _ _ (lp_back h hr) k1 ls _ _ hG (lv_sub hl [1, 0] rfl)
set_option maxHeartbeats 4000000 in
set_option maxRecDepth 100000 in
theorem c_OC_clear_b (l : Launch) (w : gw) (S : St)   {z : St} (h : (OC_clear_b S) = some z) : gMv l w y_OC_clear b_OC_clear 2 none (rmm 0 0) [.ref (gad w 33)] S z := by
  unfold OC_clear_b at h
  refine g_met (Qc := gQv w z) (by decide +kernel) (Nat.le_of_ble_eq_true rfl) ?_
  intro p e s m args below meth c A Q ls hQ C hG hl
  have hx := C.1
  have hb := C.2.1
  have hl : lv_has ls 2 [(0, .ref (gad w 33))] := hl
  have J55 : ∀ (S : St), OC_clear_b_J55 S = some z → ∀ (ls : Array Slot) (H : Heap) (locs : List Loc), GH w s A S H locs → lv_has ls 2 [(0, .ref (gad w 33))] → W p l e (rmm 0 0) s m args below meth c H locs 0 0 Q (F0 m 55 ls []) := by
    intro S h ls H locs hG hl
    unfold OC_clear_b_J55 at h
    refine lv_aload_n hx hb d_OC_clear_55 rfl (lv_at hl 0 rfl) ?_
    refine lv_iconst (v := 0) hx hb d_OC_clear_56 (by decide) ?_
    refine g_put (x := 0) C hG (hG.lt (Nat.le_of_ble_eq_true rfl)) (ce33 w _) rfl inC3 okC3 nmC3 5 (Nat.le_of_ble_eq_true rfl) qw107 rfl rfl rfl (Nat.le_of_ble_eq_true rfl) rfl d_OC_clear_57 (fun H locs hG => ?_)
    refine lv_aload_n hx hb d_OC_clear_60 rfl (lv_at hl 0 rfl) ?_
    refine lv_iconst (v := (-1)) hx hb d_OC_clear_61 (by decide) ?_
    refine g_put (x := (-1)) C hG (hG.lt (Nat.le_of_ble_eq_true rfl)) (ce33 w _) rfl inC3 okC3 nmC3 6 (Nat.le_of_ble_eq_true rfl) qw109 rfl rfl rfl (Nat.le_of_ble_eq_true rfl) rfl d_OC_clear_62 (fun H locs hG => ?_)
    exact g_vret C hG (Option.some.inj h) hQ d_OC_clear_65
  have J35 : ∀ (S : St), OC_clear_b_J35 S = some z → ∀ (ls : Array Slot) (H : Heap) (locs : List Loc), GH w s A S H locs → lv_has ls 2 [(0, .ref (gad w 33))] → W p l e (rmm 0 0) s m args below meth c H locs 0 0 Q (F0 m 35 ls []) := by
    intro S h ls H locs hG hl
    unfold OC_clear_b_J35 at h
    refine lv_iconst (v := 0) hx hb d_OC_clear_35 (by decide) ?_
    refine lv_istore_n (lv' := [(1, .int 0), (0, .ref (gad w 33))]) hx hb d_OC_clear_36 rfl hl (by decide) rfl (fun ls hl => ?_)
    obtain ⟨z1, hz1, h⟩ := bnd_some h
    refine L_OC_clear_b_37 C FZ _ _ _ hz1 ?_ ls _ _ hG (lv_sub hl [1, 0] rfl)
    intro y1 Sy e9 ls H locs hG hl
    subst e9
    exact J55 _ h ls _ _ hG (lv_sub hl [0] rfl)
  refine lv_iconst (v := 0) hx hb d_OC_clear_0 (by decide) ?_
  refine lv_istore_n (lv' := [(1, .int 0), (0, .ref (gad w 33))]) hx hb d_OC_clear_1 rfl hl (by decide) rfl (fun ls hl => ?_)
  obtain ⟨z2, hz2, h⟩ := bnd_some h
  refine L_OC_clear_b_2 C FZ _ _ _ hz2 ?_ ls _ _ hG (lv_sub hl [1, 0] rfl)
  intro y1 Sy e9 ls H locs hG hl
  subst e9
  exact J35 _ h ls _ _ hG (lv_sub hl [0] rfl)
noncomputable def OC_holdsNow_b_J79 (S : St) (x5 : Int32) (x6 : Int32) : Option (Int32) :=
  chk (inb x5 5) <|
    chk (inb x5 5) <|
    if (S 2 (ix x5)) < ((S 38 (ix x5)) + x6) then
      some 0
    else
      some 1
noncomputable def OC_holdsNow_b (S : St) (x3 : Int32) : Option (Int32) :=
  bnd (BT_eveningOf S x3) fun z1 =>
    bnd (BT_bidderOf S x3) fun z2 =>
    bnd (BT_amountOf S x3) fun z3 =>
    chk (inb z1 10) <|
    if z3 < (S 22 (ix z1)) then
      some 0
    else
      chk (inb z1 10) <|
      if (S 35 (ix z1)) = z2 then
        some 0
      else
        chk (inb z1 10) <|
        if (S 35 (ix z1)) = (-1) then
          OC_holdsNow_b_J79 S z2 z3
        else
          chk (inb z1 10) <|
          if ((S 36 (ix z1)) + (S 24 0)) ≤ z3 then
            OC_holdsNow_b_J79 S z2 z3
          else
            some 0
set_option maxHeartbeats 4000000 in
set_option maxRecDepth 100000 in
theorem c_OC_holdsNow_b (l : Launch) (w : gw) (S : St) (x3 : Int32)  {z : Int32} (h : (OC_holdsNow_b S x3) = some z) : gMi l w y_OC_holdsNow b_OC_holdsNow 7 (some .boolean) (rmm 1 21) [.ref (gad w 33), .ref (gad w 1), .ref (gad w 25), .int x3] S z S := by
  unfold OC_holdsNow_b at h
  refine g_met (Qc := gQi w z S) (by decide +kernel) (Nat.le_of_ble_eq_true rfl) ?_
  intro p e s m args below meth c A Q ls hQ C hG hl
  have hx := C.1
  have hb := C.2.1
  have hl : lv_has ls 7 [(0, .ref (gad w 33)), (1, .ref (gad w 1)), (2, .ref (gad w 25)), (3, .int x3)] := hl
  have J79 : ∀ (x5 : Int32) (x6 : Int32), OC_holdsNow_b_J79 S x5 x6 = some z → ∀ (ls : Array Slot) (H : Heap) (locs : List Loc), GH w s A S H locs → lv_has ls 7 [(0, .ref (gad w 33)), (1, .ref (gad w 1)), (5, .int x5), (6, .int x6)] → W p l e (rmm 1 21) s m args below meth c H locs 0 0 Q (F0 m 79 ls []) := by
    intro x5 x6 h ls H locs hG hl
    unfold OC_holdsNow_b_J79 at h
    refine lv_aload_n hx hb d_OC_holdsNow_79 rfl (lv_at hl 0 rfl) ?_
    refine g_get C hG (hG.lt (Nat.le_of_ble_eq_true rfl)) (ce33 w _) rfl inC3 4 (Nat.le_of_ble_eq_true rfl) qw105 rfl d_OC_holdsNow_80 ?_
    refine lv_iload hx hb d_OC_holdsNow_83 (lv_at hl 2 rfl) ?_
    obtain ⟨hi1, h⟩ := chk_some h
    refine g_iald (j := ix x5) C hG (hG.lt (Nat.le_of_ble_eq_true rfl)) (ce38 w _) (inb_in hi1) rfl d_OC_holdsNow_85 ?_
    refine lv_iload hx hb d_OC_holdsNow_86 (lv_at hl 3 rfl) ?_
    refine lv_iadd hx hb d_OC_holdsNow_88 ?_
    refine lv_aload_n hx hb d_OC_holdsNow_89 rfl (lv_at hl 1 rfl) ?_
    refine g_get C hG (hG.lt (Nat.le_of_ble_eq_true rfl)) (ce1 w _) rfl inC6 0 (Nat.le_of_ble_eq_true rfl) qw30 rfl d_OC_holdsNow_90 ?_
    refine lv_iload hx hb d_OC_holdsNow_93 (lv_at hl 2 rfl) ?_
    obtain ⟨hi2, h⟩ := chk_some h
    refine g_iald (j := ix x5) C hG (hG.lt (Nat.le_of_ble_eq_true rfl)) (ce2 w _) (inb_in hi2) rfl d_OC_holdsNow_95 ?_
    refine lv_icmp_gt (tgt := 103) hx hb d_OC_holdsNow_96 (by decide) (fun hc => ?_) (fun hc => ?_)
    · replace h := it_t h hc
      refine lv_iconst (v := 0) hx hb d_OC_holdsNow_103 (by decide) ?_
      exact g_zret C hG (Or.inl rfl) (Option.some.inj h) rfl hQ d_OC_holdsNow_104
    · replace h := it_f h hc
      refine lv_iconst (v := 1) hx hb d_OC_holdsNow_99 (by decide) ?_
      refine lv_goto (tgt := 104) hx hb d_OC_holdsNow_100 (by decide) ?_
      exact g_zret C hG (Or.inr rfl) (Option.some.inj h) rfl hQ d_OC_holdsNow_104
  refine lv_aload_n hx hb d_OC_holdsNow_0 rfl (lv_at hl 2 rfl) ?_
  refine lv_iload_n hx hb d_OC_holdsNow_1 rfl (lv_at hl 3 rfl) ?_
  obtain ⟨z1, hz1, h⟩ := bnd_some h
  refine g_goi hG (g_runV (As := [.int x3]) (rest := []) C hG (c_BT_eveningOf l w S x3 hz1 _) (hG.lt (Nat.le_of_ble_eq_true rfl)) (ce25 w _) rfl vw_OC_50 rfl rfl ⟨by decide, by decide⟩ rfl hl.1 rfl (Nat.le_of_ble_eq_true rfl) d_OC_holdsNow_2 ⟨Nat.zero_le _, Nat.zero_le _⟩) (fun H locs hG => ?_)
  refine lv_istore (lv' := [(4, .int z1), (0, .ref (gad w 33)), (1, .ref (gad w 1)), (2, .ref (gad w 25)), (3, .int x3)]) hx hb d_OC_holdsNow_5 hl (by decide) rfl (fun ls hl => ?_)
  refine lv_aload_n hx hb d_OC_holdsNow_7 rfl (lv_at hl 3 rfl) ?_
  refine lv_iload_n hx hb d_OC_holdsNow_8 rfl (lv_at hl 4 rfl) ?_
  obtain ⟨z2, hz2, h⟩ := bnd_some h
  refine g_goi hG (g_runV (As := [.int x3]) (rest := []) C hG (c_BT_bidderOf l w S x3 hz2 _) (hG.lt (Nat.le_of_ble_eq_true rfl)) (ce25 w _) rfl vw_OC_54 rfl rfl ⟨by decide, by decide⟩ rfl hl.1 rfl (Nat.le_of_ble_eq_true rfl) d_OC_holdsNow_9 ⟨Nat.zero_le _, Nat.zero_le _⟩) (fun H locs hG => ?_)
  refine lv_istore (lv' := [(5, .int z2), (4, .int z1), (0, .ref (gad w 33)), (1, .ref (gad w 1)), (2, .ref (gad w 25)), (3, .int x3)]) hx hb d_OC_holdsNow_12 hl (by decide) rfl (fun ls hl => ?_)
  refine lv_aload_n hx hb d_OC_holdsNow_14 rfl (lv_at hl 4 rfl) ?_
  refine lv_iload_n hx hb d_OC_holdsNow_15 rfl (lv_at hl 5 rfl) ?_
  obtain ⟨z3, hz3, h⟩ := bnd_some h
  refine g_goi hG (g_runV (As := [.int x3]) (rest := []) C hG (c_BT_amountOf l w S x3 hz3 _) (hG.lt (Nat.le_of_ble_eq_true rfl)) (ce25 w _) rfl vw_OC_57 rfl rfl ⟨by decide, by decide⟩ rfl hl.1 rfl (Nat.le_of_ble_eq_true rfl) d_OC_holdsNow_16 ⟨Nat.zero_le _, Nat.zero_le _⟩) (fun H locs hG => ?_)
  refine lv_istore (lv' := [(6, .int z3), (5, .int z2), (4, .int z1), (0, .ref (gad w 33)), (1, .ref (gad w 1)), (2, .ref (gad w 25)), (3, .int x3)]) hx hb d_OC_holdsNow_19 hl (by decide) rfl (fun ls hl => ?_)
  refine lv_iload hx hb d_OC_holdsNow_21 (lv_at hl 0 rfl) ?_
  refine lv_aload_n hx hb d_OC_holdsNow_23 rfl (lv_at hl 4 rfl) ?_
  refine g_get C hG (hG.lt (Nat.le_of_ble_eq_true rfl)) (ce1 w _) rfl inC6 5 (Nat.le_of_ble_eq_true rfl) qw44 rfl d_OC_holdsNow_24 ?_
  refine lv_iload hx hb d_OC_holdsNow_27 (lv_at hl 2 rfl) ?_
  obtain ⟨hi3, h⟩ := chk_some h
  refine g_iald (j := ix z1) C hG (hG.lt (Nat.le_of_ble_eq_true rfl)) (ce22 w _) (inb_in hi3) rfl d_OC_holdsNow_29 ?_
  refine lv_icmp_lt (tgt := 45) hx hb d_OC_holdsNow_30 (by decide) (fun hc => ?_) (fun hc => ?_)
  · replace h := it_t h hc
    refine lv_iconst (v := 0) hx hb d_OC_holdsNow_45 (by decide) ?_
    exact g_zret C hG (Or.inl rfl) (Option.some.inj h) rfl hQ d_OC_holdsNow_46
  · replace h := it_f h hc
    refine lv_aload_n hx hb d_OC_holdsNow_33 rfl (lv_at hl 3 rfl) ?_
    refine g_get C hG (hG.lt (Nat.le_of_ble_eq_true rfl)) (ce33 w _) rfl inC3 1 (Nat.le_of_ble_eq_true rfl) qw101 rfl d_OC_holdsNow_34 ?_
    refine lv_iload hx hb d_OC_holdsNow_37 (lv_at hl 2 rfl) ?_
    obtain ⟨hi4, h⟩ := chk_some h
    refine g_iald (j := ix z1) C hG (hG.lt (Nat.le_of_ble_eq_true rfl)) (ce35 w _) (inb_in hi4) rfl d_OC_holdsNow_39 ?_
    refine lv_iload hx hb d_OC_holdsNow_40 (lv_at hl 1 rfl) ?_
    refine lv_icmp_ne (tgt := 47) hx hb d_OC_holdsNow_42 (by decide) (fun hc => ?_) (fun hc => ?_)
    · replace h := it_f h hc
      refine lv_aload_n hx hb d_OC_holdsNow_47 rfl (lv_at hl 3 rfl) ?_
      refine g_get C hG (hG.lt (Nat.le_of_ble_eq_true rfl)) (ce33 w _) rfl inC3 1 (Nat.le_of_ble_eq_true rfl) qw101 rfl d_OC_holdsNow_48 ?_
      refine lv_iload hx hb d_OC_holdsNow_51 (lv_at hl 2 rfl) ?_
      obtain ⟨hi5, h⟩ := chk_some h
      refine g_iald (j := ix z1) C hG (hG.lt (Nat.le_of_ble_eq_true rfl)) (ce35 w _) (inb_in hi5) rfl d_OC_holdsNow_53 ?_
      refine lv_iconst (v := (-1)) hx hb d_OC_holdsNow_54 (by decide) ?_
      refine lv_icmp_eq (tgt := 79) hx hb d_OC_holdsNow_55 (by decide) (fun hc => ?_) (fun hc => ?_)
      · replace h := it_t h hc
        exact J79 _ _ h ls _ _ hG (lv_sub hl [3, 4, 1, 0] rfl)
      · replace h := it_f h hc
        refine lv_iload hx hb d_OC_holdsNow_58 (lv_at hl 0 rfl) ?_
        refine lv_aload_n hx hb d_OC_holdsNow_60 rfl (lv_at hl 3 rfl) ?_
        refine g_get C hG (hG.lt (Nat.le_of_ble_eq_true rfl)) (ce33 w _) rfl inC3 2 (Nat.le_of_ble_eq_true rfl) qw103 rfl d_OC_holdsNow_61 ?_
        refine lv_iload hx hb d_OC_holdsNow_64 (lv_at hl 2 rfl) ?_
        obtain ⟨hi6, h⟩ := chk_some h
        refine g_iald (j := ix z1) C hG (hG.lt (Nat.le_of_ble_eq_true rfl)) (ce36 w _) (inb_in hi6) rfl d_OC_holdsNow_66 ?_
        refine lv_aload_n hx hb d_OC_holdsNow_67 rfl (lv_at hl 4 rfl) ?_
        refine g_get C hG (hG.lt (Nat.le_of_ble_eq_true rfl)) (ce1 w _) rfl inC6 7 (Nat.le_of_ble_eq_true rfl) qw50 rfl d_OC_holdsNow_68 ?_
        refine lv_iconst (v := 0) hx hb d_OC_holdsNow_71 (by decide) ?_
        refine g_iald (j := 0) C hG (hG.lt (Nat.le_of_ble_eq_true rfl)) (ce24 w _) (inb_in (by decide)) rfl d_OC_holdsNow_72 ?_
        refine lv_iadd hx hb d_OC_holdsNow_73 ?_
        refine lv_icmp_ge (tgt := 79) hx hb d_OC_holdsNow_74 (by decide) (fun hc => ?_) (fun hc => ?_)
        · replace h := it_t h hc
          exact J79 _ _ h ls _ _ hG (lv_sub hl [3, 4, 1, 0] rfl)
        · replace h := it_f h hc
          refine lv_iconst (v := 0) hx hb d_OC_holdsNow_77 (by decide) ?_
          exact g_zret C hG (Or.inl rfl) (Option.some.inj h) rfl hQ d_OC_holdsNow_78
    · replace h := it_t h hc
      refine lv_iconst (v := 0) hx hb d_OC_holdsNow_45 (by decide) ?_
      exact g_zret C hG (Or.inl rfl) (Option.some.inj h) rfl hQ d_OC_holdsNow_46
noncomputable def OC_lead_b_J35 (S : St) (x1 : Int32) (x2 : Int32) (x3 : Int32) : Option (St) :=
  chk (inb x1 10) <|
    chk (inb x1 10) <|
    chk (inb x1 10) <|
    chk (inb x1 10) <|
    chk (inb x2 5) <|
    chk (inb x2 5) <|
    some (up (up (up (up (up S 37 (ix x1) (S 36 (ix x1))) 35 (ix x1) x2) 36 (ix x1) x3) 38 (ix x2) (((up (up (up S 37 (ix x1) (S 36 (ix x1))) 35 (ix x1) x2) 36 (ix x1) x3) 38 (ix x2)) + x3)) 33 5 (((up (up (up (up S 37 (ix x1) (S 36 (ix x1))) 35 (ix x1) x2) 36 (ix x1) x3) 38 (ix x2) (((up (up (up S 37 (ix x1) (S 36 (ix x1))) 35 (ix x1) x2) 36 (ix x1) x3) 38 (ix x2)) + x3)) 33 5) + 1))
noncomputable def OC_lead_b (S : St) (x1 : Int32) (x2 : Int32) (x3 : Int32) : Option (St) :=
  chk (inb x1 10) <|
    if (S 35 (ix x1)) < 0 then
      OC_lead_b_J35 S x1 x2 x3
    else
      if 5 ≤ (S 35 (ix x1)) then
        OC_lead_b_J35 S x1 x2 x3
      else
        chk (inb (S 35 (ix x1)) 5) <|
        chk (inb x1 10) <|
        chk (inb (S 35 (ix x1)) 5) <|
        OC_lead_b_J35 (up S 38 (ix (S 35 (ix x1))) ((S 38 (ix (S 35 (ix x1)))) - (S 36 (ix x1)))) x1 x2 x3
set_option maxHeartbeats 4000000 in
set_option maxRecDepth 100000 in
theorem c_OC_lead_b (l : Launch) (w : gw) (S : St) (x1 : Int32) (x2 : Int32) (x3 : Int32)  {z : St} (h : (OC_lead_b S x1 x2 x3) = some z) : gMv l w y_OC_lead b_OC_lead 5 none (rmm 0 0) [.ref (gad w 33), .int x1, .int x2, .int x3] S z := by
  unfold OC_lead_b at h
  refine g_met (Qc := gQv w z) (by decide +kernel) (Nat.le_of_ble_eq_true rfl) ?_
  intro p e s m args below meth c A Q ls hQ C hG hl
  have hx := C.1
  have hb := C.2.1
  have hl : lv_has ls 5 [(0, .ref (gad w 33)), (1, .int x1), (2, .int x2), (3, .int x3)] := hl
  have J35 : ∀ (S : St), OC_lead_b_J35 S x1 x2 x3 = some z → ∀ (ls : Array Slot) (H : Heap) (locs : List Loc), GH w s A S H locs → lv_has ls 5 [(0, .ref (gad w 33)), (1, .int x1), (2, .int x2), (3, .int x3)] → W p l e (rmm 0 0) s m args below meth c H locs 0 0 Q (F0 m 35 ls []) := by
    intro S h ls H locs hG hl
    unfold OC_lead_b_J35 at h
    refine lv_aload_n hx hb d_OC_lead_35 rfl (lv_at hl 0 rfl) ?_
    refine g_get C hG (hG.lt (Nat.le_of_ble_eq_true rfl)) (ce33 w _) rfl inC3 3 (Nat.le_of_ble_eq_true rfl) qw104 rfl d_OC_lead_36 ?_
    refine lv_iload_n hx hb d_OC_lead_39 rfl (lv_at hl 1 rfl) ?_
    refine lv_aload_n hx hb d_OC_lead_40 rfl (lv_at hl 0 rfl) ?_
    refine g_get C hG (hG.lt (Nat.le_of_ble_eq_true rfl)) (ce33 w _) rfl inC3 2 (Nat.le_of_ble_eq_true rfl) qw103 rfl d_OC_lead_41 ?_
    refine lv_iload_n hx hb d_OC_lead_44 rfl (lv_at hl 1 rfl) ?_
    obtain ⟨hi1, h⟩ := chk_some h
    refine g_iald (j := ix x1) C hG (hG.lt (Nat.le_of_ble_eq_true rfl)) (ce36 w _) (inb_in hi1) rfl d_OC_lead_45 ?_
    obtain ⟨hi2, h⟩ := chk_some h
    refine g_iast (j := ix x1) (x := S 36 (ix x1)) C hG (hG.lt (Nat.le_of_ble_eq_true rfl)) (ce37 w) (inb_in hi2) rfl d_OC_lead_46 (fun H locs hG => ?_)
    refine lv_aload_n hx hb d_OC_lead_47 rfl (lv_at hl 0 rfl) ?_
    refine g_get C hG (hG.lt (Nat.le_of_ble_eq_true rfl)) (ce33 w _) rfl inC3 1 (Nat.le_of_ble_eq_true rfl) qw101 rfl d_OC_lead_48 ?_
    refine lv_iload_n hx hb d_OC_lead_51 rfl (lv_at hl 1 rfl) ?_
    refine lv_iload_n hx hb d_OC_lead_52 rfl (lv_at hl 2 rfl) ?_
    obtain ⟨hi3, h⟩ := chk_some h
    refine g_iast (j := ix x1) (x := x2) C hG (hG.lt (Nat.le_of_ble_eq_true rfl)) (ce35 w) (inb_in hi3) rfl d_OC_lead_53 (fun H locs hG => ?_)
    refine lv_aload_n hx hb d_OC_lead_54 rfl (lv_at hl 0 rfl) ?_
    refine g_get C hG (hG.lt (Nat.le_of_ble_eq_true rfl)) (ce33 w _) rfl inC3 2 (Nat.le_of_ble_eq_true rfl) qw103 rfl d_OC_lead_55 ?_
    refine lv_iload_n hx hb d_OC_lead_58 rfl (lv_at hl 1 rfl) ?_
    refine lv_iload_n hx hb d_OC_lead_59 rfl (lv_at hl 3 rfl) ?_
    obtain ⟨hi4, h⟩ := chk_some h
    refine g_iast (j := ix x1) (x := x3) C hG (hG.lt (Nat.le_of_ble_eq_true rfl)) (ce36 w) (inb_in hi4) rfl d_OC_lead_60 (fun H locs hG => ?_)
    refine lv_aload_n hx hb d_OC_lead_61 rfl (lv_at hl 0 rfl) ?_
    refine g_get C hG (hG.lt (Nat.le_of_ble_eq_true rfl)) (ce33 w _) rfl inC3 4 (Nat.le_of_ble_eq_true rfl) qw105 rfl d_OC_lead_62 ?_
    refine lv_iload_n hx hb d_OC_lead_65 rfl (lv_at hl 2 rfl) ?_
    refine lv_dup2_11 hx hb d_OC_lead_66 rfl rfl ?_
    obtain ⟨hi5, h⟩ := chk_some h
    refine g_iald (j := ix x2) C hG (hG.lt (Nat.le_of_ble_eq_true rfl)) (ce38 w _) (inb_in hi5) rfl d_OC_lead_67 ?_
    refine lv_iload_n hx hb d_OC_lead_68 rfl (lv_at hl 3 rfl) ?_
    refine lv_iadd hx hb d_OC_lead_69 ?_
    obtain ⟨hi6, h⟩ := chk_some h
    refine g_iast (j := ix x2) (x := ((up (up (up S 37 (ix x1) (S 36 (ix x1))) 35 (ix x1) x2) 36 (ix x1) x3) 38 (ix x2)) + x3) C hG (hG.lt (Nat.le_of_ble_eq_true rfl)) (ce38 w) (inb_in hi6) rfl d_OC_lead_70 (fun H locs hG => ?_)
    refine lv_aload_n hx hb d_OC_lead_71 rfl (lv_at hl 0 rfl) ?_
    refine lv_dup hx hb d_OC_lead_72 rfl ?_
    refine g_get C hG (hG.lt (Nat.le_of_ble_eq_true rfl)) (ce33 w _) rfl inC3 5 (Nat.le_of_ble_eq_true rfl) qw107 rfl d_OC_lead_73 ?_
    refine lv_iconst (v := 1) hx hb d_OC_lead_76 (by decide) ?_
    refine lv_iadd hx hb d_OC_lead_77 ?_
    refine g_put (x := ((up (up (up (up S 37 (ix x1) (S 36 (ix x1))) 35 (ix x1) x2) 36 (ix x1) x3) 38 (ix x2) (((up (up (up S 37 (ix x1) (S 36 (ix x1))) 35 (ix x1) x2) 36 (ix x1) x3) 38 (ix x2)) + x3)) 33 5) + 1) C hG (hG.lt (Nat.le_of_ble_eq_true rfl)) (ce33 w _) rfl inC3 okC3 nmC3 5 (Nat.le_of_ble_eq_true rfl) qw107 rfl rfl rfl (Nat.le_of_ble_eq_true rfl) rfl d_OC_lead_78 (fun H locs hG => ?_)
    exact g_vret C hG (Option.some.inj h) hQ d_OC_lead_81
  refine lv_aload_n hx hb d_OC_lead_0 rfl (lv_at hl 0 rfl) ?_
  refine g_get C hG (hG.lt (Nat.le_of_ble_eq_true rfl)) (ce33 w _) rfl inC3 1 (Nat.le_of_ble_eq_true rfl) qw101 rfl d_OC_lead_1 ?_
  refine lv_iload_n hx hb d_OC_lead_4 rfl (lv_at hl 1 rfl) ?_
  obtain ⟨hi7, h⟩ := chk_some h
  refine g_iald (j := ix x1) C hG (hG.lt (Nat.le_of_ble_eq_true rfl)) (ce35 w _) (inb_in hi7) rfl d_OC_lead_5 ?_
  refine lv_istore (lv' := [(4, .int (S 35 (ix x1))), (0, .ref (gad w 33)), (1, .int x1), (2, .int x2), (3, .int x3)]) hx hb d_OC_lead_6 hl (by decide) rfl (fun ls hl => ?_)
  refine lv_iload hx hb d_OC_lead_8 (lv_at hl 0 rfl) ?_
  refine lv_if_lt (tgt := 35) hx hb d_OC_lead_10 (by decide) (fun hc => ?_) (fun hc => ?_)
  · replace h := it_t h hc
    exact J35 _ h ls _ _ hG (lv_sub hl [1, 2, 3, 4] rfl)
  · replace h := it_f h hc
    refine lv_iload hx hb d_OC_lead_13 (lv_at hl 0 rfl) ?_
    refine lv_iconst (v := 5) hx hb d_OC_lead_15 (by decide) ?_
    refine lv_icmp_ge (tgt := 35) hx hb d_OC_lead_16 (by decide) (fun hc => ?_) (fun hc => ?_)
    · replace h := it_t h hc
      exact J35 _ h ls _ _ hG (lv_sub hl [1, 2, 3, 4] rfl)
    · replace h := it_f h hc
      refine lv_aload_n hx hb d_OC_lead_19 rfl (lv_at hl 1 rfl) ?_
      refine g_get C hG (hG.lt (Nat.le_of_ble_eq_true rfl)) (ce33 w _) rfl inC3 4 (Nat.le_of_ble_eq_true rfl) qw105 rfl d_OC_lead_20 ?_
      refine lv_iload hx hb d_OC_lead_23 (lv_at hl 0 rfl) ?_
      refine lv_dup2_11 hx hb d_OC_lead_25 rfl rfl ?_
      obtain ⟨hi8, h⟩ := chk_some h
      refine g_iald (j := ix (S 35 (ix x1))) C hG (hG.lt (Nat.le_of_ble_eq_true rfl)) (ce38 w _) (inb_in hi8) rfl d_OC_lead_26 ?_
      refine lv_aload_n hx hb d_OC_lead_27 rfl (lv_at hl 1 rfl) ?_
      refine g_get C hG (hG.lt (Nat.le_of_ble_eq_true rfl)) (ce33 w _) rfl inC3 2 (Nat.le_of_ble_eq_true rfl) qw103 rfl d_OC_lead_28 ?_
      refine lv_iload_n hx hb d_OC_lead_31 rfl (lv_at hl 2 rfl) ?_
      obtain ⟨hi9, h⟩ := chk_some h
      refine g_iald (j := ix x1) C hG (hG.lt (Nat.le_of_ble_eq_true rfl)) (ce36 w _) (inb_in hi9) rfl d_OC_lead_32 ?_
      refine lv_isub hx hb d_OC_lead_33 ?_
      obtain ⟨hi10, h⟩ := chk_some h
      refine g_iast (j := ix (S 35 (ix x1))) (x := (S 38 (ix (S 35 (ix x1)))) - (S 36 (ix x1))) C hG (hG.lt (Nat.le_of_ble_eq_true rfl)) (ce38 w) (inb_in hi10) rfl d_OC_lead_34 (fun H locs hG => ?_)
      exact J35 _ h ls _ _ hG (lv_sub hl [1, 2, 3, 4] rfl)
theorem d_X_type_0 : decode b_X_type 0 = .ok (.iload_n 1, 1) := by decide +kernel
theorem d_X_type_1 : decode b_X_type 1 = .ok (.iconst 0, 1) := by decide +kernel
theorem d_X_type_2 : decode b_X_type 2 = .ok (.sipush 255, 3) := by decide +kernel
theorem d_X_type_5 : decode b_X_type 5 = .ok (.invokestatic 67, 3) := by decide +kernel
theorem d_X_type_8 : decode b_X_type 8 = .ok (.ifCond .ne 6, 3) := by decide +kernel
theorem d_X_type_11 : decode b_X_type 11 = .ok (.bipush (-2), 2) := by decide +kernel
theorem d_X_type_13 : decode b_X_type 13 = .ok (.ireturn, 1) := by decide +kernel
theorem d_X_type_14 : decode b_X_type 14 = .ok (.aload_n 0, 1) := by decide +kernel
theorem d_X_type_15 : decode b_X_type 15 = .ok (.getfield 19, 3) := by decide +kernel
theorem d_X_type_18 : decode b_X_type 18 = .ok (.getfield 71, 3) := by decide +kernel
theorem d_X_type_21 : decode b_X_type 21 = .ok (.bipush 100, 2) := by decide +kernel
theorem d_X_type_23 : decode b_X_type 23 = .ok (.if_icmp .lt 6, 3) := by decide +kernel
theorem d_X_type_26 : decode b_X_type 26 = .ok (.bipush (-4), 2) := by decide +kernel
theorem d_X_type_28 : decode b_X_type 28 = .ok (.ireturn, 1) := by decide +kernel
theorem d_X_type_29 : decode b_X_type 29 = .ok (.aload_n 0, 1) := by decide +kernel
theorem d_X_type_30 : decode b_X_type 30 = .ok (.getfield 19, 3) := by decide +kernel
theorem d_X_type_33 : decode b_X_type 33 = .ok (.iload_n 1, 1) := by decide +kernel
theorem d_X_type_34 : decode b_X_type 34 = .ok (.invokevirtual 74, 3) := by decide +kernel
theorem d_X_type_37 : decode b_X_type 37 = .ok (.aload_n 0, 1) := by decide +kernel
theorem d_X_type_38 : decode b_X_type 38 = .ok (.dup, 1) := by decide +kernel
theorem d_X_type_39 : decode b_X_type 39 = .ok (.getfield 64, 3) := by decide +kernel
theorem d_X_type_42 : decode b_X_type 42 = .ok (.iconst 1, 1) := by decide +kernel
theorem d_X_type_43 : decode b_X_type 43 = .ok (.iadd, 1) := by decide +kernel
theorem d_X_type_44 : decode b_X_type 44 = .ok (.putfield 64, 3) := by decide +kernel
theorem d_X_type_47 : decode b_X_type 47 = .ok (.aload_n 0, 1) := by decide +kernel
theorem d_X_type_48 : decode b_X_type 48 = .ok (.getfield 19, 3) := by decide +kernel
theorem d_X_type_51 : decode b_X_type 51 = .ok (.getfield 71, 3) := by decide +kernel
theorem d_X_type_54 : decode b_X_type 54 = .ok (.ireturn, 1) := by decide +kernel
noncomputable def X_type (S : St) (x1 : Int32) : Option (Int32 × St) :=
  if (X_within x1 0 255) = 0 then
      some ((-2), S)
    else
      if (S 25 1) < 100 then
        bnd (BT_append S x1) fun z1 =>
        some ((up z1 0 9 ((z1 0 9) + 1)) 25 1, up z1 0 9 ((z1 0 9) + 1))
      else
        some ((-4), S)
set_option maxHeartbeats 4000000 in
set_option maxRecDepth 100000 in
theorem c_X_type (l : Launch) (w : gw) (S : St) (x1 : Int32)  {z : Int32 × St} (h : (X_type S x1) = some z) : gMi l w y_X_type b_X_type 2 (some .int) (rmm 1 22) [.ref (gad w 0), .int x1] S z.1 z.2 := by
  unfold X_type at h
  refine g_met (Qc := gQi w z.1 z.2) (by decide +kernel) (Nat.le_of_ble_eq_true rfl) ?_
  intro p e s m args below meth c A Q ls hQ C hG hl
  have hx := C.1
  have hb := C.2.1
  have hl : lv_has ls 2 [(0, .ref (gad w 0)), (1, .int x1)] := hl
  refine lv_iload_n hx hb d_X_type_0 rfl (lv_at hl 1 rfl) ?_
  refine lv_iconst (v := 0) hx hb d_X_type_1 (by decide) ?_
  refine lv_sipush (v := 255) hx hb d_X_type_2 (by decide) ?_
  refine g_goi hG (g_runS (As := [.int x1, .int 0, .int 255]) (rest := []) C hG (c_X_within l w S x1 0 255 _) sw_X_67 rfl rfl ⟨by decide, by decide⟩ rfl hl.1 rfl (Nat.le_of_ble_eq_true rfl) d_X_type_5 ⟨Nat.zero_le _, Nat.zero_le _⟩) (fun H locs hG => ?_)
  refine lv_if_ne (tgt := 14) hx hb d_X_type_8 (by decide) (fun hc => ?_) (fun hc => ?_)
  · replace h := it_f h hc
    refine lv_aload_n hx hb d_X_type_14 rfl (lv_at hl 0 rfl) ?_
    refine g_get C hG (hG.lt (Nat.le_of_ble_eq_true rfl)) (ce0 w _) rfl inC7 1 (Nat.le_of_ble_eq_true rfl) qw200 rfl d_X_type_15 ?_
    refine g_get C hG (hG.lt (Nat.le_of_ble_eq_true rfl)) (ce25 w _) rfl inC0 1 (Nat.le_of_ble_eq_true rfl) qw78 rfl d_X_type_18 ?_
    refine lv_bipush (v := 100) hx hb d_X_type_21 (by decide) ?_
    refine lv_icmp_lt (tgt := 29) hx hb d_X_type_23 (by decide) (fun hc => ?_) (fun hc => ?_)
    · replace h := it_t h hc
      refine lv_aload_n hx hb d_X_type_29 rfl (lv_at hl 0 rfl) ?_
      refine g_get C hG (hG.lt (Nat.le_of_ble_eq_true rfl)) (ce0 w _) rfl inC7 1 (Nat.le_of_ble_eq_true rfl) qw200 rfl d_X_type_30 ?_
      refine lv_iload_n hx hb d_X_type_33 rfl (lv_at hl 1 rfl) ?_
      obtain ⟨z1, hz1, h⟩ := bnd_some h
      refine g_gov hG (g_runV (As := [.int x1]) (rest := []) C hG (c_BT_append l w S x1 hz1 _) (hG.lt (Nat.le_of_ble_eq_true rfl)) (ce25 w _) rfl vw_X_74 rfl rfl ⟨by decide, by decide⟩ rfl hl.1 rfl (Nat.le_of_ble_eq_true rfl) d_X_type_34 ⟨Nat.zero_le _, Nat.zero_le _⟩) (fun H locs hG => ?_)
      refine lv_aload_n hx hb d_X_type_37 rfl (lv_at hl 0 rfl) ?_
      refine lv_dup hx hb d_X_type_38 rfl ?_
      refine g_get C hG (hG.lt (Nat.le_of_ble_eq_true rfl)) (ce0 w _) rfl inC7 9 (Nat.le_of_ble_eq_true rfl) qw208 rfl d_X_type_39 ?_
      refine lv_iconst (v := 1) hx hb d_X_type_42 (by decide) ?_
      refine lv_iadd hx hb d_X_type_43 ?_
      refine g_put (x := (z1 0 9) + 1) C hG (hG.lt (Nat.le_of_ble_eq_true rfl)) (ce0 w _) rfl inC7 okC7 nmC7 9 (Nat.le_of_ble_eq_true rfl) qw208 rfl rfl rfl (Nat.le_of_ble_eq_true rfl) rfl d_X_type_44 (fun H locs hG => ?_)
      refine lv_aload_n hx hb d_X_type_47 rfl (lv_at hl 0 rfl) ?_
      refine g_get C hG (hG.lt (Nat.le_of_ble_eq_true rfl)) (ce0 w _) rfl inC7 1 (Nat.le_of_ble_eq_true rfl) qw200 rfl d_X_type_48 ?_
      refine g_get C hG (hG.lt (Nat.le_of_ble_eq_true rfl)) (ce25 w _) rfl inC0 1 (Nat.le_of_ble_eq_true rfl) qw78 rfl d_X_type_51 ?_
      exact g_iret C hG (sm_fst h) (sm_snd h) hQ d_X_type_54
    · replace h := it_f h hc
      refine lv_bipush (v := (-4)) hx hb d_X_type_26 (by decide) ?_
      exact g_iret C hG (sm_fst h) (sm_snd h) hQ d_X_type_28
  · replace h := it_t h hc
    refine lv_bipush (v := (-2)) hx hb d_X_type_11 (by decide) ?_
    exact g_iret C hG (sm_fst h) (sm_snd h) hQ d_X_type_13
