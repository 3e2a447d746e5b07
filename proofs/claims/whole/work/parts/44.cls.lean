variable {p : Program} {l : Launch} {e : Env} {s : State} {m : MethodId} {args : Array Value} {below : List Frame} {meth : Method} {c : Code} {A : Nat → Prop} {Q : State → Prop} {w : gw} {S : St}
theorem d_OC_judge_0 : decode b_OC_judge 0 = .ok (.aload_n 0, 1) := by decide +kernel
theorem d_OC_judge_1 : decode b_OC_judge 1 = .ok (.invokevirtual 38, 3) := by decide +kernel
theorem d_OC_judge_4 : decode b_OC_judge 4 = .ok (.iconst 0, 1) := by decide +kernel
theorem d_OC_judge_5 : decode b_OC_judge 5 = .ok (.istore 4, 2) := by decide +kernel
theorem d_OC_judge_7 : decode b_OC_judge 7 = .ok (.iload 4, 2) := by decide +kernel
theorem d_OC_judge_9 : decode b_OC_judge 9 = .ok (.aload_n 2, 1) := by decide +kernel
theorem d_OC_judge_10 : decode b_OC_judge 10 = .ok (.getfield 41, 3) := by decide +kernel
theorem d_OC_judge_13 : decode b_OC_judge 13 = .ok (.if_icmp .ge 87, 3) := by decide +kernel
theorem d_OC_judge_16 : decode b_OC_judge 16 = .ok (.aload_n 0, 1) := by decide +kernel
theorem d_OC_judge_17 : decode b_OC_judge 17 = .ok (.getfield 9, 3) := by decide +kernel
theorem d_OC_judge_20 : decode b_OC_judge 20 = .ok (.iload 4, 2) := by decide +kernel
theorem d_OC_judge_22 : decode b_OC_judge 22 = .ok (.iload 4, 2) := by decide +kernel
theorem d_OC_judge_24 : decode b_OC_judge 24 = .ok (.iload_n 3, 1) := by decide +kernel
theorem d_OC_judge_25 : decode b_OC_judge 25 = .ok (.if_icmp .eq 18, 3) := by decide +kernel
theorem d_OC_judge_28 : decode b_OC_judge 28 = .ok (.aload_n 0, 1) := by decide +kernel
theorem d_OC_judge_29 : decode b_OC_judge 29 = .ok (.aload_n 1, 1) := by decide +kernel
theorem d_OC_judge_30 : decode b_OC_judge 30 = .ok (.aload_n 2, 1) := by decide +kernel
theorem d_OC_judge_31 : decode b_OC_judge 31 = .ok (.iload 4, 2) := by decide +kernel
theorem d_OC_judge_33 : decode b_OC_judge 33 = .ok (.invokevirtual 46, 3) := by decide +kernel
theorem d_OC_judge_36 : decode b_OC_judge 36 = .ok (.ifCond .eq 7, 3) := by decide +kernel
theorem d_OC_judge_39 : decode b_OC_judge 39 = .ok (.iconst 1, 1) := by decide +kernel
theorem d_OC_judge_40 : decode b_OC_judge 40 = .ok (.goto 4, 3) := by decide +kernel
theorem d_OC_judge_43 : decode b_OC_judge 43 = .ok (.iconst 0, 1) := by decide +kernel
theorem d_OC_judge_44 : decode b_OC_judge 44 = .ok (.bastore, 1) := by decide +kernel
theorem d_OC_judge_45 : decode b_OC_judge 45 = .ok (.aload_n 0, 1) := by decide +kernel
theorem d_OC_judge_46 : decode b_OC_judge 46 = .ok (.getfield 9, 3) := by decide +kernel
theorem d_OC_judge_49 : decode b_OC_judge 49 = .ok (.iload 4, 2) := by decide +kernel
theorem d_OC_judge_51 : decode b_OC_judge 51 = .ok (.baload, 1) := by decide +kernel
theorem d_OC_judge_52 : decode b_OC_judge 52 = .ok (.ifCond .eq 28, 3) := by decide +kernel
theorem d_OC_judge_55 : decode b_OC_judge 55 = .ok (.aload_n 0, 1) := by decide +kernel
theorem d_OC_judge_56 : decode b_OC_judge 56 = .ok (.aload_n 2, 1) := by decide +kernel
theorem d_OC_judge_57 : decode b_OC_judge 57 = .ok (.iload 4, 2) := by decide +kernel
theorem d_OC_judge_59 : decode b_OC_judge 59 = .ok (.invokevirtual 50, 3) := by decide +kernel
theorem d_OC_judge_62 : decode b_OC_judge 62 = .ok (.aload_n 2, 1) := by decide +kernel
theorem d_OC_judge_63 : decode b_OC_judge 63 = .ok (.iload 4, 2) := by decide +kernel
theorem d_OC_judge_65 : decode b_OC_judge 65 = .ok (.invokevirtual 54, 3) := by decide +kernel
theorem d_OC_judge_68 : decode b_OC_judge 68 = .ok (.aload_n 2, 1) := by decide +kernel
theorem d_OC_judge_69 : decode b_OC_judge 69 = .ok (.iload 4, 2) := by decide +kernel
theorem d_OC_judge_71 : decode b_OC_judge 71 = .ok (.invokevirtual 57, 3) := by decide +kernel
theorem d_OC_judge_74 : decode b_OC_judge 74 = .ok (.invokevirtual 60, 3) := by decide +kernel
theorem d_OC_judge_77 : decode b_OC_judge 77 = .ok (.goto 17, 3) := by decide +kernel
theorem d_OC_judge_80 : decode b_OC_judge 80 = .ok (.aload_n 0, 1) := by decide +kernel
theorem d_OC_judge_81 : decode b_OC_judge 81 = .ok (.getfield 32, 3) := by decide +kernel
theorem d_OC_judge_84 : decode b_OC_judge 84 = .ok (.iconst (-1), 1) := by decide +kernel
theorem d_OC_judge_85 : decode b_OC_judge 85 = .ok (.if_icmp .ne 9, 3) := by decide +kernel
theorem d_OC_judge_88 : decode b_OC_judge 88 = .ok (.aload_n 0, 1) := by decide +kernel
theorem d_OC_judge_89 : decode b_OC_judge 89 = .ok (.iload 4, 2) := by decide +kernel
theorem d_OC_judge_91 : decode b_OC_judge 91 = .ok (.putfield 32, 3) := by decide +kernel
theorem d_OC_judge_94 : decode b_OC_judge 94 = .ok (.iinc 4 1, 3) := by decide +kernel
theorem d_OC_judge_97 : decode b_OC_judge 97 = .ok (.goto (-90), 3) := by decide +kernel
theorem d_OC_judge_100 : decode b_OC_judge 100 = .ok (.return_, 1) := by decide +kernel
noncomputable def OC_judge_J44 (S : St) (x3 : Int32) (x4 : Int32) (t1 : Int32) (t2 : Int32) : Option ((Int32 × St) × Nat) :=
  chk (inb t1 20) <|
    chk (isz t2) <|
    chk (inb x4 20) <|
    if ((up S 28 (ix t1) t2) 28 (ix x4)) = 0 then
      if ((up S 28 (ix t1) t2) 27 6) = (-1) then
        some ((x4 + 1, up (up S 28 (ix t1) t2) 27 6 x4), 0)
      else
        some ((x4 + 1, up S 28 (ix t1) t2), 0)
    else
      bnd (BT_eveningOf (up S 28 (ix t1) t2) x4) fun z1 =>
      bnd (BT_bidderOf (up S 28 (ix t1) t2) x4) fun z2 =>
      bnd (BT_amountOf (up S 28 (ix t1) t2) x4) fun z3 =>
      bnd (OC_lead (up S 28 (ix t1) t2) z1 z2 z3) fun z4 =>
      some ((x4 + 1, z4), 0)
noncomputable def OC_judge_J43 (S : St) (x3 : Int32) (x4 : Int32) (t1 : Int32) : Option ((Int32 × St) × Nat) :=
  OC_judge_J44 S x3 x4 t1 0
noncomputable def OC_judge_L7 (S : St) (x3 : Int32) (x4 : Int32) : Option ((Int32 × St) × Nat) :=
  if (S 25 3) ≤ x4 then
      some ((x4, S), 1)
    else
      if x4 = x3 then
        OC_judge_J43 S x3 x4 x4
      else
        bnd (OC_holdsNow S x4) fun z5 =>
        if z5 = 0 then
          OC_judge_J43 S x3 x4 x4
        else
          OC_judge_J44 S x3 x4 x4 1
noncomputable def OC_judge_J100 (S : St) : Option (St) :=
  some S
noncomputable def OC_judge (S : St) (x3 : Int32) : Option (St) :=
  bnd (OC_clear S) fun z6 =>
    bnd (lp (σ := Int32 × St) (fun q => OC_judge_L7 q.2 x3 q.1) FZ (0, z6)) fun z7 =>
    OC_judge_J100 z7.1.2
set_option maxHeartbeats 4000000 in
set_option maxRecDepth 100000 in
theorem L_OC_judge_7 (C : gCx p s m args meth c y_OC_judge.cls b_OC_judge 5 none) : ∀ (x3 : Int32) (n : Nat) (x4 : Int32) (S : St) (r : (Int32 × St) × Nat), lp (σ := Int32 × St) (fun q => OC_judge_L7 q.2 x3 q.1) n (x4, S) = some r → (∀ (y4 : Int32) (Sy : St), r = ((y4, Sy), 1) → ∀ (ls : Array Slot) (H : Heap) (locs : List Loc), GH w s A Sy H locs → lv_has ls 5 [] → W p l e (rmm 2 47) s m args below meth c H locs 0 0 Q (F0 m 100 ls [])) → ∀ (ls : Array Slot) (H : Heap) (locs : List Loc), GH w s A S H locs → lv_has ls 5 [(0, .ref (gad w 27)), (1, .ref (gad w 1)), (2, .ref (gad w 25)), (3, .int x3), (4, .int x4)] → W p l e (rmm 2 47) s m args below meth c H locs 0 0 Q (F0 m 7 ls []) := by
  have hx := C.1
  have hb := C.2.1
  intro x3 n
  induction n with
  | zero => intro x4 S r h; cases h
  | succ n ih =>
    intro x4 S r h k1 ls H locs hG hl
    obtain ⟨z, h, hr⟩ := lp_succ h
    have h : OC_judge_L7 S x3 x4 = some z := h
    have J44 : ∀ (S : St) (x4 : Int32) (t1 : Int32) (t2 : Int32), OC_judge_J44 S x3 x4 t1 t2 = some z → ∀ (ls : Array Slot) (H : Heap) (locs : List Loc), GH w s A S H locs → lv_has ls 5 [(0, .ref (gad w 27)), (1, .ref (gad w 1)), (2, .ref (gad w 25)), (3, .int x3), (4, .int x4)] → W p l e (rmm 2 47) s m args below meth c H locs 0 0 Q (F0 m 44 ls [.int t2, .int t1, .ref (gad w 28)]) := by
      intro S x4 t1 t2 h ls H locs hG hl
      unfold OC_judge_J44 at h
      obtain ⟨hi1, h⟩ := chk_some h
      obtain ⟨hi2, h⟩ := chk_some h
      refine g_zast (j := ix t1) (x := t2) C hG (hG.lt (Nat.le_of_ble_eq_true rfl)) (ce28 w) (inb_in hi1) rfl (isz_in hi2) d_OC_judge_44 (fun H locs hG => ?_)
      refine lv_aload_n hx hb d_OC_judge_45 rfl (lv_at hl 0 rfl) ?_
      refine g_get C hG (hG.lt (Nat.le_of_ble_eq_true rfl)) (ce27 w _) rfl inC3 0 (Nat.le_of_ble_eq_true rfl) qw99 rfl d_OC_judge_46 ?_
      refine lv_iload hx hb d_OC_judge_49 (lv_at hl 4 rfl) ?_
      obtain ⟨hi3, h⟩ := chk_some h
      refine g_zald (j := ix x4) C hG (hG.lt (Nat.le_of_ble_eq_true rfl)) (ce28 w _) (inb_in hi3) rfl d_OC_judge_51 ?_
      refine lv_if_eq (tgt := 80) hx hb d_OC_judge_52 (by decide) (fun hc => ?_) (fun hc => ?_)
      · replace h := it_t h hc
        refine lv_aload_n hx hb d_OC_judge_80 rfl (lv_at hl 0 rfl) ?_
        refine g_get C hG (hG.lt (Nat.le_of_ble_eq_true rfl)) (ce27 w _) rfl inC3 6 (Nat.le_of_ble_eq_true rfl) qw109 rfl d_OC_judge_81 ?_
        refine lv_iconst (v := (-1)) hx hb d_OC_judge_84 (by decide) ?_
        refine lv_icmp_ne (tgt := 94) hx hb d_OC_judge_85 (by decide) (fun hc => ?_) (fun hc => ?_)
        · replace h := it_f h hc
          refine lv_iinc (v := x4 + 1) (lv' := [(4, .int (x4 + 1)), (0, .ref (gad w 27)), (1, .ref (gad w 1)), (2, .ref (gad w 25)), (3, .int x3)]) hx hb d_OC_judge_94 hl (k := 4) rfl (congrArg (HAdd.hAdd x4) (by decide : Int32.ofInt 1 = 1)) (by decide) rfl (fun ls hl => ?_)
          refine lv_goto (tgt := 7) hx hb d_OC_judge_97 (by decide) ?_
          exact ih _ _ _ (lp_back h hr) k1 ls _ _ hG (lv_sub hl [1, 2, 3, 4, 0] rfl)
        · replace h := it_t h hc
          refine lv_aload_n hx hb d_OC_judge_88 rfl (lv_at hl 0 rfl) ?_
          refine lv_iload hx hb d_OC_judge_89 (lv_at hl 4 rfl) ?_
          refine g_put (x := x4) C hG (hG.lt (Nat.le_of_ble_eq_true rfl)) (ce27 w _) rfl inC3 okC3 nmC3 6 (Nat.le_of_ble_eq_true rfl) qw109 rfl rfl rfl (Nat.le_of_ble_eq_true rfl) rfl d_OC_judge_91 (fun H locs hG => ?_)
          refine lv_iinc (v := x4 + 1) (lv' := [(4, .int (x4 + 1)), (0, .ref (gad w 27)), (1, .ref (gad w 1)), (2, .ref (gad w 25)), (3, .int x3)]) hx hb d_OC_judge_94 hl (k := 4) rfl (congrArg (HAdd.hAdd x4) (by decide : Int32.ofInt 1 = 1)) (by decide) rfl (fun ls hl => ?_)
          refine lv_goto (tgt := 7) hx hb d_OC_judge_97 (by decide) ?_
          exact ih _ _ _ (lp_back h hr) k1 ls _ _ hG (lv_sub hl [1, 2, 3, 4, 0] rfl)
      · replace h := it_f h hc
        refine lv_aload_n hx hb d_OC_judge_55 rfl (lv_at hl 0 rfl) ?_
        refine lv_aload_n hx hb d_OC_judge_56 rfl (lv_at hl 2 rfl) ?_
        refine lv_iload hx hb d_OC_judge_57 (lv_at hl 4 rfl) ?_
        obtain ⟨z1, hz1, h⟩ := bnd_some h
        refine g_goi hG (g_runV (As := [.int x4]) (rest := [.ref (gad w 27)]) C hG (c_BT_eveningOf l w (up S 28 (ix t1) t2) x4 hz1 _) (hG.lt (Nat.le_of_ble_eq_true rfl)) (ce25 w _) rfl vw_OC_50 rfl rfl ⟨by decide, by decide⟩ rfl hl.1 rfl (Nat.le_of_ble_eq_true rfl) d_OC_judge_59 ⟨Nat.zero_le _, Nat.zero_le _⟩) (fun H locs hG => ?_)
        refine lv_aload_n hx hb d_OC_judge_62 rfl (lv_at hl 2 rfl) ?_
        refine lv_iload hx hb d_OC_judge_63 (lv_at hl 4 rfl) ?_
        obtain ⟨z2, hz2, h⟩ := bnd_some h
        refine g_goi hG (g_runV (As := [.int x4]) (rest := [.int z1, .ref (gad w 27)]) C hG (c_BT_bidderOf l w (up S 28 (ix t1) t2) x4 hz2 _) (hG.lt (Nat.le_of_ble_eq_true rfl)) (ce25 w _) rfl vw_OC_54 rfl rfl ⟨by decide, by decide⟩ rfl hl.1 rfl (Nat.le_of_ble_eq_true rfl) d_OC_judge_65 ⟨Nat.zero_le _, Nat.zero_le _⟩) (fun H locs hG => ?_)
        refine lv_aload_n hx hb d_OC_judge_68 rfl (lv_at hl 2 rfl) ?_
        refine lv_iload hx hb d_OC_judge_69 (lv_at hl 4 rfl) ?_
        obtain ⟨z3, hz3, h⟩ := bnd_some h
        refine g_goi hG (g_runV (As := [.int x4]) (rest := [.int z2, .int z1, .ref (gad w 27)]) C hG (c_BT_amountOf l w (up S 28 (ix t1) t2) x4 hz3 _) (hG.lt (Nat.le_of_ble_eq_true rfl)) (ce25 w _) rfl vw_OC_57 rfl rfl ⟨by decide, by decide⟩ rfl hl.1 rfl (Nat.le_of_ble_eq_true rfl) d_OC_judge_71 ⟨Nat.zero_le _, Nat.zero_le _⟩) (fun H locs hG => ?_)
        obtain ⟨z4, hz4, h⟩ := bnd_some h
        refine g_gov hG (g_runV (As := [.int z1, .int z2, .int z3]) (rest := []) C hG (c_OC_lead l w (up S 28 (ix t1) t2) z1 z2 z3 hz4 _) (hG.lt (Nat.le_of_ble_eq_true rfl)) (ce27 w _) rfl vw_OC_60 rfl rfl ⟨by decide, by decide⟩ rfl hl.1 rfl (Nat.le_of_ble_eq_true rfl) d_OC_judge_74 ⟨Nat.zero_le _, Nat.zero_le _⟩) (fun H locs hG => ?_)
        refine lv_goto (tgt := 94) hx hb d_OC_judge_77 (by decide) ?_
        refine lv_iinc (v := x4 + 1) (lv' := [(4, .int (x4 + 1)), (0, .ref (gad w 27)), (1, .ref (gad w 1)), (2, .ref (gad w 25)), (3, .int x3)]) hx hb d_OC_judge_94 hl (k := 4) rfl (congrArg (HAdd.hAdd x4) (by decide : Int32.ofInt 1 = 1)) (by decide) rfl (fun ls hl => ?_)
        refine lv_goto (tgt := 7) hx hb d_OC_judge_97 (by decide) ?_
        exact ih _ _ _ (lp_back h hr) k1 ls _ _ hG (lv_sub hl [1, 2, 3, 4, 0] rfl)
    have J43 : ∀ (S : St) (x4 : Int32) (t1 : Int32), OC_judge_J43 S x3 x4 t1 = some z → ∀ (ls : Array Slot) (H : Heap) (locs : List Loc), GH w s A S H locs → lv_has ls 5 [(0, .ref (gad w 27)), (1, .ref (gad w 1)), (2, .ref (gad w 25)), (3, .int x3), (4, .int x4)] → W p l e (rmm 2 47) s m args below meth c H locs 0 0 Q (F0 m 43 ls [.int t1, .ref (gad w 28)]) := by
      intro S x4 t1 h ls H locs hG hl
      unfold OC_judge_J43 at h
      refine lv_iconst (v := 0) hx hb d_OC_judge_43 (by decide) ?_
      exact J44 _ _ _ _ h ls _ _ hG (lv_sub hl [0, 1, 2, 3, 4] rfl)
    unfold OC_judge_L7 at h
    refine lv_iload hx hb d_OC_judge_7 (lv_at hl 4 rfl) ?_
    refine lv_aload_n hx hb d_OC_judge_9 rfl (lv_at hl 2 rfl) ?_
    refine g_get C hG (hG.lt (Nat.le_of_ble_eq_true rfl)) (ce25 w _) rfl inC0 3 (Nat.le_of_ble_eq_true rfl) qw82 rfl d_OC_judge_10 ?_
    refine lv_icmp_ge (tgt := 100) hx hb d_OC_judge_13 (by decide) (fun hc => ?_) (fun hc => ?_)
    · replace h := it_t h hc
      exact k1 _ _ (lp_exit h hr) ls _ _ hG (lv_sub hl [] rfl)
    · replace h := it_f h hc
      refine lv_aload_n hx hb d_OC_judge_16 rfl (lv_at hl 0 rfl) ?_
      refine g_get C hG (hG.lt (Nat.le_of_ble_eq_true rfl)) (ce27 w _) rfl inC3 0 (Nat.le_of_ble_eq_true rfl) qw99 rfl d_OC_judge_17 ?_
      refine lv_iload hx hb d_OC_judge_20 (lv_at hl 4 rfl) ?_
      refine lv_iload hx hb d_OC_judge_22 (lv_at hl 4 rfl) ?_
      refine lv_iload_n hx hb d_OC_judge_24 rfl (lv_at hl 3 rfl) ?_
      refine lv_icmp_eq (tgt := 43) hx hb d_OC_judge_25 (by decide) (fun hc => ?_) (fun hc => ?_)
      · replace h := it_t h hc
        exact J43 _ _ _ h ls _ _ hG (lv_sub hl [0, 1, 2, 3, 4] rfl)
      · replace h := it_f h hc
        refine lv_aload_n hx hb d_OC_judge_28 rfl (lv_at hl 0 rfl) ?_
        refine lv_aload_n hx hb d_OC_judge_29 rfl (lv_at hl 1 rfl) ?_
        refine lv_aload_n hx hb d_OC_judge_30 rfl (lv_at hl 2 rfl) ?_
        refine lv_iload hx hb d_OC_judge_31 (lv_at hl 4 rfl) ?_
        obtain ⟨z5, hz5, h⟩ := bnd_some h
        refine g_goi hG (g_runV (As := [.ref (gad w 1), .ref (gad w 25), .int x4]) (rest := [.int x4, .ref (gad w 28)]) C hG (c_OC_holdsNow l w S x4 hz5 _) (hG.lt (Nat.le_of_ble_eq_true rfl)) (ce27 w _) rfl vw_OC_46 rfl rfl ⟨by decide, by decide⟩ rfl hl.1 rfl (Nat.le_of_ble_eq_true rfl) d_OC_judge_33 ⟨Nat.zero_le _, Nat.zero_le _⟩) (fun H locs hG => ?_)
        refine lv_if_eq (tgt := 43) hx hb d_OC_judge_36 (by decide) (fun hc => ?_) (fun hc => ?_)
        · replace h := it_t h hc
          exact J43 _ _ _ h ls _ _ hG (lv_sub hl [0, 1, 2, 3, 4] rfl)
        · replace h := it_f h hc
          refine lv_iconst (v := 1) hx hb d_OC_judge_39 (by decide) ?_
          refine lv_goto (tgt := 44) hx hb d_OC_judge_40 (by decide) ?_
          exact J44 _ _ _ _ h ls _ _ hG (lv_sub hl [0, 1, 2, 3, 4] rfl)
set_option maxHeartbeats 4000000 in
set_option maxRecDepth 100000 in
theorem c_OC_judge (l : Launch) (w : gw) (S : St) (x3 : Int32)  {z : St} (h : (OC_judge S x3) = some z) : gMv l w y_OC_judge b_OC_judge 5 none (rmm 2 47) [.ref (gad w 27), .ref (gad w 1), .ref (gad w 25), .int x3] S z := by
  unfold OC_judge at h
  refine g_met (Qc := gQv w z) (by decide +kernel) (Nat.le_of_ble_eq_true rfl) ?_
  intro p e s m args below meth c A Q ls hQ C hG hl
  have hx := C.1
  have hb := C.2.1
  have hl : lv_has ls 5 [(0, .ref (gad w 27)), (1, .ref (gad w 1)), (2, .ref (gad w 25)), (3, .int x3)] := hl
  have J100 : ∀ (S : St), OC_judge_J100 S = some z → ∀ (ls : Array Slot) (H : Heap) (locs : List Loc), GH w s A S H locs → lv_has ls 5 [] → W p l e (rmm 2 47) s m args below meth c H locs 0 0 Q (F0 m 100 ls []) := by
    intro S h ls H locs hG hl
    unfold OC_judge_J100 at h
    exact g_vret C hG (Option.some.inj h) hQ d_OC_judge_100
  refine lv_aload_n hx hb d_OC_judge_0 rfl (lv_at hl 0 rfl) ?_
  obtain ⟨z6, hz6, h⟩ := bnd_some h
  refine g_gov hG (g_runV (As := []) (rest := []) C hG (c_OC_clear l w S hz6 _) (hG.lt (Nat.le_of_ble_eq_true rfl)) (ce27 w _) rfl vw_OC_38 rfl rfl ⟨by decide, by decide⟩ rfl hl.1 rfl (Nat.le_of_ble_eq_true rfl) d_OC_judge_1 ⟨Nat.zero_le _, Nat.zero_le _⟩) (fun H locs hG => ?_)
  refine lv_iconst (v := 0) hx hb d_OC_judge_4 (by decide) ?_
  refine lv_istore (lv' := [(4, .int 0), (0, .ref (gad w 27)), (1, .ref (gad w 1)), (2, .ref (gad w 25)), (3, .int x3)]) hx hb d_OC_judge_5 hl (by decide) rfl (fun ls hl => ?_)
  obtain ⟨z7, hz7, h⟩ := bnd_some h
  refine L_OC_judge_7 C _ FZ _ _ _ hz7 ?_ ls _ _ hG (lv_sub hl [1, 2, 3, 4, 0] rfl)
  intro y4 Sy e9 ls H locs hG hl
  subst e9
  exact J100 _ h ls _ _ hG (lv_sub hl [] rfl)
theorem d_SI_waysToDeal_0 : decode b_SI_waysToDeal 0 = .ok (.aload_n 0, 1) := by decide +kernel
theorem d_SI_waysToDeal_1 : decode b_SI_waysToDeal 1 = .ok (.getfield 15, 3) := by decide +kernel
theorem d_SI_waysToDeal_4 : decode b_SI_waysToDeal 4 = .ok (.iconst 0, 1) := by decide +kernel
theorem d_SI_waysToDeal_5 : decode b_SI_waysToDeal 5 = .ok (.iconst 1, 1) := by decide +kernel
theorem d_SI_waysToDeal_6 : decode b_SI_waysToDeal 6 = .ok (.iastore, 1) := by decide +kernel
theorem d_SI_waysToDeal_7 : decode b_SI_waysToDeal 7 = .ok (.iconst 1, 1) := by decide +kernel
theorem d_SI_waysToDeal_8 : decode b_SI_waysToDeal 8 = .ok (.istore 4, 2) := by decide +kernel
theorem d_SI_waysToDeal_10 : decode b_SI_waysToDeal 10 = .ok (.iload 4, 2) := by decide +kernel
theorem d_SI_waysToDeal_12 : decode b_SI_waysToDeal 12 = .ok (.iload_n 1, 1) := by decide +kernel
theorem d_SI_waysToDeal_13 : decode b_SI_waysToDeal 13 = .ok (.if_icmp .gt 17, 3) := by decide +kernel
theorem d_SI_waysToDeal_16 : decode b_SI_waysToDeal 16 = .ok (.aload_n 0, 1) := by decide +kernel
theorem d_SI_waysToDeal_17 : decode b_SI_waysToDeal 17 = .ok (.getfield 15, 3) := by decide +kernel
theorem d_SI_waysToDeal_20 : decode b_SI_waysToDeal 20 = .ok (.iload 4, 2) := by decide +kernel
theorem d_SI_waysToDeal_22 : decode b_SI_waysToDeal 22 = .ok (.iconst 0, 1) := by decide +kernel
theorem d_SI_waysToDeal_23 : decode b_SI_waysToDeal 23 = .ok (.iastore, 1) := by decide +kernel
theorem d_SI_waysToDeal_24 : decode b_SI_waysToDeal 24 = .ok (.iinc 4 1, 3) := by decide +kernel
theorem d_SI_waysToDeal_27 : decode b_SI_waysToDeal 27 = .ok (.goto (-17), 3) := by decide +kernel
theorem d_SI_waysToDeal_30 : decode b_SI_waysToDeal 30 = .ok (.iconst 0, 1) := by decide +kernel
theorem d_SI_waysToDeal_31 : decode b_SI_waysToDeal 31 = .ok (.istore 4, 2) := by decide +kernel
theorem d_SI_waysToDeal_33 : decode b_SI_waysToDeal 33 = .ok (.iload 4, 2) := by decide +kernel
theorem d_SI_waysToDeal_35 : decode b_SI_waysToDeal 35 = .ok (.iload_n 2, 1) := by decide +kernel
theorem d_SI_waysToDeal_36 : decode b_SI_waysToDeal 36 = .ok (.if_icmp .ge 37, 3) := by decide +kernel
theorem d_SI_waysToDeal_39 : decode b_SI_waysToDeal 39 = .ok (.iload_n 1, 1) := by decide +kernel
theorem d_SI_waysToDeal_40 : decode b_SI_waysToDeal 40 = .ok (.istore 5, 2) := by decide +kernel
theorem d_SI_waysToDeal_42 : decode b_SI_waysToDeal 42 = .ok (.iload 5, 2) := by decide +kernel
theorem d_SI_waysToDeal_44 : decode b_SI_waysToDeal 44 = .ok (.ifCond .le 23, 3) := by decide +kernel
theorem d_SI_waysToDeal_47 : decode b_SI_waysToDeal 47 = .ok (.aload_n 0, 1) := by decide +kernel
theorem d_SI_waysToDeal_48 : decode b_SI_waysToDeal 48 = .ok (.getfield 15, 3) := by decide +kernel
theorem d_SI_waysToDeal_51 : decode b_SI_waysToDeal 51 = .ok (.iload 5, 2) := by decide +kernel
theorem d_SI_waysToDeal_53 : decode b_SI_waysToDeal 53 = .ok (.aload_n 0, 1) := by decide +kernel
theorem d_SI_waysToDeal_54 : decode b_SI_waysToDeal 54 = .ok (.iload 5, 2) := by decide +kernel
theorem d_SI_waysToDeal_56 : decode b_SI_waysToDeal 56 = .ok (.iload_n 3, 1) := by decide +kernel
theorem d_SI_waysToDeal_57 : decode b_SI_waysToDeal 57 = .ok (.invokevirtual 56, 3) := by decide +kernel
theorem d_SI_waysToDeal_60 : decode b_SI_waysToDeal 60 = .ok (.iastore, 1) := by decide +kernel
theorem d_SI_waysToDeal_61 : decode b_SI_waysToDeal 61 = .ok (.iinc 5 (-1), 3) := by decide +kernel
theorem d_SI_waysToDeal_64 : decode b_SI_waysToDeal 64 = .ok (.goto (-22), 3) := by decide +kernel
theorem d_SI_waysToDeal_67 : decode b_SI_waysToDeal 67 = .ok (.iinc 4 1, 3) := by decide +kernel
theorem d_SI_waysToDeal_70 : decode b_SI_waysToDeal 70 = .ok (.goto (-37), 3) := by decide +kernel
theorem d_SI_waysToDeal_73 : decode b_SI_waysToDeal 73 = .ok (.aload_n 0, 1) := by decide +kernel
theorem d_SI_waysToDeal_74 : decode b_SI_waysToDeal 74 = .ok (.getfield 15, 3) := by decide +kernel
theorem d_SI_waysToDeal_77 : decode b_SI_waysToDeal 77 = .ok (.iload_n 1, 1) := by decide +kernel
theorem d_SI_waysToDeal_78 : decode b_SI_waysToDeal 78 = .ok (.iaload, 1) := by decide +kernel
theorem d_SI_waysToDeal_79 : decode b_SI_waysToDeal 79 = .ok (.ireturn, 1) := by decide +kernel
noncomputable def SI_waysToDeal_L10 (S : St) (x1 : Int32) (x2 : Int32) (x3 : Int32) (x4 : Int32) : Option ((Int32 × St) × Nat) :=
  if x1 < x4 then
      some ((x4, S), 1)
    else
      chk (inb x4 9) <|
      some ((x4 + 1, up S 47 (ix x4) 0), 0)
noncomputable def SI_waysToDeal_L42 (S : St) (x1 : Int32) (x2 : Int32) (x3 : Int32) (x4 : Int32) (x5 : Int32) : Option ((Int32 × St) × Nat) :=
  if x5 ≤ 0 then
      some ((x5, S), 1)
    else
      bnd (SI_waysWithOneMore S x5 x3) fun z1 =>
      chk (inb x5 9) <|
      some ((x5 + (-1), up S 47 (ix x5) z1), 0)
noncomputable def SI_waysToDeal_J67 (S : St) (x1 : Int32) (x2 : Int32) (x3 : Int32) (x4 : Int32) : Option ((Int32 × St) × Nat) :=
  some ((x4 + 1, S), 0)
noncomputable def SI_waysToDeal_L33 (S : St) (x1 : Int32) (x2 : Int32) (x3 : Int32) (x4 : Int32) : Option ((Int32 × St) × Nat) :=
  if x2 ≤ x4 then
      some ((x4, S), 1)
    else
      bnd (lp (σ := Int32 × St) (fun q => SI_waysToDeal_L42 q.2 x1 x2 x3 x4 q.1) FZ (x1, S)) fun z2 =>
      SI_waysToDeal_J67 z2.1.2 x1 x2 x3 x4
noncomputable def SI_waysToDeal_J73 (S : St) (x1 : Int32) : Option (Int32 × St) :=
  chk (inb x1 9) <|
    some (S 47 (ix x1), S)
noncomputable def SI_waysToDeal_J30 (S : St) (x1 : Int32) (x2 : Int32) (x3 : Int32) : Option (Int32 × St) :=
  bnd (lp (σ := Int32 × St) (fun q => SI_waysToDeal_L33 q.2 x1 x2 x3 q.1) FZ (0, S)) fun z3 =>
    SI_waysToDeal_J73 z3.1.2 x1
noncomputable def SI_waysToDeal (S : St) (x1 : Int32) (x2 : Int32) (x3 : Int32) : Option (Int32 × St) :=
  bnd (lp (σ := Int32 × St) (fun q => SI_waysToDeal_L10 q.2 x1 x2 x3 q.1) FZ (1, up S 47 0 1)) fun z4 =>
    SI_waysToDeal_J30 z4.1.2 x1 x2 x3
set_option maxHeartbeats 4000000 in
set_option maxRecDepth 100000 in
theorem L_SI_waysToDeal_10 (C : gCx p s m args meth c y_SI_waysToDeal.cls b_SI_waysToDeal 6 (some .int)) : ∀ (x1 : Int32) (x2 : Int32) (x3 : Int32) (n : Nat) (x4 : Int32) (S : St) (r : (Int32 × St) × Nat), lp (σ := Int32 × St) (fun q => SI_waysToDeal_L10 q.2 x1 x2 x3 q.1) n (x4, S) = some r → (∀ (y4 : Int32) (Sy : St), r = ((y4, Sy), 1) → ∀ (ls : Array Slot) (H : Heap) (locs : List Loc), GH w s A Sy H locs → lv_has ls 6 [(0, .ref (gad w 45)), (1, .int x1), (2, .int x2), (3, .int x3)] → W p l e (rmm 1 25) s m args below meth c H locs 0 0 Q (F0 m 30 ls [])) → ∀ (ls : Array Slot) (H : Heap) (locs : List Loc), GH w s A S H locs → lv_has ls 6 [(0, .ref (gad w 45)), (1, .int x1), (2, .int x2), (3, .int x3), (4, .int x4)] → W p l e (rmm 1 25) s m args below meth c H locs 0 0 Q (F0 m 10 ls []) := by
  have hx := C.1
  have hb := C.2.1
  intro x1 x2 x3 n
  induction n with
  | zero => intro x4 S r h; cases h
  | succ n ih =>
    intro x4 S r h k1 ls H locs hG hl
    obtain ⟨z, h, hr⟩ := lp_succ h
    have h : SI_waysToDeal_L10 S x1 x2 x3 x4 = some z := h
    unfold SI_waysToDeal_L10 at h
    refine lv_iload hx hb d_SI_waysToDeal_10 (lv_at hl 4 rfl) ?_
    refine lv_iload_n hx hb d_SI_waysToDeal_12 rfl (lv_at hl 1 rfl) ?_
    refine lv_icmp_gt (tgt := 30) hx hb d_SI_waysToDeal_13 (by decide) (fun hc => ?_) (fun hc => ?_)
    · replace h := it_t h hc
      exact k1 _ _ (lp_exit h hr) ls _ _ hG (lv_sub hl [0, 1, 2, 3] rfl)
    · replace h := it_f h hc
      refine lv_aload_n hx hb d_SI_waysToDeal_16 rfl (lv_at hl 0 rfl) ?_
      refine g_get C hG (hG.lt (Nat.le_of_ble_eq_true rfl)) (ce45 w _) rfl inC5 1 (Nat.le_of_ble_eq_true rfl) qw184 rfl d_SI_waysToDeal_17 ?_
      refine lv_iload hx hb d_SI_waysToDeal_20 (lv_at hl 4 rfl) ?_
      refine lv_iconst (v := 0) hx hb d_SI_waysToDeal_22 (by decide) ?_
      obtain ⟨hi1, h⟩ := chk_some h
      refine g_iast (j := ix x4) (x := 0) C hG (hG.lt (Nat.le_of_ble_eq_true rfl)) (ce47 w) (inb_in hi1) rfl d_SI_waysToDeal_23 (fun H locs hG => ?_)
      refine lv_iinc (v := x4 + 1) (lv' := [(4, .int (x4 + 1)), (0, .ref (gad w 45)), (1, .int x1), (2, .int x2), (3, .int x3)]) hx hb d_SI_waysToDeal_24 hl (k := 4) rfl (congrArg (HAdd.hAdd x4) (by decide : Int32.ofInt 1 = 1)) (by decide) rfl (fun ls hl => ?_)
      refine lv_goto (tgt := 10) hx hb d_SI_waysToDeal_27 (by decide) ?_
      exact ih _ _ _ (lp_back h hr) k1 ls _ _ hG (lv_sub hl [1, 2, 3, 4, 0] rfl)
set_option maxHeartbeats 4000000 in
set_option maxRecDepth 100000 in
theorem L_SI_waysToDeal_42 (C : gCx p s m args meth c y_SI_waysToDeal.cls b_SI_waysToDeal 6 (some .int)) : ∀ (x1 : Int32) (x2 : Int32) (x3 : Int32) (x4 : Int32) (n : Nat) (x5 : Int32) (S : St) (r : (Int32 × St) × Nat), lp (σ := Int32 × St) (fun q => SI_waysToDeal_L42 q.2 x1 x2 x3 x4 q.1) n (x5, S) = some r → (∀ (y5 : Int32) (Sy : St), r = ((y5, Sy), 1) → ∀ (ls : Array Slot) (H : Heap) (locs : List Loc), GH w s A Sy H locs → lv_has ls 6 [(0, .ref (gad w 45)), (1, .int x1), (2, .int x2), (3, .int x3), (4, .int x4)] → W p l e (rmm 1 25) s m args below meth c H locs 0 0 Q (F0 m 67 ls [])) → ∀ (ls : Array Slot) (H : Heap) (locs : List Loc), GH w s A S H locs → lv_has ls 6 [(0, .ref (gad w 45)), (1, .int x1), (2, .int x2), (3, .int x3), (4, .int x4), (5, .int x5)] → W p l e (rmm 1 25) s m args below meth c H locs 0 0 Q (F0 m 42 ls []) := by
  have hx := C.1
  have hb := C.2.1
  intro x1 x2 x3 x4 n
  induction n with
  | zero => intro x5 S r h; cases h
  | succ n ih =>
    intro x5 S r h k1 ls H locs hG hl
    obtain ⟨z, h, hr⟩ := lp_succ h
    have h : SI_waysToDeal_L42 S x1 x2 x3 x4 x5 = some z := h
    unfold SI_waysToDeal_L42 at h
    refine lv_iload hx hb d_SI_waysToDeal_42 (lv_at hl 5 rfl) ?_
    refine lv_if_le (tgt := 67) hx hb d_SI_waysToDeal_44 (by decide) (fun hc => ?_) (fun hc => ?_)
    · replace h := it_t h hc
      exact k1 _ _ (lp_exit h hr) ls _ _ hG (lv_sub hl [0, 1, 2, 3, 4] rfl)
    · replace h := it_f h hc
      refine lv_aload_n hx hb d_SI_waysToDeal_47 rfl (lv_at hl 0 rfl) ?_
      refine g_get C hG (hG.lt (Nat.le_of_ble_eq_true rfl)) (ce45 w _) rfl inC5 1 (Nat.le_of_ble_eq_true rfl) qw184 rfl d_SI_waysToDeal_48 ?_
      refine lv_iload hx hb d_SI_waysToDeal_51 (lv_at hl 5 rfl) ?_
      refine lv_aload_n hx hb d_SI_waysToDeal_53 rfl (lv_at hl 0 rfl) ?_
      refine lv_iload hx hb d_SI_waysToDeal_54 (lv_at hl 5 rfl) ?_
      refine lv_iload_n hx hb d_SI_waysToDeal_56 rfl (lv_at hl 3 rfl) ?_
      obtain ⟨z1, hz1, h⟩ := bnd_some h
      refine g_goi hG (g_runV (As := [.int x5, .int x3]) (rest := [.int x5, .ref (gad w 47)]) C hG (c_SI_waysWithOneMore l w S x5 x3 hz1 _) (hG.lt (Nat.le_of_ble_eq_true rfl)) (ce45 w _) rfl vw_SI_56 rfl rfl ⟨by decide, by decide⟩ rfl hl.1 rfl (Nat.le_of_ble_eq_true rfl) d_SI_waysToDeal_57 ⟨Nat.zero_le _, Nat.zero_le _⟩) (fun H locs hG => ?_)
      obtain ⟨hi2, h⟩ := chk_some h
      refine g_iast (j := ix x5) (x := z1) C hG (hG.lt (Nat.le_of_ble_eq_true rfl)) (ce47 w) (inb_in hi2) rfl d_SI_waysToDeal_60 (fun H locs hG => ?_)
      refine lv_iinc (v := x5 + (-1)) (lv' := [(5, .int (x5 + (-1))), (0, .ref (gad w 45)), (1, .int x1), (2, .int x2), (3, .int x3), (4, .int x4)]) hx hb d_SI_waysToDeal_61 hl (k := 5) rfl (congrArg (HAdd.hAdd x5) (by decide : Int32.ofInt (-1) = (-1))) (by decide) rfl (fun ls hl => ?_)
      refine lv_goto (tgt := 42) hx hb d_SI_waysToDeal_64 (by decide) ?_
      exact ih _ _ _ (lp_back h hr) k1 ls _ _ hG (lv_sub hl [1, 2, 3, 4, 5, 0] rfl)
set_option maxHeartbeats 4000000 in
set_option maxRecDepth 100000 in
theorem L_SI_waysToDeal_33 (C : gCx p s m args meth c y_SI_waysToDeal.cls b_SI_waysToDeal 6 (some .int)) : ∀ (x1 : Int32) (x2 : Int32) (x3 : Int32) (n : Nat) (x4 : Int32) (S : St) (r : (Int32 × St) × Nat), lp (σ := Int32 × St) (fun q => SI_waysToDeal_L33 q.2 x1 x2 x3 q.1) n (x4, S) = some r → (∀ (y4 : Int32) (Sy : St), r = ((y4, Sy), 1) → ∀ (ls : Array Slot) (H : Heap) (locs : List Loc), GH w s A Sy H locs → lv_has ls 6 [(0, .ref (gad w 45)), (1, .int x1)] → W p l e (rmm 1 25) s m args below meth c H locs 0 0 Q (F0 m 73 ls [])) → ∀ (ls : Array Slot) (H : Heap) (locs : List Loc), GH w s A S H locs → lv_has ls 6 [(0, .ref (gad w 45)), (1, .int x1), (2, .int x2), (3, .int x3), (4, .int x4)] → W p l e (rmm 1 25) s m args below meth c H locs 0 0 Q (F0 m 33 ls []) := by
  have hx := C.1
  have hb := C.2.1
  intro x1 x2 x3 n
  induction n with
  | zero => intro x4 S r h; cases h
  | succ n ih =>
    intro x4 S r h k1 ls H locs hG hl
    obtain ⟨z, h, hr⟩ := lp_succ h
    have h : SI_waysToDeal_L33 S x1 x2 x3 x4 = some z := h
    have J67 : ∀ (S : St) (x4 : Int32), SI_waysToDeal_J67 S x1 x2 x3 x4 = some z → ∀ (ls : Array Slot) (H : Heap) (locs : List Loc), GH w s A S H locs → lv_has ls 6 [(0, .ref (gad w 45)), (1, .int x1), (2, .int x2), (3, .int x3), (4, .int x4)] → W p l e (rmm 1 25) s m args below meth c H locs 0 0 Q (F0 m 67 ls []) := by
      intro S x4 h ls H locs hG hl
      unfold SI_waysToDeal_J67 at h
      refine lv_iinc (v := x4 + 1) (lv' := [(4, .int (x4 + 1)), (0, .ref (gad w 45)), (1, .int x1), (2, .int x2), (3, .int x3)]) hx hb d_SI_waysToDeal_67 hl (k := 4) rfl (congrArg (HAdd.hAdd x4) (by decide : Int32.ofInt 1 = 1)) (by decide) rfl (fun ls hl => ?_)
      refine lv_goto (tgt := 33) hx hb d_SI_waysToDeal_70 (by decide) ?_
      exact ih _ _ _ (lp_back h hr) k1 ls _ _ hG (lv_sub hl [1, 2, 3, 4, 0] rfl)
    unfold SI_waysToDeal_L33 at h
    refine lv_iload hx hb d_SI_waysToDeal_33 (lv_at hl 4 rfl) ?_
    refine lv_iload_n hx hb d_SI_waysToDeal_35 rfl (lv_at hl 2 rfl) ?_
    refine lv_icmp_ge (tgt := 73) hx hb d_SI_waysToDeal_36 (by decide) (fun hc => ?_) (fun hc => ?_)
    · replace h := it_t h hc
      exact k1 _ _ (lp_exit h hr) ls _ _ hG (lv_sub hl [0, 1] rfl)
    · replace h := it_f h hc
      refine lv_iload_n hx hb d_SI_waysToDeal_39 rfl (lv_at hl 1 rfl) ?_
      refine lv_istore (lv' := [(5, .int x1), (0, .ref (gad w 45)), (1, .int x1), (2, .int x2), (3, .int x3), (4, .int x4)]) hx hb d_SI_waysToDeal_40 hl (by decide) rfl (fun ls hl => ?_)
      obtain ⟨z2, hz2, h⟩ := bnd_some h
      refine L_SI_waysToDeal_42 C _ _ _ _ FZ _ _ _ hz2 ?_ ls _ _ hG (lv_sub hl [1, 2, 3, 4, 5, 0] rfl)
      intro y5 Sy e9 ls H locs hG hl
      subst e9
      exact J67 _ _ h ls _ _ hG (lv_sub hl [0, 1, 2, 3, 4] rfl)
set_option maxHeartbeats 4000000 in
set_option maxRecDepth 100000 in
theorem c_SI_waysToDeal (l : Launch) (w : gw) (S : St) (x1 : Int32) (x2 : Int32) (x3 : Int32)  {z : Int32 × St} (h : (SI_waysToDeal S x1 x2 x3) = some z) : gMi l w y_SI_waysToDeal b_SI_waysToDeal 6 (some .int) (rmm 1 25) [.ref (gad w 45), .int x1, .int x2, .int x3] S z.1 z.2 := by
  unfold SI_waysToDeal at h
  refine g_met (Qc := gQi w z.1 z.2) (by decide +kernel) (Nat.le_of_ble_eq_true rfl) ?_
  intro p e s m args below meth c A Q ls hQ C hG hl
  have hx := C.1
  have hb := C.2.1
  have hl : lv_has ls 6 [(0, .ref (gad w 45)), (1, .int x1), (2, .int x2), (3, .int x3)] := hl
  have J73 : ∀ (S : St), SI_waysToDeal_J73 S x1 = some z → ∀ (ls : Array Slot) (H : Heap) (locs : List Loc), GH w s A S H locs → lv_has ls 6 [(0, .ref (gad w 45)), (1, .int x1)] → W p l e (rmm 1 25) s m args below meth c H locs 0 0 Q (F0 m 73 ls []) := by
    intro S h ls H locs hG hl
    unfold SI_waysToDeal_J73 at h
    refine lv_aload_n hx hb d_SI_waysToDeal_73 rfl (lv_at hl 0 rfl) ?_
    refine g_get C hG (hG.lt (Nat.le_of_ble_eq_true rfl)) (ce45 w _) rfl inC5 1 (Nat.le_of_ble_eq_true rfl) qw184 rfl d_SI_waysToDeal_74 ?_
    refine lv_iload_n hx hb d_SI_waysToDeal_77 rfl (lv_at hl 1 rfl) ?_
    obtain ⟨hi3, h⟩ := chk_some h
    refine g_iald (j := ix x1) C hG (hG.lt (Nat.le_of_ble_eq_true rfl)) (ce47 w _) (inb_in hi3) rfl d_SI_waysToDeal_78 ?_
    exact g_iret C hG (sm_fst h) (sm_snd h) hQ d_SI_waysToDeal_79
  have J30 : ∀ (S : St), SI_waysToDeal_J30 S x1 x2 x3 = some z → ∀ (ls : Array Slot) (H : Heap) (locs : List Loc), GH w s A S H locs → lv_has ls 6 [(0, .ref (gad w 45)), (1, .int x1), (2, .int x2), (3, .int x3)] → W p l e (rmm 1 25) s m args below meth c H locs 0 0 Q (F0 m 30 ls []) := by
    intro S h ls H locs hG hl
    unfold SI_waysToDeal_J30 at h
    refine lv_iconst (v := 0) hx hb d_SI_waysToDeal_30 (by decide) ?_
    refine lv_istore (lv' := [(4, .int 0), (0, .ref (gad w 45)), (1, .int x1), (2, .int x2), (3, .int x3)]) hx hb d_SI_waysToDeal_31 hl (by decide) rfl (fun ls hl => ?_)
    obtain ⟨z3, hz3, h⟩ := bnd_some h
    refine L_SI_waysToDeal_33 C _ _ _ FZ _ _ _ hz3 ?_ ls _ _ hG (lv_sub hl [1, 2, 3, 4, 0] rfl)
    intro y4 Sy e9 ls H locs hG hl
    subst e9
    exact J73 _ h ls _ _ hG (lv_sub hl [0, 1] rfl)
  refine lv_aload_n hx hb d_SI_waysToDeal_0 rfl (lv_at hl 0 rfl) ?_
  refine g_get C hG (hG.lt (Nat.le_of_ble_eq_true rfl)) (ce45 w _) rfl inC5 1 (Nat.le_of_ble_eq_true rfl) qw184 rfl d_SI_waysToDeal_1 ?_
  refine lv_iconst (v := 0) hx hb d_SI_waysToDeal_4 (by decide) ?_
  refine lv_iconst (v := 1) hx hb d_SI_waysToDeal_5 (by decide) ?_
  refine g_iast (j := 0) (x := 1) C hG (hG.lt (Nat.le_of_ble_eq_true rfl)) (ce47 w) (inb_in (by decide)) rfl d_SI_waysToDeal_6 (fun H locs hG => ?_)
  refine lv_iconst (v := 1) hx hb d_SI_waysToDeal_7 (by decide) ?_
  refine lv_istore (lv' := [(4, .int 1), (0, .ref (gad w 45)), (1, .int x1), (2, .int x2), (3, .int x3)]) hx hb d_SI_waysToDeal_8 hl (by decide) rfl (fun ls hl => ?_)
  obtain ⟨z4, hz4, h⟩ := bnd_some h
  refine L_SI_waysToDeal_10 C _ _ _ FZ _ _ _ hz4 ?_ ls _ _ hG (lv_sub hl [1, 2, 3, 4, 0] rfl)
  intro y4 Sy e9 ls H locs hG hl
  subst e9
  exact J30 _ h ls _ _ hG (lv_sub hl [0, 1, 2, 3] rfl)
noncomputable def OC_judge_b_J44 (S : St) (x3 : Int32) (x4 : Int32) (t1 : Int32) (t2 : Int32) : Option ((Int32 × St) × Nat) :=
  chk (inb t1 20) <|
    chk (isz t2) <|
    chk (inb x4 20) <|
    if ((up S 34 (ix t1) t2) 34 (ix x4)) = 0 then
      if ((up S 34 (ix t1) t2) 33 6) = (-1) then
        some ((x4 + 1, up (up S 34 (ix t1) t2) 33 6 x4), 0)
      else
        some ((x4 + 1, up S 34 (ix t1) t2), 0)
    else
      bnd (BT_eveningOf (up S 34 (ix t1) t2) x4) fun z1 =>
      bnd (BT_bidderOf (up S 34 (ix t1) t2) x4) fun z2 =>
      bnd (BT_amountOf (up S 34 (ix t1) t2) x4) fun z3 =>
      bnd (OC_lead_b (up S 34 (ix t1) t2) z1 z2 z3) fun z4 =>
      some ((x4 + 1, z4), 0)
noncomputable def OC_judge_b_J43 (S : St) (x3 : Int32) (x4 : Int32) (t1 : Int32) : Option ((Int32 × St) × Nat) :=
  OC_judge_b_J44 S x3 x4 t1 0
noncomputable def OC_judge_b_L7 (S : St) (x3 : Int32) (x4 : Int32) : Option ((Int32 × St) × Nat) :=
  if (S 25 3) ≤ x4 then
      some ((x4, S), 1)
    else
      if x4 = x3 then
        OC_judge_b_J43 S x3 x4 x4
      else
        bnd (OC_holdsNow_b S x4) fun z5 =>
        if z5 = 0 then
          OC_judge_b_J43 S x3 x4 x4
        else
          OC_judge_b_J44 S x3 x4 x4 1
noncomputable def OC_judge_b_J100 (S : St) : Option (St) :=
  some S
noncomputable def OC_judge_b (S : St) (x3 : Int32) : Option (St) :=
  bnd (OC_clear_b S) fun z6 =>
    bnd (lp (σ := Int32 × St) (fun q => OC_judge_b_L7 q.2 x3 q.1) FZ (0, z6)) fun z7 =>
    OC_judge_b_J100 z7.1.2
set_option maxHeartbeats 4000000 in
set_option maxRecDepth 100000 in
theorem L_OC_judge_b_7 (C : gCx p s m args meth c y_OC_judge.cls b_OC_judge 5 none) : ∀ (x3 : Int32) (n : Nat) (x4 : Int32) (S : St) (r : (Int32 × St) × Nat), lp (σ := Int32 × St) (fun q => OC_judge_b_L7 q.2 x3 q.1) n (x4, S) = some r → (∀ (y4 : Int32) (Sy : St), r = ((y4, Sy), 1) → ∀ (ls : Array Slot) (H : Heap) (locs : List Loc), GH w s A Sy H locs → lv_has ls 5 [] → W p l e (rmm 2 47) s m args below meth c H locs 0 0 Q (F0 m 100 ls [])) → ∀ (ls : Array Slot) (H : Heap) (locs : List Loc), GH w s A S H locs → lv_has ls 5 [(0, .ref (gad w 33)), (1, .ref (gad w 1)), (2, .ref (gad w 25)), (3, .int x3), (4, .int x4)] → W p l e (rmm 2 47) s m args below meth c H locs 0 0 Q (F0 m 7 ls []) := by
  have hx := C.1
  have hb := C.2.1
  intro x3 n
  induction n with
  | zero => intro x4 S r h; cases h
  | succ n ih =>
    intro x4 S r h k1 ls H locs hG hl
    obtain ⟨z, h, hr⟩ := lp_succ h
    have h : OC_judge_b_L7 S x3 x4 = some z := h
    have J44 : ∀ (S : St) (x4 : Int32) (t1 : Int32) (t2 : Int32), OC_judge_b_J44 S x3 x4 t1 t2 = some z → ∀ (ls : Array Slot) (H : Heap) (locs : List Loc), GH w s A S H locs → lv_has ls 5 [(0, .ref (gad w 33)), (1, .ref (gad w 1)), (2, .ref (gad w 25)), (3, .int x3), (4, .int x4)] → W p l e (rmm 2 47) s m args below meth c H locs 0 0 Q (F0 m 44 ls [.int t2, .int t1, .ref (gad w 34)]) := by
      intro S x4 t1 t2 h ls H locs hG hl
      unfold OC_judge_b_J44 at h
      obtain ⟨hi1, h⟩ := chk_some h
      obtain ⟨hi2, h⟩ := chk_some h
      refine g_zast (j := ix t1) (x := t2) C hG (hG.lt (Nat.le_of_ble_eq_true rfl)) (ce34 w) (inb_in hi1) rfl (isz_in hi2) d_OC_judge_44 (fun H locs hG => ?_)
      refine lv_aload_n hx hb d_OC_judge_45 rfl (lv_at hl 0 rfl) ?_
      refine g_get C hG (hG.lt (Nat.le_of_ble_eq_true rfl)) (ce33 w _) rfl inC3 0 (Nat.le_of_ble_eq_true rfl) qw99 rfl d_OC_judge_46 ?_
      refine lv_iload hx hb d_OC_judge_49 (lv_at hl 4 rfl) ?_
      obtain ⟨hi3, h⟩ := chk_some h
      refine g_zald (j := ix x4) C hG (hG.lt (Nat.le_of_ble_eq_true rfl)) (ce34 w _) (inb_in hi3) rfl d_OC_judge_51 ?_
      refine lv_if_eq (tgt := 80) hx hb d_OC_judge_52 (by decide) (fun hc => ?_) (fun hc => ?_)
      · replace h := it_t h hc
        refine lv_aload_n hx hb d_OC_judge_80 rfl (lv_at hl 0 rfl) ?_
        refine g_get C hG (hG.lt (Nat.le_of_ble_eq_true rfl)) (ce33 w _) rfl inC3 6 (Nat.le_of_ble_eq_true rfl) qw109 rfl d_OC_judge_81 ?_
        refine lv_iconst (v := (-1)) hx hb d_OC_judge_84 (by decide) ?_
        refine lv_icmp_ne (tgt := 94) hx hb d_OC_judge_85 (by decide) (fun hc => ?_) (fun hc => ?_)
        · replace h := it_f h hc
          refine lv_iinc (v := x4 + 1) (lv' := [(4, .int (x4 + 1)), (0, .ref (gad w 33)), (1, .ref (gad w 1)), (2, .ref (gad w 25)), (3, .int x3)]) hx hb d_OC_judge_94 hl (k := 4) rfl (congrArg (HAdd.hAdd x4) (by decide : Int32.ofInt 1 = 1)) (by decide) rfl (fun ls hl => ?_)
          refine lv_goto (tgt := 7) hx hb d_OC_judge_97 (by decide) ?_
          exact ih _ _ _ (lp_back h hr) k1 ls _ _ hG (lv_sub hl [1, 2, 3, 4, 0] rfl)
        · replace h := it_t h hc
          refine lv_aload_n hx hb d_OC_judge_88 rfl (lv_at hl 0 rfl) ?_
          refine lv_iload hx hb d_OC_judge_89 (lv_at hl 4 rfl) ?_
          refine g_put (x := x4) C hG (hG.lt (Nat.le_of_ble_eq_true rfl)) (ce33 w _) rfl inC3 okC3 nmC3 6 (Nat.le_of_ble_eq_true rfl) qw109 rfl rfl rfl (Nat.le_of_ble_eq_true rfl) rfl d_OC_judge_91 (fun H locs hG => ?_)
          refine lv_iinc (v := x4 + 1) (lv' := [(4, .int (x4 + 1)), (0, .ref (gad w 33)), (1, .ref (gad w 1)), (2, .ref (gad w 25)), (3, .int x3)]) hx hb d_OC_judge_94 hl (k := 4) rfl (congrArg (HAdd.hAdd x4) (by decide : Int32.ofInt 1 = 1)) (by decide) rfl (fun ls hl => ?_)
          refine lv_goto (tgt := 7) hx hb d_OC_judge_97 (by decide) ?_
          exact ih _ _ _ (lp_back h hr) k1 ls _ _ hG (lv_sub hl [1, 2, 3, 4, 0] rfl)
      · replace h := it_f h hc
        refine lv_aload_n hx hb d_OC_judge_55 rfl (lv_at hl 0 rfl) ?_
        refine lv_aload_n hx hb d_OC_judge_56 rfl (lv_at hl 2 rfl) ?_
        refine lv_iload hx hb d_OC_judge_57 (lv_at hl 4 rfl) ?_
        obtain ⟨z1, hz1, h⟩ := bnd_some h
        refine g_goi hG (g_runV (As := [.int x4]) (rest := [.ref (gad w 33)]) C hG (c_BT_eveningOf l w (up S 34 (ix t1) t2) x4 hz1 _) (hG.lt (Nat.le_of_ble_eq_true rfl)) (ce25 w _) rfl vw_OC_50 rfl rfl ⟨by decide, by decide⟩ rfl hl.1 rfl (Nat.le_of_ble_eq_true rfl) d_OC_judge_59 ⟨Nat.zero_le _, Nat.zero_le _⟩) (fun H locs hG => ?_)
        refine lv_aload_n hx hb d_OC_judge_62 rfl (lv_at hl 2 rfl) ?_
        refine lv_iload hx hb d_OC_judge_63 (lv_at hl 4 rfl) ?_
        obtain ⟨z2, hz2, h⟩ := bnd_some h
        refine g_goi hG (g_runV (As := [.int x4]) (rest := [.int z1, .ref (gad w 33)]) C hG (c_BT_bidderOf l w (up S 34 (ix t1) t2) x4 hz2 _) (hG.lt (Nat.le_of_ble_eq_true rfl)) (ce25 w _) rfl vw_OC_54 rfl rfl ⟨by decide, by decide⟩ rfl hl.1 rfl (Nat.le_of_ble_eq_true rfl) d_OC_judge_65 ⟨Nat.zero_le _, Nat.zero_le _⟩) (fun H locs hG => ?_)
        refine lv_aload_n hx hb d_OC_judge_68 rfl (lv_at hl 2 rfl) ?_
        refine lv_iload hx hb d_OC_judge_69 (lv_at hl 4 rfl) ?_
        obtain ⟨z3, hz3, h⟩ := bnd_some h
        refine g_goi hG (g_runV (As := [.int x4]) (rest := [.int z2, .int z1, .ref (gad w 33)]) C hG (c_BT_amountOf l w (up S 34 (ix t1) t2) x4 hz3 _) (hG.lt (Nat.le_of_ble_eq_true rfl)) (ce25 w _) rfl vw_OC_57 rfl rfl ⟨by decide, by decide⟩ rfl hl.1 rfl (Nat.le_of_ble_eq_true rfl) d_OC_judge_71 ⟨Nat.zero_le _, Nat.zero_le _⟩) (fun H locs hG => ?_)
        obtain ⟨z4, hz4, h⟩ := bnd_some h
        refine g_gov hG (g_runV (As := [.int z1, .int z2, .int z3]) (rest := []) C hG (c_OC_lead_b l w (up S 34 (ix t1) t2) z1 z2 z3 hz4 _) (hG.lt (Nat.le_of_ble_eq_true rfl)) (ce33 w _) rfl vw_OC_60 rfl rfl ⟨by decide, by decide⟩ rfl hl.1 rfl (Nat.le_of_ble_eq_true rfl) d_OC_judge_74 ⟨Nat.zero_le _, Nat.zero_le _⟩) (fun H locs hG => ?_)
        refine lv_goto (tgt := 94) hx hb d_OC_judge_77 (by decide) ?_
        refine lv_iinc (v := x4 + 1) (lv' := [(4, .int (x4 + 1)), (0, .ref (gad w 33)), (1, .ref (gad w 1)), (2, .ref (gad w 25)), (3, .int x3)]) hx hb d_OC_judge_94 hl (k := 4) rfl (congrArg (HAdd.hAdd x4) (by decide : Int32.ofInt 1 = 1)) (by decide) rfl (fun ls hl => ?_)
        refine lv_goto (tgt := 7) hx hb d_OC_judge_97 (by decide) ?_
        exact ih _ _ _ (lp_back h hr) k1 ls _ _ hG (lv_sub hl [1, 2, 3, 4, 0] rfl)
    have J43 : ∀ (S : St) (x4 : Int32) (t1 : Int32), OC_judge_b_J43 S x3 x4 t1 = some z → ∀ (ls : Array Slot) (H : Heap) (locs : List Loc), GH w s A S H locs → lv_has ls 5 [(0, .ref (gad w 33)), (1, .ref (gad w 1)), (2, .ref (gad w 25)), (3, .int x3), (4, .int x4)] → W p l e (rmm 2 47) s m args below meth c H locs 0 0 Q (F0 m 43 ls [.int t1, .ref (gad w 34)]) := by
      intro S x4 t1 h ls H locs hG hl
      unfold OC_judge_b_J43 at h
      refine lv_iconst (v := 0) hx hb d_OC_judge_43 (by decide) ?_
      exact J44 _ _ _ _ h ls _ _ hG (lv_sub hl [0, 1, 2, 3, 4] rfl)
    unfold OC_judge_b_L7 at h
    refine lv_iload hx hb d_OC_judge_7 (lv_at hl 4 rfl) ?_
    refine lv_aload_n hx hb d_OC_judge_9 rfl (lv_at hl 2 rfl) ?_
    refine g_get C hG (hG.lt (Nat.le_of_ble_eq_true rfl)) (ce25 w _) rfl inC0 3 (Nat.le_of_ble_eq_true rfl) qw82 rfl d_OC_judge_10 ?_
    refine lv_icmp_ge (tgt := 100) hx hb d_OC_judge_13 (by decide) (fun hc => ?_) (fun hc => ?_)
    · replace h := it_t h hc
      exact k1 _ _ (lp_exit h hr) ls _ _ hG (lv_sub hl [] rfl)
    · replace h := it_f h hc
      refine lv_aload_n hx hb d_OC_judge_16 rfl (lv_at hl 0 rfl) ?_
      refine g_get C hG (hG.lt (Nat.le_of_ble_eq_true rfl)) (ce33 w _) rfl inC3 0 (Nat.le_of_ble_eq_true rfl) qw99 rfl d_OC_judge_17 ?_
      refine lv_iload hx hb d_OC_judge_20 (lv_at hl 4 rfl) ?_
      refine lv_iload hx hb d_OC_judge_22 (lv_at hl 4 rfl) ?_
      refine lv_iload_n hx hb d_OC_judge_24 rfl (lv_at hl 3 rfl) ?_
      refine lv_icmp_eq (tgt := 43) hx hb d_OC_judge_25 (by decide) (fun hc => ?_) (fun hc => ?_)
      · replace h := it_t h hc
        exact J43 _ _ _ h ls _ _ hG (lv_sub hl [0, 1, 2, 3, 4] rfl)
      · replace h := it_f h hc
        refine lv_aload_n hx hb d_OC_judge_28 rfl (lv_at hl 0 rfl) ?_
        refine lv_aload_n hx hb d_OC_judge_29 rfl (lv_at hl 1 rfl) ?_
        refine lv_aload_n hx hb d_OC_judge_30 rfl (lv_at hl 2 rfl) ?_
        refine lv_iload hx hb d_OC_judge_31 (lv_at hl 4 rfl) ?_
        obtain ⟨z5, hz5, h⟩ := bnd_some h
        refine g_goi hG (g_runV (As := [.ref (gad w 1), .ref (gad w 25), .int x4]) (rest := [.int x4, .ref (gad w 34)]) C hG (c_OC_holdsNow_b l w S x4 hz5 _) (hG.lt (Nat.le_of_ble_eq_true rfl)) (ce33 w _) rfl vw_OC_46 rfl rfl ⟨by decide, by decide⟩ rfl hl.1 rfl (Nat.le_of_ble_eq_true rfl) d_OC_judge_33 ⟨Nat.zero_le _, Nat.zero_le _⟩) (fun H locs hG => ?_)
        refine lv_if_eq (tgt := 43) hx hb d_OC_judge_36 (by decide) (fun hc => ?_) (fun hc => ?_)
        · replace h := it_t h hc
          exact J43 _ _ _ h ls _ _ hG (lv_sub hl [0, 1, 2, 3, 4] rfl)
        · replace h := it_f h hc
          refine lv_iconst (v := 1) hx hb d_OC_judge_39 (by decide) ?_
          refine lv_goto (tgt := 44) hx hb d_OC_judge_40 (by decide) ?_
          exact J44 _ _ _ _ h ls _ _ hG (lv_sub hl [0, 1, 2, 3, 4] rfl)
set_option maxHeartbeats 4000000 in
set_option maxRecDepth 100000 in
theorem c_OC_judge_b (l : Launch) (w : gw) (S : St) (x3 : Int32)  {z : St} (h : (OC_judge_b S x3) = some z) : gMv l w y_OC_judge b_OC_judge 5 none (rmm 2 47) [.ref (gad w 33), .ref (gad w 1), .ref (gad w 25), .int x3] S z := by
  unfold OC_judge_b at h
  refine g_met (Qc := gQv w z) (by decide +kernel) (Nat.le_of_ble_eq_true rfl) ?_
  intro p e s m args below meth c A Q ls hQ C hG hl
  have hx := C.1
  have hb := C.2.1
  have hl : lv_has ls 5 [(0, .ref (gad w 33)), (1, .ref (gad w 1)), (2, .ref (gad w 25)), (3, .int x3)] := hl
  have J100 : ∀ (S : St), OC_judge_b_J100 S = some z → ∀ (ls : Array Slot) (H : Heap) (locs : List Loc), GH w s A S H locs → lv_has ls 5 [] → W p l e (rmm 2 47) s m args below meth c H locs 0 0 Q (F0 m 100 ls []) := by
    intro S h ls H locs hG hl
    unfold OC_judge_b_J100 at h
    exact g_vret C hG (Option.some.inj h) hQ d_OC_judge_100
  refine lv_aload_n hx hb d_OC_judge_0 rfl (lv_at hl 0 rfl) ?_
  obtain ⟨z6, hz6, h⟩ := bnd_some h
  refine g_gov hG (g_runV (As := []) (rest := []) C hG (c_OC_clear_b l w S hz6 _) (hG.lt (Nat.le_of_ble_eq_true rfl)) (ce33 w _) rfl vw_OC_38 rfl rfl ⟨by decide, by decide⟩ rfl hl.1 rfl (Nat.le_of_ble_eq_true rfl) d_OC_judge_1 ⟨Nat.zero_le _, Nat.zero_le _⟩) (fun H locs hG => ?_)
  refine lv_iconst (v := 0) hx hb d_OC_judge_4 (by decide) ?_
  refine lv_istore (lv' := [(4, .int 0), (0, .ref (gad w 33)), (1, .ref (gad w 1)), (2, .ref (gad w 25)), (3, .int x3)]) hx hb d_OC_judge_5 hl (by decide) rfl (fun ls hl => ?_)
  obtain ⟨z7, hz7, h⟩ := bnd_some h
  refine L_OC_judge_b_7 C _ FZ _ _ _ hz7 ?_ ls _ _ hG (lv_sub hl [1, 2, 3, 4, 0] rfl)
  intro y4 Sy e9 ls H locs hG hl
  subst e9
  exact J100 _ h ls _ _ hG (lv_sub hl [] rfl)
theorem d_X_worth_0 : decode b_X_worth 0 = .ok (.iload_n 1, 1) := by decide +kernel
theorem d_X_worth_1 : decode b_X_worth 1 = .ok (.invokestatic 91, 3) := by decide +kernel
theorem d_X_worth_4 : decode b_X_worth 4 = .ok (.ifCond .eq 19, 3) := by decide +kernel
theorem d_X_worth_7 : decode b_X_worth 7 = .ok (.iload_n 2, 1) := by decide +kernel
theorem d_X_worth_8 : decode b_X_worth 8 = .ok (.invokestatic 109, 3) := by decide +kernel
theorem d_X_worth_11 : decode b_X_worth 11 = .ok (.ifCond .eq 12, 3) := by decide +kernel
theorem d_X_worth_14 : decode b_X_worth 14 = .ok (.iload_n 3, 1) := by decide +kernel
theorem d_X_worth_15 : decode b_X_worth 15 = .ok (.iconst 0, 1) := by decide +kernel
theorem d_X_worth_16 : decode b_X_worth 16 = .ok (.iconst 1, 1) := by decide +kernel
theorem d_X_worth_17 : decode b_X_worth 17 = .ok (.invokestatic 67, 3) := by decide +kernel
theorem d_X_worth_20 : decode b_X_worth 20 = .ok (.ifCond .ne 7, 3) := by decide +kernel
theorem d_X_worth_23 : decode b_X_worth 23 = .ok (.ldc2_w 224, 3) := by decide +kernel
theorem d_X_worth_26 : decode b_X_worth 26 = .ok (.lreturn, 1) := by decide +kernel
theorem d_X_worth_27 : decode b_X_worth 27 = .ok (.aload_n 0, 1) := by decide +kernel
theorem d_X_worth_28 : decode b_X_worth 28 = .ok (.getfield 10, 3) := by decide +kernel
theorem d_X_worth_31 : decode b_X_worth 31 = .ok (.getfield 115, 3) := by decide +kernel
theorem d_X_worth_34 : decode b_X_worth 34 = .ok (.iload_n 1, 1) := by decide +kernel
theorem d_X_worth_35 : decode b_X_worth 35 = .ok (.aaload, 1) := by decide +kernel
theorem d_X_worth_36 : decode b_X_worth 36 = .ok (.iload_n 2, 1) := by decide +kernel
theorem d_X_worth_37 : decode b_X_worth 37 = .ok (.iaload, 1) := by decide +kernel
theorem d_X_worth_38 : decode b_X_worth 38 = .ok (.bipush 16, 2) := by decide +kernel
theorem d_X_worth_40 : decode b_X_worth 40 = .ok (.aload_n 0, 1) := by decide +kernel
theorem d_X_worth_41 : decode b_X_worth 41 = .ok (.getfield 10, 3) := by decide +kernel
theorem d_X_worth_44 : decode b_X_worth 44 = .ok (.getfield 125, 3) := by decide +kernel
theorem d_X_worth_47 : decode b_X_worth 47 = .ok (.iload_n 2, 1) := by decide +kernel
theorem d_X_worth_48 : decode b_X_worth 48 = .ok (.iaload, 1) := by decide +kernel
theorem d_X_worth_49 : decode b_X_worth 49 = .ok (.isub, 1) := by decide +kernel
theorem d_X_worth_50 : decode b_X_worth 50 = .ok (.imul, 1) := by decide +kernel
theorem d_X_worth_51 : decode b_X_worth 51 = .ok (.bipush 16, 2) := by decide +kernel
theorem d_X_worth_53 : decode b_X_worth 53 = .ok (.iload_n 3, 1) := by decide +kernel
theorem d_X_worth_54 : decode b_X_worth 54 = .ok (.invokestatic 229, 3) := by decide +kernel
theorem d_X_worth_57 : decode b_X_worth 57 = .ok (.lreturn, 1) := by decide +kernel
noncomputable def X_worth (S : St) (x1 : Int32) (x2 : Int32) (x3 : Int32) : Option (Int64) :=
  if (X_isBidder x1) = 0 then
      some (-9223372036854775806)
    else
      if (X_isEvening x2) = 0 then
        some (-9223372036854775806)
      else
        if (X_within x3 0 1) = 0 then
          some (-9223372036854775806)
        else
          chk (inb x1 5) <|
          chk (inb x2 10) <|
          chk (inb x2 10) <|
          bnd (X_fraction ((S (5 + (ix x1)) (ix x2)) * (16 - (S 23 (ix x2)))) 16 x3) fun z1 =>
          some z1
set_option maxHeartbeats 4000000 in
set_option maxRecDepth 100000 in
theorem c_X_worth (l : Launch) (w : gw) (S : St) (x1 : Int32) (x2 : Int32) (x3 : Int32)  {z : Int64} (h : (X_worth S x1 x2 x3) = some z) : gMl l w y_X_worth b_X_worth 4 (some .long) (rmm 3 69) [.ref (gad w 0), .int x1, .int x2, .int x3] S z S := by
  unfold X_worth at h
  refine g_met (Qc := gQl w z S) (by decide +kernel) (Nat.le_of_ble_eq_true rfl) ?_
  intro p e s m args below meth c A Q ls hQ C hG hl
  have hx := C.1
  have hb := C.2.1
  have hl : lv_has ls 4 [(0, .ref (gad w 0)), (1, .int x1), (2, .int x2), (3, .int x3)] := hl
  refine lv_iload_n hx hb d_X_worth_0 rfl (lv_at hl 1 rfl) ?_
  refine g_goi hG (g_runS (As := [.int x1]) (rest := []) C hG (c_X_isBidder l w S x1 _) sw_X_91 rfl rfl ⟨by decide, by decide⟩ rfl hl.1 rfl (Nat.le_of_ble_eq_true rfl) d_X_worth_1 ⟨Nat.zero_le _, Nat.zero_le _⟩) (fun H locs hG => ?_)
  refine lv_if_eq (tgt := 23) hx hb d_X_worth_4 (by decide) (fun hc => ?_) (fun hc => ?_)
  · replace h := it_t h hc
    refine lv_ldc2 (v := (-9223372036854775806)) hx hb C.2.2.2.1 (C.2.2.2.2.1 _ qw488) d_X_worth_23 ?_
    exact g_lret C hG (Option.some.inj h) rfl hQ d_X_worth_26
  · replace h := it_f h hc
    refine lv_iload_n hx hb d_X_worth_7 rfl (lv_at hl 2 rfl) ?_
    refine g_goi hG (g_runS (As := [.int x2]) (rest := []) C hG (c_X_isEvening l w S x2 _) sw_X_109 rfl rfl ⟨by decide, by decide⟩ rfl hl.1 rfl (Nat.le_of_ble_eq_true rfl) d_X_worth_8 ⟨Nat.zero_le _, Nat.zero_le _⟩) (fun H locs hG => ?_)
    refine lv_if_eq (tgt := 23) hx hb d_X_worth_11 (by decide) (fun hc => ?_) (fun hc => ?_)
    · replace h := it_t h hc
      refine lv_ldc2 (v := (-9223372036854775806)) hx hb C.2.2.2.1 (C.2.2.2.2.1 _ qw488) d_X_worth_23 ?_
      exact g_lret C hG (Option.some.inj h) rfl hQ d_X_worth_26
    · replace h := it_f h hc
      refine lv_iload_n hx hb d_X_worth_14 rfl (lv_at hl 3 rfl) ?_
      refine lv_iconst (v := 0) hx hb d_X_worth_15 (by decide) ?_
      refine lv_iconst (v := 1) hx hb d_X_worth_16 (by decide) ?_
      refine g_goi hG (g_runS (As := [.int x3, .int 0, .int 1]) (rest := []) C hG (c_X_within l w S x3 0 1 _) sw_X_67 rfl rfl ⟨by decide, by decide⟩ rfl hl.1 rfl (Nat.le_of_ble_eq_true rfl) d_X_worth_17 ⟨Nat.zero_le _, Nat.zero_le _⟩) (fun H locs hG => ?_)
      refine lv_if_ne (tgt := 27) hx hb d_X_worth_20 (by decide) (fun hc => ?_) (fun hc => ?_)
      · replace h := it_f h hc
        refine lv_aload_n hx hb d_X_worth_27 rfl (lv_at hl 0 rfl) ?_
        refine g_get C hG (hG.lt (Nat.le_of_ble_eq_true rfl)) (ce0 w _) rfl inC7 0 (Nat.le_of_ble_eq_true rfl) qw199 rfl d_X_worth_28 ?_
        refine g_get C hG (hG.lt (Nat.le_of_ble_eq_true rfl)) (ce1 w _) rfl inC6 2 (Nat.le_of_ble_eq_true rfl) qw37 rfl d_X_worth_31 ?_
        refine lv_iload_n hx hb d_X_worth_34 rfl (lv_at hl 1 rfl) ?_
        obtain ⟨hi1, h⟩ := chk_some h
        refine g_ald2 (j := ix x1) C hG (hG.lt (Nat.le_of_ble_eq_true rfl)) (ce4 w _) (inb_in hi1) rfl d_X_worth_35 ?_
        have hr2 : ix x1 < 5 := row_lt (inb_in hi1)
        refine lv_iload_n hx hb d_X_worth_36 rfl (lv_at hl 2 rfl) ?_
        obtain ⟨hi3, h⟩ := chk_some h
        refine g_iald (j := ix x2) C hG (hG.lt (by omega)) (cr4 w _ hr2) (inb_in hi3) rfl d_X_worth_37 ?_
        refine lv_bipush (v := 16) hx hb d_X_worth_38 (by decide) ?_
        refine lv_aload_n hx hb d_X_worth_40 rfl (lv_at hl 0 rfl) ?_
        refine g_get C hG (hG.lt (Nat.le_of_ble_eq_true rfl)) (ce0 w _) rfl inC7 0 (Nat.le_of_ble_eq_true rfl) qw199 rfl d_X_worth_41 ?_
        refine g_get C hG (hG.lt (Nat.le_of_ble_eq_true rfl)) (ce1 w _) rfl inC6 6 (Nat.le_of_ble_eq_true rfl) qw47 rfl d_X_worth_44 ?_
        refine lv_iload_n hx hb d_X_worth_47 rfl (lv_at hl 2 rfl) ?_
        obtain ⟨hi4, h⟩ := chk_some h
        refine g_iald (j := ix x2) C hG (hG.lt (Nat.le_of_ble_eq_true rfl)) (ce23 w _) (inb_in hi4) rfl d_X_worth_48 ?_
        refine lv_isub hx hb d_X_worth_49 ?_
        refine lv_imul hx hb d_X_worth_50 ?_
        refine lv_bipush (v := 16) hx hb d_X_worth_51 (by decide) ?_
        refine lv_iload_n hx hb d_X_worth_53 rfl (lv_at hl 3 rfl) ?_
        obtain ⟨z1, hz1, h⟩ := bnd_some h
        refine g_gol hG (g_runS (As := [.int ((S (5 + (ix x1)) (ix x2)) * (16 - (S 23 (ix x2)))), .int 16, .int x3]) (rest := []) C hG (c_X_fraction l w S ((S (5 + (ix x1)) (ix x2)) * (16 - (S 23 (ix x2)))) 16 x3 hz1 _) sw_X_229 rfl rfl ⟨by decide, by decide⟩ rfl hl.1 rfl (Nat.le_of_ble_eq_true rfl) d_X_worth_54 ⟨Nat.zero_le _, Nat.zero_le _⟩) (fun H locs hG => ?_)
        exact g_lret C hG (Option.some.inj h) rfl hQ d_X_worth_57
      · replace h := it_t h hc
        refine lv_ldc2 (v := (-9223372036854775806)) hx hb C.2.2.2.1 (C.2.2.2.2.1 _ qw488) d_X_worth_23 ?_
        exact g_lret C hG (Option.some.inj h) rfl hQ d_X_worth_26
theorem d_X_judgedOutcome_0 : decode b_X_judgedOutcome 0 = .ok (.aload_n 0, 1) := by decide +kernel
theorem d_X_judgedOutcome_1 : decode b_X_judgedOutcome 1 = .ok (.getfield 26, 3) := by decide +kernel
theorem d_X_judgedOutcome_4 : decode b_X_judgedOutcome 4 = .ok (.getfield 365, 3) := by decide +kernel
theorem d_X_judgedOutcome_7 : decode b_X_judgedOutcome 7 = .ok (.aload_n 0, 1) := by decide +kernel
theorem d_X_judgedOutcome_8 : decode b_X_judgedOutcome 8 = .ok (.getfield 64, 3) := by decide +kernel
theorem d_X_judgedOutcome_11 : decode b_X_judgedOutcome 11 = .ok (.if_icmp .eq 37, 3) := by decide +kernel
theorem d_X_judgedOutcome_14 : decode b_X_judgedOutcome 14 = .ok (.aload_n 0, 1) := by decide +kernel
theorem d_X_judgedOutcome_15 : decode b_X_judgedOutcome 15 = .ok (.getfield 19, 3) := by decide +kernel
theorem d_X_judgedOutcome_18 : decode b_X_judgedOutcome 18 = .ok (.invokevirtual 366, 3) := by decide +kernel
theorem d_X_judgedOutcome_21 : decode b_X_judgedOutcome 21 = .ok (.aload_n 0, 1) := by decide +kernel
theorem d_X_judgedOutcome_22 : decode b_X_judgedOutcome 22 = .ok (.getfield 26, 3) := by decide +kernel
theorem d_X_judgedOutcome_25 : decode b_X_judgedOutcome 25 = .ok (.aload_n 0, 1) := by decide +kernel
theorem d_X_judgedOutcome_26 : decode b_X_judgedOutcome 26 = .ok (.getfield 10, 3) := by decide +kernel
theorem d_X_judgedOutcome_29 : decode b_X_judgedOutcome 29 = .ok (.aload_n 0, 1) := by decide +kernel
theorem d_X_judgedOutcome_30 : decode b_X_judgedOutcome 30 = .ok (.getfield 19, 3) := by decide +kernel
theorem d_X_judgedOutcome_33 : decode b_X_judgedOutcome 33 = .ok (.iconst (-1), 1) := by decide +kernel
theorem d_X_judgedOutcome_34 : decode b_X_judgedOutcome 34 = .ok (.invokevirtual 189, 3) := by decide +kernel
theorem d_X_judgedOutcome_37 : decode b_X_judgedOutcome 37 = .ok (.aload_n 0, 1) := by decide +kernel
theorem d_X_judgedOutcome_38 : decode b_X_judgedOutcome 38 = .ok (.getfield 26, 3) := by decide +kernel
theorem d_X_judgedOutcome_41 : decode b_X_judgedOutcome 41 = .ok (.aload_n 0, 1) := by decide +kernel
theorem d_X_judgedOutcome_42 : decode b_X_judgedOutcome 42 = .ok (.getfield 64, 3) := by decide +kernel
theorem d_X_judgedOutcome_45 : decode b_X_judgedOutcome 45 = .ok (.putfield 365, 3) := by decide +kernel
theorem d_X_judgedOutcome_48 : decode b_X_judgedOutcome 48 = .ok (.aload_n 0, 1) := by decide +kernel
theorem d_X_judgedOutcome_49 : decode b_X_judgedOutcome 49 = .ok (.getfield 26, 3) := by decide +kernel
theorem d_X_judgedOutcome_52 : decode b_X_judgedOutcome 52 = .ok (.areturn, 1) := by decide +kernel
noncomputable def X_judgedOutcome (S : St) : Option (St) :=
  if (S 27 7) = (S 0 9) then
      some S
    else
      bnd (BT_parse S) fun z1 =>
      bnd (OC_judge z1 (-1)) fun z2 =>
      some (up z2 27 7 (z2 0 9))
set_option maxHeartbeats 4000000 in
set_option maxRecDepth 100000 in
theorem c_X_judgedOutcome (l : Launch) (w : gw) (S : St)   {z : St} (h : (X_judgedOutcome S) = some z) : gMr l w y_X_judgedOutcome b_X_judgedOutcome 1 (some (.object "EveningAuction$Outcome")) (rmm 3 71) [.ref (gad w 0)] S 27 z := by
  unfold X_judgedOutcome at h
  refine g_met (Qc := gQr w 27 z) (by decide +kernel) (Nat.le_of_ble_eq_true rfl) ?_
  intro p e s m args below meth c A Q ls hQ C hG hl
  have hx := C.1
  have hb := C.2.1
  have hl : lv_has ls 1 [(0, .ref (gad w 0))] := hl
  refine lv_aload_n hx hb d_X_judgedOutcome_0 rfl (lv_at hl 0 rfl) ?_
  refine g_get C hG (hG.lt (Nat.le_of_ble_eq_true rfl)) (ce0 w _) rfl inC7 2 (Nat.le_of_ble_eq_true rfl) qw201 rfl d_X_judgedOutcome_1 ?_
  refine g_get C hG (hG.lt (Nat.le_of_ble_eq_true rfl)) (ce27 w _) rfl inC3 7 (Nat.le_of_ble_eq_true rfl) qw112 rfl d_X_judgedOutcome_4 ?_
  refine lv_aload_n hx hb d_X_judgedOutcome_7 rfl (lv_at hl 0 rfl) ?_
  refine g_get C hG (hG.lt (Nat.le_of_ble_eq_true rfl)) (ce0 w _) rfl inC7 9 (Nat.le_of_ble_eq_true rfl) qw208 rfl d_X_judgedOutcome_8 ?_
  refine lv_icmp_eq (tgt := 48) hx hb d_X_judgedOutcome_11 (by decide) (fun hc => ?_) (fun hc => ?_)
  · replace h := it_t h hc
    refine lv_aload_n hx hb d_X_judgedOutcome_48 rfl (lv_at hl 0 rfl) ?_
    refine g_get C hG (hG.lt (Nat.le_of_ble_eq_true rfl)) (ce0 w _) rfl inC7 2 (Nat.le_of_ble_eq_true rfl) qw201 rfl d_X_judgedOutcome_49 ?_
    exact g_aret C hG (Option.some.inj h) hQ d_X_judgedOutcome_52
  · replace h := it_f h hc
    refine lv_aload_n hx hb d_X_judgedOutcome_14 rfl (lv_at hl 0 rfl) ?_
    refine g_get C hG (hG.lt (Nat.le_of_ble_eq_true rfl)) (ce0 w _) rfl inC7 1 (Nat.le_of_ble_eq_true rfl) qw200 rfl d_X_judgedOutcome_15 ?_
    obtain ⟨z1, hz1, h⟩ := bnd_some h
    refine g_gov hG (g_runV (As := []) (rest := []) C hG (c_BT_parse l w S hz1 _) (hG.lt (Nat.le_of_ble_eq_true rfl)) (ce25 w _) rfl vw_X_366 rfl rfl ⟨by decide, by decide⟩ rfl hl.1 rfl (Nat.le_of_ble_eq_true rfl) d_X_judgedOutcome_18 ⟨Nat.zero_le _, Nat.zero_le _⟩) (fun H locs hG => ?_)
    refine lv_aload_n hx hb d_X_judgedOutcome_21 rfl (lv_at hl 0 rfl) ?_
    refine g_get C hG (hG.lt (Nat.le_of_ble_eq_true rfl)) (ce0 w _) rfl inC7 2 (Nat.le_of_ble_eq_true rfl) qw201 rfl d_X_judgedOutcome_22 ?_
    refine lv_aload_n hx hb d_X_judgedOutcome_25 rfl (lv_at hl 0 rfl) ?_
    refine g_get C hG (hG.lt (Nat.le_of_ble_eq_true rfl)) (ce0 w _) rfl inC7 0 (Nat.le_of_ble_eq_true rfl) qw199 rfl d_X_judgedOutcome_26 ?_
    refine lv_aload_n hx hb d_X_judgedOutcome_29 rfl (lv_at hl 0 rfl) ?_
    refine g_get C hG (hG.lt (Nat.le_of_ble_eq_true rfl)) (ce0 w _) rfl inC7 1 (Nat.le_of_ble_eq_true rfl) qw200 rfl d_X_judgedOutcome_30 ?_
    refine lv_iconst (v := (-1)) hx hb d_X_judgedOutcome_33 (by decide) ?_
    obtain ⟨z2, hz2, h⟩ := bnd_some h
    refine g_gov hG (g_runV (As := [.ref (gad w 1), .ref (gad w 25), .int (-1)]) (rest := []) C hG (c_OC_judge l w z1 (-1) hz2 _) (hG.lt (Nat.le_of_ble_eq_true rfl)) (ce27 w _) rfl vw_X_189 rfl rfl ⟨by decide, by decide⟩ rfl hl.1 rfl (Nat.le_of_ble_eq_true rfl) d_X_judgedOutcome_34 ⟨Nat.zero_le _, Nat.zero_le _⟩) (fun H locs hG => ?_)
    refine lv_aload_n hx hb d_X_judgedOutcome_37 rfl (lv_at hl 0 rfl) ?_
    refine g_get C hG (hG.lt (Nat.le_of_ble_eq_true rfl)) (ce0 w _) rfl inC7 2 (Nat.le_of_ble_eq_true rfl) qw201 rfl d_X_judgedOutcome_38 ?_
    refine lv_aload_n hx hb d_X_judgedOutcome_41 rfl (lv_at hl 0 rfl) ?_
    refine g_get C hG (hG.lt (Nat.le_of_ble_eq_true rfl)) (ce0 w _) rfl inC7 9 (Nat.le_of_ble_eq_true rfl) qw208 rfl d_X_judgedOutcome_42 ?_
    refine g_put (x := z2 0 9) C hG (hG.lt (Nat.le_of_ble_eq_true rfl)) (ce27 w _) rfl inC3 okC3 nmC3 7 (Nat.le_of_ble_eq_true rfl) qw112 rfl rfl rfl (Nat.le_of_ble_eq_true rfl) rfl d_X_judgedOutcome_45 (fun H locs hG => ?_)
    refine lv_aload_n hx hb d_X_judgedOutcome_48 rfl (lv_at hl 0 rfl) ?_
    refine g_get C hG (hG.lt (Nat.le_of_ble_eq_true rfl)) (ce0 w _) rfl inC7 2 (Nat.le_of_ble_eq_true rfl) qw201 rfl d_X_judgedOutcome_49 ?_
    exact g_aret C hG (Option.some.inj h) hQ d_X_judgedOutcome_52
theorem d_X_valuedClubs_0 : decode b_X_valuedClubs 0 = .ok (.aload_n 0, 1) := by decide +kernel
theorem d_X_valuedClubs_1 : decode b_X_valuedClubs 1 = .ok (.getfield 43, 3) := by decide +kernel
theorem d_X_valuedClubs_4 : decode b_X_valuedClubs 4 = .ok (.getfield 374, 3) := by decide +kernel
theorem d_X_valuedClubs_7 : decode b_X_valuedClubs 7 = .ok (.aload_n 0, 1) := by decide +kernel
theorem d_X_valuedClubs_8 : decode b_X_valuedClubs 8 = .ok (.getfield 64, 3) := by decide +kernel
theorem d_X_valuedClubs_11 : decode b_X_valuedClubs 11 = .ok (.if_icmp .eq 25, 3) := by decide +kernel
theorem d_X_valuedClubs_14 : decode b_X_valuedClubs 14 = .ok (.aload_n 0, 1) := by decide +kernel
theorem d_X_valuedClubs_15 : decode b_X_valuedClubs 15 = .ok (.getfield 43, 3) := by decide +kernel
theorem d_X_valuedClubs_18 : decode b_X_valuedClubs 18 = .ok (.aload_n 0, 1) := by decide +kernel
theorem d_X_valuedClubs_19 : decode b_X_valuedClubs 19 = .ok (.getfield 10, 3) := by decide +kernel
theorem d_X_valuedClubs_22 : decode b_X_valuedClubs 22 = .ok (.invokevirtual 375, 3) := by decide +kernel
theorem d_X_valuedClubs_25 : decode b_X_valuedClubs 25 = .ok (.aload_n 0, 1) := by decide +kernel
theorem d_X_valuedClubs_26 : decode b_X_valuedClubs 26 = .ok (.getfield 43, 3) := by decide +kernel
theorem d_X_valuedClubs_29 : decode b_X_valuedClubs 29 = .ok (.aload_n 0, 1) := by decide +kernel
theorem d_X_valuedClubs_30 : decode b_X_valuedClubs 30 = .ok (.getfield 64, 3) := by decide +kernel
theorem d_X_valuedClubs_33 : decode b_X_valuedClubs 33 = .ok (.putfield 374, 3) := by decide +kernel
theorem d_X_valuedClubs_36 : decode b_X_valuedClubs 36 = .ok (.aload_n 0, 1) := by decide +kernel
theorem d_X_valuedClubs_37 : decode b_X_valuedClubs 37 = .ok (.getfield 43, 3) := by decide +kernel
theorem d_X_valuedClubs_40 : decode b_X_valuedClubs 40 = .ok (.areturn, 1) := by decide +kernel
noncomputable def X_valuedClubs (S : St) : Option (St) :=
  if (S 43 1) = (S 0 9) then
      some S
    else
      bnd (CL_valueAll S) fun z1 =>
      some (up z1 43 1 (z1 0 9))
set_option maxHeartbeats 4000000 in
set_option maxRecDepth 100000 in
theorem c_X_valuedClubs (l : Launch) (w : gw) (S : St)   {z : St} (h : (X_valuedClubs S) = some z) : gMr l w y_X_valuedClubs b_X_valuedClubs 1 (some (.object "EveningAuction$Clubs")) (rmm 3 69) [.ref (gad w 0)] S 43 z := by
  unfold X_valuedClubs at h
  refine g_met (Qc := gQr w 43 z) (by decide +kernel) (Nat.le_of_ble_eq_true rfl) ?_
  intro p e s m args below meth c A Q ls hQ C hG hl
  have hx := C.1
  have hb := C.2.1
  have hl : lv_has ls 1 [(0, .ref (gad w 0))] := hl
  refine lv_aload_n hx hb d_X_valuedClubs_0 rfl (lv_at hl 0 rfl) ?_
  refine g_get C hG (hG.lt (Nat.le_of_ble_eq_true rfl)) (ce0 w _) rfl inC7 5 (Nat.le_of_ble_eq_true rfl) qw204 rfl d_X_valuedClubs_1 ?_
  refine g_get C hG (hG.lt (Nat.le_of_ble_eq_true rfl)) (ce43 w _) rfl inC1 1 (Nat.le_of_ble_eq_true rfl) qw166 rfl d_X_valuedClubs_4 ?_
  refine lv_aload_n hx hb d_X_valuedClubs_7 rfl (lv_at hl 0 rfl) ?_
  refine g_get C hG (hG.lt (Nat.le_of_ble_eq_true rfl)) (ce0 w _) rfl inC7 9 (Nat.le_of_ble_eq_true rfl) qw208 rfl d_X_valuedClubs_8 ?_
  refine lv_icmp_eq (tgt := 36) hx hb d_X_valuedClubs_11 (by decide) (fun hc => ?_) (fun hc => ?_)
  · replace h := it_t h hc
    refine lv_aload_n hx hb d_X_valuedClubs_36 rfl (lv_at hl 0 rfl) ?_
    refine g_get C hG (hG.lt (Nat.le_of_ble_eq_true rfl)) (ce0 w _) rfl inC7 5 (Nat.le_of_ble_eq_true rfl) qw204 rfl d_X_valuedClubs_37 ?_
    exact g_aret C hG (Option.some.inj h) hQ d_X_valuedClubs_40
  · replace h := it_f h hc
    refine lv_aload_n hx hb d_X_valuedClubs_14 rfl (lv_at hl 0 rfl) ?_
    refine g_get C hG (hG.lt (Nat.le_of_ble_eq_true rfl)) (ce0 w _) rfl inC7 5 (Nat.le_of_ble_eq_true rfl) qw204 rfl d_X_valuedClubs_15 ?_
    refine lv_aload_n hx hb d_X_valuedClubs_18 rfl (lv_at hl 0 rfl) ?_
    refine g_get C hG (hG.lt (Nat.le_of_ble_eq_true rfl)) (ce0 w _) rfl inC7 0 (Nat.le_of_ble_eq_true rfl) qw199 rfl d_X_valuedClubs_19 ?_
    obtain ⟨z1, hz1, h⟩ := bnd_some h
    refine g_gov hG (g_runV (As := [.ref (gad w 1)]) (rest := []) C hG (c_CL_valueAll l w S hz1 _) (hG.lt (Nat.le_of_ble_eq_true rfl)) (ce43 w _) rfl vw_X_375 rfl rfl ⟨by decide, by decide⟩ rfl hl.1 rfl (Nat.le_of_ble_eq_true rfl) d_X_valuedClubs_22 ⟨Nat.zero_le _, Nat.zero_le _⟩) (fun H locs hG => ?_)
    refine lv_aload_n hx hb d_X_valuedClubs_25 rfl (lv_at hl 0 rfl) ?_
    refine g_get C hG (hG.lt (Nat.le_of_ble_eq_true rfl)) (ce0 w _) rfl inC7 5 (Nat.le_of_ble_eq_true rfl) qw204 rfl d_X_valuedClubs_26 ?_
    refine lv_aload_n hx hb d_X_valuedClubs_29 rfl (lv_at hl 0 rfl) ?_
    refine g_get C hG (hG.lt (Nat.le_of_ble_eq_true rfl)) (ce0 w _) rfl inC7 9 (Nat.le_of_ble_eq_true rfl) qw208 rfl d_X_valuedClubs_30 ?_
    refine g_put (x := z1 0 9) C hG (hG.lt (Nat.le_of_ble_eq_true rfl)) (ce43 w _) rfl inC1 okC1 nmC1 1 (Nat.le_of_ble_eq_true rfl) qw166 rfl rfl rfl (Nat.le_of_ble_eq_true rfl) rfl d_X_valuedClubs_33 (fun H locs hG => ?_)
    refine lv_aload_n hx hb d_X_valuedClubs_36 rfl (lv_at hl 0 rfl) ?_
    refine g_get C hG (hG.lt (Nat.le_of_ble_eq_true rfl)) (ce0 w _) rfl inC7 5 (Nat.le_of_ble_eq_true rfl) qw204 rfl d_X_valuedClubs_37 ?_
    exact g_aret C hG (Option.some.inj h) hQ d_X_valuedClubs_40
theorem d_OE_solve_0 : decode b_OE_solve 0 = .ok (.aload_n 0, 1) := by decide +kernel
theorem d_OE_solve_1 : decode b_OE_solve 1 = .ok (.aload_n 0, 1) := by decide +kernel
theorem d_OE_solve_2 : decode b_OE_solve 2 = .ok (.aload_n 1, 1) := by decide +kernel
theorem d_OE_solve_3 : decode b_OE_solve 3 = .ok (.iconst 0, 1) := by decide +kernel
theorem d_OE_solve_4 : decode b_OE_solve 4 = .ok (.iconst 0, 1) := by decide +kernel
theorem d_OE_solve_5 : decode b_OE_solve 5 = .ok (.invokevirtual 28, 3) := by decide +kernel
theorem d_OE_solve_8 : decode b_OE_solve 8 = .ok (.putfield 21, 3) := by decide +kernel
theorem d_OE_solve_11 : decode b_OE_solve 11 = .ok (.iconst 0, 1) := by decide +kernel
theorem d_OE_solve_12 : decode b_OE_solve 12 = .ok (.istore_n 2, 1) := by decide +kernel
theorem d_OE_solve_13 : decode b_OE_solve 13 = .ok (.iload_n 2, 1) := by decide +kernel
theorem d_OE_solve_14 : decode b_OE_solve 14 = .ok (.iconst 5, 1) := by decide +kernel
theorem d_OE_solve_15 : decode b_OE_solve 15 = .ok (.if_icmp .ge 35, 3) := by decide +kernel
theorem d_OE_solve_18 : decode b_OE_solve 18 = .ok (.iconst 1, 1) := by decide +kernel
theorem d_OE_solve_19 : decode b_OE_solve 19 = .ok (.iconst 4, 1) := by decide +kernel
theorem d_OE_solve_20 : decode b_OE_solve 20 = .ok (.iload_n 2, 1) := by decide +kernel
theorem d_OE_solve_21 : decode b_OE_solve 21 = .ok (.isub, 1) := by decide +kernel
theorem d_OE_solve_22 : decode b_OE_solve 22 = .ok (.ishl, 1) := by decide +kernel
theorem d_OE_solve_23 : decode b_OE_solve 23 = .ok (.istore_n 3, 1) := by decide +kernel
theorem d_OE_solve_24 : decode b_OE_solve 24 = .ok (.aload_n 0, 1) := by decide +kernel
theorem d_OE_solve_25 : decode b_OE_solve 25 = .ok (.getfield 18, 3) := by decide +kernel
theorem d_OE_solve_28 : decode b_OE_solve 28 = .ok (.iload_n 2, 1) := by decide +kernel
theorem d_OE_solve_29 : decode b_OE_solve 29 = .ok (.aload_n 0, 1) := by decide +kernel
theorem d_OE_solve_30 : decode b_OE_solve 30 = .ok (.getfield 9, 3) := by decide +kernel
theorem d_OE_solve_33 : decode b_OE_solve 33 = .ok (.aload_n 0, 1) := by decide +kernel
theorem d_OE_solve_34 : decode b_OE_solve 34 = .ok (.getfield 9, 3) := by decide +kernel
theorem d_OE_solve_37 : decode b_OE_solve 37 = .ok (.arraylength, 1) := by decide +kernel
theorem d_OE_solve_38 : decode b_OE_solve 38 = .ok (.iconst 1, 1) := by decide +kernel
theorem d_OE_solve_39 : decode b_OE_solve 39 = .ok (.isub, 1) := by decide +kernel
theorem d_OE_solve_40 : decode b_OE_solve 40 = .ok (.iload_n 3, 1) := by decide +kernel
theorem d_OE_solve_41 : decode b_OE_solve 41 = .ok (.isub, 1) := by decide +kernel
theorem d_OE_solve_42 : decode b_OE_solve 42 = .ok (.iaload, 1) := by decide +kernel
theorem d_OE_solve_43 : decode b_OE_solve 43 = .ok (.iastore, 1) := by decide +kernel
theorem d_OE_solve_44 : decode b_OE_solve 44 = .ok (.iinc 2 1, 3) := by decide +kernel
theorem d_OE_solve_47 : decode b_OE_solve 47 = .ok (.goto (-34), 3) := by decide +kernel
theorem d_OE_solve_50 : decode b_OE_solve 50 = .ok (.aload_n 0, 1) := by decide +kernel
theorem d_OE_solve_51 : decode b_OE_solve 51 = .ok (.getfield 21, 3) := by decide +kernel
theorem d_OE_solve_54 : decode b_OE_solve 54 = .ok (.istore_n 2, 1) := by decide +kernel
theorem d_OE_solve_55 : decode b_OE_solve 55 = .ok (.iconst 0, 1) := by decide +kernel
theorem d_OE_solve_56 : decode b_OE_solve 56 = .ok (.istore_n 3, 1) := by decide +kernel
theorem d_OE_solve_57 : decode b_OE_solve 57 = .ok (.iconst 0, 1) := by decide +kernel
theorem d_OE_solve_58 : decode b_OE_solve 58 = .ok (.istore 4, 2) := by decide +kernel
theorem d_OE_solve_60 : decode b_OE_solve 60 = .ok (.iload 4, 2) := by decide +kernel
theorem d_OE_solve_62 : decode b_OE_solve 62 = .ok (.iconst 5, 1) := by decide +kernel
theorem d_OE_solve_63 : decode b_OE_solve 63 = .ok (.if_icmp .ge 57, 3) := by decide +kernel
theorem d_OE_solve_66 : decode b_OE_solve 66 = .ok (.aload_n 0, 1) := by decide +kernel
theorem d_OE_solve_67 : decode b_OE_solve 67 = .ok (.aload_n 1, 1) := by decide +kernel
theorem d_OE_solve_68 : decode b_OE_solve 68 = .ok (.iload 4, 2) := by decide +kernel
theorem d_OE_solve_70 : decode b_OE_solve 70 = .ok (.iload_n 3, 1) := by decide +kernel
theorem d_OE_solve_71 : decode b_OE_solve 71 = .ok (.iload_n 2, 1) := by decide +kernel
theorem d_OE_solve_72 : decode b_OE_solve 72 = .ok (.invokevirtual 32, 3) := by decide +kernel
theorem d_OE_solve_75 : decode b_OE_solve 75 = .ok (.istore 5, 2) := by decide +kernel
theorem d_OE_solve_77 : decode b_OE_solve 77 = .ok (.aload_n 0, 1) := by decide +kernel
theorem d_OE_solve_78 : decode b_OE_solve 78 = .ok (.getfield 15, 3) := by decide +kernel
theorem d_OE_solve_81 : decode b_OE_solve 81 = .ok (.iload 4, 2) := by decide +kernel
theorem d_OE_solve_83 : decode b_OE_solve 83 = .ok (.iload 5, 2) := by decide +kernel
theorem d_OE_solve_85 : decode b_OE_solve 85 = .ok (.iastore, 1) := by decide +kernel
theorem d_OE_solve_86 : decode b_OE_solve 86 = .ok (.iload_n 2, 1) := by decide +kernel
theorem d_OE_solve_87 : decode b_OE_solve 87 = .ok (.aload_n 1, 1) := by decide +kernel
theorem d_OE_solve_88 : decode b_OE_solve 88 = .ok (.iload 4, 2) := by decide +kernel
theorem d_OE_solve_90 : decode b_OE_solve 90 = .ok (.iload 5, 2) := by decide +kernel
theorem d_OE_solve_92 : decode b_OE_solve 92 = .ok (.invokevirtual 36, 3) := by decide +kernel
theorem d_OE_solve_95 : decode b_OE_solve 95 = .ok (.isub, 1) := by decide +kernel
theorem d_OE_solve_96 : decode b_OE_solve 96 = .ok (.istore_n 2, 1) := by decide +kernel
theorem d_OE_solve_97 : decode b_OE_solve 97 = .ok (.iload_n 3, 1) := by decide +kernel
theorem d_OE_solve_98 : decode b_OE_solve 98 = .ok (.iload 5, 2) := by decide +kernel
theorem d_OE_solve_100 : decode b_OE_solve 100 = .ok (.iconst (-1), 1) := by decide +kernel
theorem d_OE_solve_101 : decode b_OE_solve 101 = .ok (.if_icmp .ne 7, 3) := by decide +kernel
theorem d_OE_solve_104 : decode b_OE_solve 104 = .ok (.iconst 0, 1) := by decide +kernel
theorem d_OE_solve_105 : decode b_OE_solve 105 = .ok (.goto 7, 3) := by decide +kernel
theorem d_OE_solve_108 : decode b_OE_solve 108 = .ok (.iconst 1, 1) := by decide +kernel
theorem d_OE_solve_109 : decode b_OE_solve 109 = .ok (.iload 5, 2) := by decide +kernel
theorem d_OE_solve_111 : decode b_OE_solve 111 = .ok (.ishl, 1) := by decide +kernel
theorem d_OE_solve_112 : decode b_OE_solve 112 = .ok (.ior, 1) := by decide +kernel
theorem d_OE_solve_113 : decode b_OE_solve 113 = .ok (.istore_n 3, 1) := by decide +kernel
theorem d_OE_solve_114 : decode b_OE_solve 114 = .ok (.iinc 4 1, 3) := by decide +kernel
theorem d_OE_solve_117 : decode b_OE_solve 117 = .ok (.goto (-57), 3) := by decide +kernel
theorem d_OE_solve_120 : decode b_OE_solve 120 = .ok (.return_, 1) := by decide +kernel
noncomputable def OE_solve_L13 (S : St) (x2 : Int32) : Option ((Int32 × St) × Nat) :=
  if 5 ≤ x2 then
      some ((x2, S), 1)
    else
      chk (inb ((32 - 1 : Int32) - ((1 : Int32) <<< ((4 - x2) &&& 31))) 32) <|
      chk (inb x2 5) <|
      some ((x2 + 1, up S 42 (ix x2) (S 40 (ix ((32 - 1 : Int32) - ((1 : Int32) <<< ((4 - x2) &&& 31)))))), 0)
noncomputable def OE_solve_L60 (S : St) (x2 : Int32) (x3 : Int32) (x4 : Int32) : Option ((Int32 × Int32 × Int32 × St) × Nat) :=
  if 5 ≤ x4 then
      some ((x2, x3, x4, S), 1)
    else
      bnd (OE_leastChoice S x4 x3 x2) fun z1 =>
      chk (inb x4 5) <|
      bnd (TW_valueTo (up z1.2 41 (ix x4) z1.1) x4 z1.1) fun z2 =>
      if z1.1 = (-1) then
        some ((x2 - z2, x3 ||| 0, x4 + 1, up z1.2 41 (ix x4) z1.1), 0)
      else
        some ((x2 - z2, x3 ||| ((1 : Int32) <<< (z1.1 &&& 31)), x4 + 1, up z1.2 41 (ix x4) z1.1), 0)
noncomputable def OE_solve_J120 (S : St) : Option (St) :=
  some S
noncomputable def OE_solve_J50 (S : St) : Option (St) :=
  bnd (lp (σ := Int32 × Int32 × Int32 × St) (fun q => OE_solve_L60 q.2.2.2 q.1 q.2.1 q.2.2.1) FZ (S 39 3, 0, 0, S)) fun z3 =>
    OE_solve_J120 z3.1.2.2.2
noncomputable def OE_solve (S : St) : Option (St) :=
  bnd (OE_mostFrom S 0 0) fun z4 =>
    bnd (lp (σ := Int32 × St) (fun q => OE_solve_L13 q.2 q.1) FZ (0, up z4.2 39 3 z4.1)) fun z5 =>
    OE_solve_J50 z5.1.2
set_option maxHeartbeats 4000000 in
set_option maxRecDepth 100000 in
theorem L_OE_solve_13 (C : gCx p s m args meth c y_OE_solve.cls b_OE_solve 6 none) : ∀ (n : Nat) (x2 : Int32) (S : St) (r : (Int32 × St) × Nat), lp (σ := Int32 × St) (fun q => OE_solve_L13 q.2 q.1) n (x2, S) = some r → (∀ (y2 : Int32) (Sy : St), r = ((y2, Sy), 1) → ∀ (ls : Array Slot) (H : Heap) (locs : List Loc), GH w s A Sy H locs → lv_has ls 6 [(0, .ref (gad w 39)), (1, .ref (gad w 1))] → W p l e (rmm 2 56) s m args below meth c H locs 0 0 Q (F0 m 50 ls [])) → ∀ (ls : Array Slot) (H : Heap) (locs : List Loc), GH w s A S H locs → lv_has ls 6 [(0, .ref (gad w 39)), (1, .ref (gad w 1)), (2, .int x2)] → W p l e (rmm 2 56) s m args below meth c H locs 0 0 Q (F0 m 13 ls []) := by
  have hx := C.1
  have hb := C.2.1
  intro n
  induction n with
  | zero => intro x2 S r h; cases h
  | succ n ih =>
    intro x2 S r h k1 ls H locs hG hl
    obtain ⟨z, h, hr⟩ := lp_succ h
    have h : OE_solve_L13 S x2 = some z := h
    unfold OE_solve_L13 at h
    refine lv_iload_n hx hb d_OE_solve_13 rfl (lv_at hl 2 rfl) ?_
    refine lv_iconst (v := 5) hx hb d_OE_solve_14 (by decide) ?_
    refine lv_icmp_ge (tgt := 50) hx hb d_OE_solve_15 (by decide) (fun hc => ?_) (fun hc => ?_)
    · replace h := it_t h hc
      exact k1 _ _ (lp_exit h hr) ls _ _ hG (lv_sub hl [0, 1] rfl)
    · replace h := it_f h hc
      refine lv_iconst (v := 1) hx hb d_OE_solve_18 (by decide) ?_
      refine lv_iconst (v := 4) hx hb d_OE_solve_19 (by decide) ?_
      refine lv_iload_n hx hb d_OE_solve_20 rfl (lv_at hl 2 rfl) ?_
      refine lv_isub hx hb d_OE_solve_21 ?_
      refine lv_ishl hx hb d_OE_solve_22 ?_
      refine lv_istore_n (lv' := [(3, .int ((1 : Int32) <<< ((4 - x2) &&& 31))), (0, .ref (gad w 39)), (1, .ref (gad w 1)), (2, .int x2)]) hx hb d_OE_solve_23 rfl hl (by decide) rfl (fun ls hl => ?_)
      refine lv_aload_n hx hb d_OE_solve_24 rfl (lv_at hl 1 rfl) ?_
      refine g_get C hG (hG.lt (Nat.le_of_ble_eq_true rfl)) (ce39 w _) rfl inC2 2 (Nat.le_of_ble_eq_true rfl) qw140 rfl d_OE_solve_25 ?_
      refine lv_iload_n hx hb d_OE_solve_28 rfl (lv_at hl 3 rfl) ?_
      refine lv_aload_n hx hb d_OE_solve_29 rfl (lv_at hl 1 rfl) ?_
      refine g_get C hG (hG.lt (Nat.le_of_ble_eq_true rfl)) (ce39 w _) rfl inC2 0 (Nat.le_of_ble_eq_true rfl) qw137 rfl d_OE_solve_30 ?_
      refine lv_aload_n hx hb d_OE_solve_33 rfl (lv_at hl 1 rfl) ?_
      refine g_get C hG (hG.lt (Nat.le_of_ble_eq_true rfl)) (ce39 w _) rfl inC2 0 (Nat.le_of_ble_eq_true rfl) qw137 rfl d_OE_solve_34 ?_
      refine g_alen (v := 32) C hG (hG.lt (Nat.le_of_ble_eq_true rfl)) (ce40 w _) rfl d_OE_solve_37 ?_
      refine lv_iconst (v := 1) hx hb d_OE_solve_38 (by decide) ?_
      refine lv_isub hx hb d_OE_solve_39 ?_
      refine lv_iload_n hx hb d_OE_solve_40 rfl (lv_at hl 0 rfl) ?_
      refine lv_isub hx hb d_OE_solve_41 ?_
      obtain ⟨hi1, h⟩ := chk_some h
      refine g_iald (j := ix ((32 - 1 : Int32) - ((1 : Int32) <<< ((4 - x2) &&& 31)))) C hG (hG.lt (Nat.le_of_ble_eq_true rfl)) (ce40 w _) (inb_in hi1) rfl d_OE_solve_42 ?_
      obtain ⟨hi2, h⟩ := chk_some h
      refine g_iast (j := ix x2) (x := S 40 (ix ((32 - 1 : Int32) - ((1 : Int32) <<< ((4 - x2) &&& 31))))) C hG (hG.lt (Nat.le_of_ble_eq_true rfl)) (ce42 w) (inb_in hi2) rfl d_OE_solve_43 (fun H locs hG => ?_)
      refine lv_iinc (v := x2 + 1) (lv' := [(2, .int (x2 + 1)), (3, .int ((1 : Int32) <<< ((4 - x2) &&& 31))), (0, .ref (gad w 39)), (1, .ref (gad w 1))]) hx hb d_OE_solve_44 hl (k := 3) rfl (congrArg (HAdd.hAdd x2) (by decide : Int32.ofInt 1 = 1)) (by decide) rfl (fun ls hl => ?_)
      refine lv_goto (tgt := 13) hx hb d_OE_solve_47 (by decide) ?_
      exact ih _ _ _ (lp_back h hr) k1 ls _ _ hG (lv_sub hl [2, 3, 0] rfl)
set_option maxHeartbeats 4000000 in
set_option maxRecDepth 100000 in
theorem L_OE_solve_60 (C : gCx p s m args meth c y_OE_solve.cls b_OE_solve 6 none) : ∀ (n : Nat) (x2 : Int32) (x3 : Int32) (x4 : Int32) (S : St) (r : (Int32 × Int32 × Int32 × St) × Nat), lp (σ := Int32 × Int32 × Int32 × St) (fun q => OE_solve_L60 q.2.2.2 q.1 q.2.1 q.2.2.1) n (x2, x3, x4, S) = some r → (∀ (y2 : Int32) (y3 : Int32) (y4 : Int32) (Sy : St), r = ((y2, y3, y4, Sy), 1) → ∀ (ls : Array Slot) (H : Heap) (locs : List Loc), GH w s A Sy H locs → lv_has ls 6 [] → W p l e (rmm 2 56) s m args below meth c H locs 0 0 Q (F0 m 120 ls [])) → ∀ (ls : Array Slot) (H : Heap) (locs : List Loc), GH w s A S H locs → lv_has ls 6 [(0, .ref (gad w 39)), (1, .ref (gad w 1)), (2, .int x2), (3, .int x3), (4, .int x4)] → W p l e (rmm 2 56) s m args below meth c H locs 0 0 Q (F0 m 60 ls []) := by
  have hx := C.1
  have hb := C.2.1
  intro n
  induction n with
  | zero => intro x2 x3 x4 S r h; cases h
  | succ n ih =>
    intro x2 x3 x4 S r h k1 ls H locs hG hl
    obtain ⟨z, h, hr⟩ := lp_succ h
    have h : OE_solve_L60 S x2 x3 x4 = some z := h
    unfold OE_solve_L60 at h
    refine lv_iload hx hb d_OE_solve_60 (lv_at hl 4 rfl) ?_
    refine lv_iconst (v := 5) hx hb d_OE_solve_62 (by decide) ?_
    refine lv_icmp_ge (tgt := 120) hx hb d_OE_solve_63 (by decide) (fun hc => ?_) (fun hc => ?_)
    · replace h := it_t h hc
      exact k1 _ _ _ _ (lp_exit h hr) ls _ _ hG (lv_sub hl [] rfl)
    · replace h := it_f h hc
      refine lv_aload_n hx hb d_OE_solve_66 rfl (lv_at hl 0 rfl) ?_
      refine lv_aload_n hx hb d_OE_solve_67 rfl (lv_at hl 1 rfl) ?_
      refine lv_iload hx hb d_OE_solve_68 (lv_at hl 4 rfl) ?_
      refine lv_iload_n hx hb d_OE_solve_70 rfl (lv_at hl 3 rfl) ?_
      refine lv_iload_n hx hb d_OE_solve_71 rfl (lv_at hl 2 rfl) ?_
      obtain ⟨z1, hz1, h⟩ := bnd_some h
      refine g_goi hG (g_runV (As := [.ref (gad w 1), .int x4, .int x3, .int x2]) (rest := []) C hG (c_OE_leastChoice l w S x4 x3 x2 hz1 _) (hG.lt (Nat.le_of_ble_eq_true rfl)) (ce39 w _) rfl vw_OE_32 rfl rfl ⟨by decide, by decide⟩ rfl hl.1 rfl (Nat.le_of_ble_eq_true rfl) d_OE_solve_72 ⟨Nat.zero_le _, Nat.zero_le _⟩) (fun H locs hG => ?_)
      refine lv_istore (lv' := [(5, .int z1.1), (0, .ref (gad w 39)), (1, .ref (gad w 1)), (2, .int x2), (3, .int x3), (4, .int x4)]) hx hb d_OE_solve_75 hl (by decide) rfl (fun ls hl => ?_)
      refine lv_aload_n hx hb d_OE_solve_77 rfl (lv_at hl 1 rfl) ?_
      refine g_get C hG (hG.lt (Nat.le_of_ble_eq_true rfl)) (ce39 w _) rfl inC2 1 (Nat.le_of_ble_eq_true rfl) qw138 rfl d_OE_solve_78 ?_
      refine lv_iload hx hb d_OE_solve_81 (lv_at hl 5 rfl) ?_
      refine lv_iload hx hb d_OE_solve_83 (lv_at hl 0 rfl) ?_
      obtain ⟨hi3, h⟩ := chk_some h
      refine g_iast (j := ix x4) (x := z1.1) C hG (hG.lt (Nat.le_of_ble_eq_true rfl)) (ce41 w) (inb_in hi3) rfl d_OE_solve_85 (fun H locs hG => ?_)
      refine lv_iload_n hx hb d_OE_solve_86 rfl (lv_at hl 3 rfl) ?_
      refine lv_aload_n hx hb d_OE_solve_87 rfl (lv_at hl 2 rfl) ?_
      refine lv_iload hx hb d_OE_solve_88 (lv_at hl 5 rfl) ?_
      refine lv_iload hx hb d_OE_solve_90 (lv_at hl 0 rfl) ?_
      obtain ⟨z2, hz2, h⟩ := bnd_some h
      refine g_goi hG (g_runV (As := [.int x4, .int z1.1]) (rest := [.int x2]) C hG (c_TW_valueTo l w (up z1.2 41 (ix x4) z1.1) x4 z1.1 hz2 _) (hG.lt (Nat.le_of_ble_eq_true rfl)) (ce1 w _) rfl vw_OE_36 rfl rfl ⟨by decide, by decide⟩ rfl hl.1 rfl (Nat.le_of_ble_eq_true rfl) d_OE_solve_92 ⟨Nat.zero_le _, Nat.zero_le _⟩) (fun H locs hG => ?_)
      refine lv_isub hx hb d_OE_solve_95 ?_
      refine lv_istore_n (lv' := [(2, .int (x2 - z2)), (5, .int z1.1), (0, .ref (gad w 39)), (1, .ref (gad w 1)), (3, .int x3), (4, .int x4)]) hx hb d_OE_solve_96 rfl hl (by decide) rfl (fun ls hl => ?_)
      refine lv_iload_n hx hb d_OE_solve_97 rfl (lv_at hl 4 rfl) ?_
      refine lv_iload hx hb d_OE_solve_98 (lv_at hl 1 rfl) ?_
      refine lv_iconst (v := (-1)) hx hb d_OE_solve_100 (by decide) ?_
      refine lv_icmp_ne (tgt := 108) hx hb d_OE_solve_101 (by decide) (fun hc => ?_) (fun hc => ?_)
      · replace h := it_f h hc
        refine lv_iconst (v := 1) hx hb d_OE_solve_108 (by decide) ?_
        refine lv_iload hx hb d_OE_solve_109 (lv_at hl 1 rfl) ?_
        refine lv_ishl hx hb d_OE_solve_111 ?_
        refine lv_ior hx hb d_OE_solve_112 ?_
        refine lv_istore_n (lv' := [(3, .int (x3 ||| ((1 : Int32) <<< (z1.1 &&& 31)))), (2, .int (x2 - z2)), (5, .int z1.1), (0, .ref (gad w 39)), (1, .ref (gad w 1)), (4, .int x4)]) hx hb d_OE_solve_113 rfl hl (by decide) rfl (fun ls hl => ?_)
        refine lv_iinc (v := x4 + 1) (lv' := [(4, .int (x4 + 1)), (3, .int (x3 ||| ((1 : Int32) <<< (z1.1 &&& 31)))), (2, .int (x2 - z2)), (5, .int z1.1), (0, .ref (gad w 39)), (1, .ref (gad w 1))]) hx hb d_OE_solve_114 hl (k := 5) rfl (congrArg (HAdd.hAdd x4) (by decide : Int32.ofInt 1 = 1)) (by decide) rfl (fun ls hl => ?_)
        refine lv_goto (tgt := 60) hx hb d_OE_solve_117 (by decide) ?_
        exact ih _ _ _ _ _ (lp_back h hr) k1 ls _ _ hG (lv_sub hl [4, 5, 2, 1, 0] rfl)
      · replace h := it_t h hc
        refine lv_iconst (v := 0) hx hb d_OE_solve_104 (by decide) ?_
        refine lv_goto (tgt := 112) hx hb d_OE_solve_105 (by decide) ?_
        refine lv_ior hx hb d_OE_solve_112 ?_
        refine lv_istore_n (lv' := [(3, .int (x3 ||| 0)), (2, .int (x2 - z2)), (5, .int z1.1), (0, .ref (gad w 39)), (1, .ref (gad w 1)), (4, .int x4)]) hx hb d_OE_solve_113 rfl hl (by decide) rfl (fun ls hl => ?_)
        refine lv_iinc (v := x4 + 1) (lv' := [(4, .int (x4 + 1)), (3, .int (x3 ||| 0)), (2, .int (x2 - z2)), (5, .int z1.1), (0, .ref (gad w 39)), (1, .ref (gad w 1))]) hx hb d_OE_solve_114 hl (k := 5) rfl (congrArg (HAdd.hAdd x4) (by decide : Int32.ofInt 1 = 1)) (by decide) rfl (fun ls hl => ?_)
        refine lv_goto (tgt := 60) hx hb d_OE_solve_117 (by decide) ?_
        exact ih _ _ _ _ _ (lp_back h hr) k1 ls _ _ hG (lv_sub hl [4, 5, 2, 1, 0] rfl)
set_option maxHeartbeats 4000000 in
set_option maxRecDepth 100000 in
theorem c_OE_solve (l : Launch) (w : gw) (S : St)   {z : St} (h : (OE_solve S) = some z) : gMv l w y_OE_solve b_OE_solve 6 none (rmm 2 56) [.ref (gad w 39), .ref (gad w 1)] S z := by
  unfold OE_solve at h
  refine g_met (Qc := gQv w z) (by decide +kernel) (Nat.le_of_ble_eq_true rfl) ?_
  intro p e s m args below meth c A Q ls hQ C hG hl
  have hx := C.1
  have hb := C.2.1
  have hl : lv_has ls 6 [(0, .ref (gad w 39)), (1, .ref (gad w 1))] := hl
  have J120 : ∀ (S : St), OE_solve_J120 S = some z → ∀ (ls : Array Slot) (H : Heap) (locs : List Loc), GH w s A S H locs → lv_has ls 6 [] → W p l e (rmm 2 56) s m args below meth c H locs 0 0 Q (F0 m 120 ls []) := by
    intro S h ls H locs hG hl
    unfold OE_solve_J120 at h
    exact g_vret C hG (Option.some.inj h) hQ d_OE_solve_120
  have J50 : ∀ (S : St), OE_solve_J50 S = some z → ∀ (ls : Array Slot) (H : Heap) (locs : List Loc), GH w s A S H locs → lv_has ls 6 [(0, .ref (gad w 39)), (1, .ref (gad w 1))] → W p l e (rmm 2 56) s m args below meth c H locs 0 0 Q (F0 m 50 ls []) := by
    intro S h ls H locs hG hl
    unfold OE_solve_J50 at h
    refine lv_aload_n hx hb d_OE_solve_50 rfl (lv_at hl 0 rfl) ?_
    refine g_get C hG (hG.lt (Nat.le_of_ble_eq_true rfl)) (ce39 w _) rfl inC2 3 (Nat.le_of_ble_eq_true rfl) qw142 rfl d_OE_solve_51 ?_
    refine lv_istore_n (lv' := [(2, .int (S 39 3)), (0, .ref (gad w 39)), (1, .ref (gad w 1))]) hx hb d_OE_solve_54 rfl hl (by decide) rfl (fun ls hl => ?_)
    refine lv_iconst (v := 0) hx hb d_OE_solve_55 (by decide) ?_
    refine lv_istore_n (lv' := [(3, .int 0), (2, .int (S 39 3)), (0, .ref (gad w 39)), (1, .ref (gad w 1))]) hx hb d_OE_solve_56 rfl hl (by decide) rfl (fun ls hl => ?_)
    refine lv_iconst (v := 0) hx hb d_OE_solve_57 (by decide) ?_
    refine lv_istore (lv' := [(4, .int 0), (3, .int 0), (2, .int (S 39 3)), (0, .ref (gad w 39)), (1, .ref (gad w 1))]) hx hb d_OE_solve_58 hl (by decide) rfl (fun ls hl => ?_)
    obtain ⟨z3, hz3, h⟩ := bnd_some h
    refine L_OE_solve_60 C FZ _ _ _ _ _ hz3 ?_ ls _ _ hG (lv_sub hl [3, 4, 2, 1, 0] rfl)
    intro y2 y3 y4 Sy e9 ls H locs hG hl
    subst e9
    exact J120 _ h ls _ _ hG (lv_sub hl [] rfl)
  refine lv_aload_n hx hb d_OE_solve_0 rfl (lv_at hl 0 rfl) ?_
  refine lv_aload_n hx hb d_OE_solve_1 rfl (lv_at hl 0 rfl) ?_
  refine lv_aload_n hx hb d_OE_solve_2 rfl (lv_at hl 1 rfl) ?_
  refine lv_iconst (v := 0) hx hb d_OE_solve_3 (by decide) ?_
  refine lv_iconst (v := 0) hx hb d_OE_solve_4 (by decide) ?_
  obtain ⟨z4, hz4, h⟩ := bnd_some h
  refine g_goi hG (g_runV (As := [.ref (gad w 1), .int 0, .int 0]) (rest := [.ref (gad w 39)]) C hG (c_OE_mostFrom l w S 0 0 hz4 _) (hG.lt (Nat.le_of_ble_eq_true rfl)) (ce39 w _) rfl vw_OE_28 rfl rfl ⟨by decide, by decide⟩ rfl hl.1 rfl (Nat.le_of_ble_eq_true rfl) d_OE_solve_5 ⟨Nat.zero_le _, Nat.zero_le _⟩) (fun H locs hG => ?_)
  refine g_put (x := z4.1) C hG (hG.lt (Nat.le_of_ble_eq_true rfl)) (ce39 w _) rfl inC2 okC2 nmC2 3 (Nat.le_of_ble_eq_true rfl) qw142 rfl rfl rfl (Nat.le_of_ble_eq_true rfl) rfl d_OE_solve_8 (fun H locs hG => ?_)
  refine lv_iconst (v := 0) hx hb d_OE_solve_11 (by decide) ?_
  refine lv_istore_n (lv' := [(2, .int 0), (0, .ref (gad w 39)), (1, .ref (gad w 1))]) hx hb d_OE_solve_12 rfl hl (by decide) rfl (fun ls hl => ?_)
  obtain ⟨z5, hz5, h⟩ := bnd_some h
  refine L_OE_solve_13 C FZ _ _ _ hz5 ?_ ls _ _ hG (lv_sub hl [1, 2, 0] rfl)
  intro y2 Sy e9 ls H locs hG hl
  subst e9
  exact J50 _ h ls _ _ hG (lv_sub hl [0, 1] rfl)
theorem d_SI_ways_0 : decode b_SI_ways 0 = .ok (.aload_n 0, 1) := by decide +kernel
theorem d_SI_ways_1 : decode b_SI_ways 1 = .ok (.getfield 18, 3) := by decide +kernel
theorem d_SI_ways_4 : decode b_SI_ways 4 = .ok (.ifCond .eq 5, 3) := by decide +kernel
theorem d_SI_ways_7 : decode b_SI_ways 7 = .ok (.iconst 0, 1) := by decide +kernel
theorem d_SI_ways_8 : decode b_SI_ways 8 = .ok (.ireturn, 1) := by decide +kernel
theorem d_SI_ways_9 : decode b_SI_ways 9 = .ok (.iconst 1, 1) := by decide +kernel
theorem d_SI_ways_10 : decode b_SI_ways 10 = .ok (.istore_n 2, 1) := by decide +kernel
theorem d_SI_ways_11 : decode b_SI_ways 11 = .ok (.iconst 0, 1) := by decide +kernel
theorem d_SI_ways_12 : decode b_SI_ways 12 = .ok (.istore_n 3, 1) := by decide +kernel
theorem d_SI_ways_13 : decode b_SI_ways 13 = .ok (.iload_n 3, 1) := by decide +kernel
theorem d_SI_ways_14 : decode b_SI_ways 14 = .ok (.iconst 5, 1) := by decide +kernel
theorem d_SI_ways_15 : decode b_SI_ways 15 = .ok (.if_icmp .ge 39, 3) := by decide +kernel
theorem d_SI_ways_18 : decode b_SI_ways 18 = .ok (.aload_n 1, 1) := by decide +kernel
theorem d_SI_ways_19 : decode b_SI_ways 19 = .ok (.iload_n 3, 1) := by decide +kernel
theorem d_SI_ways_20 : decode b_SI_ways 20 = .ok (.invokevirtual 29, 3) := by decide +kernel
theorem d_SI_ways_23 : decode b_SI_ways 23 = .ok (.invokestatic 35, 3) := by decide +kernel
theorem d_SI_ways_26 : decode b_SI_ways 26 = .ok (.istore 4, 2) := by decide +kernel
theorem d_SI_ways_28 : decode b_SI_ways 28 = .ok (.iload_n 2, 1) := by decide +kernel
theorem d_SI_ways_29 : decode b_SI_ways 29 = .ok (.aload_n 0, 1) := by decide +kernel
theorem d_SI_ways_30 : decode b_SI_ways 30 = .ok (.aload_n 0, 1) := by decide +kernel
theorem d_SI_ways_31 : decode b_SI_ways 31 = .ok (.iload_n 3, 1) := by decide +kernel
theorem d_SI_ways_32 : decode b_SI_ways 32 = .ok (.invokevirtual 40, 3) := by decide +kernel
theorem d_SI_ways_35 : decode b_SI_ways 35 = .ok (.iload 4, 2) := by decide +kernel
theorem d_SI_ways_37 : decode b_SI_ways 37 = .ok (.aload_n 1, 1) := by decide +kernel
theorem d_SI_ways_38 : decode b_SI_ways 38 = .ok (.getfield 43, 3) := by decide +kernel
theorem d_SI_ways_41 : decode b_SI_ways 41 = .ok (.iconst 2, 1) := by decide +kernel
theorem d_SI_ways_42 : decode b_SI_ways 42 = .ok (.iaload, 1) := by decide +kernel
theorem d_SI_ways_43 : decode b_SI_ways 43 = .ok (.invokevirtual 46, 3) := by decide +kernel
theorem d_SI_ways_46 : decode b_SI_ways 46 = .ok (.imul, 1) := by decide +kernel
theorem d_SI_ways_47 : decode b_SI_ways 47 = .ok (.istore_n 2, 1) := by decide +kernel
theorem d_SI_ways_48 : decode b_SI_ways 48 = .ok (.iinc 3 1, 3) := by decide +kernel
theorem d_SI_ways_51 : decode b_SI_ways 51 = .ok (.goto (-38), 3) := by decide +kernel
theorem d_SI_ways_54 : decode b_SI_ways 54 = .ok (.iload_n 2, 1) := by decide +kernel
theorem d_SI_ways_55 : decode b_SI_ways 55 = .ok (.ireturn, 1) := by decide +kernel
noncomputable def SI_ways_L13 (S : St) (x2 : Int32) (x3 : Int32) : Option ((Int32 × Int32 × St) × Nat) :=
  if 5 ≤ x3 then
      some ((x2, x3, S), 1)
    else
      bnd (TW_biddersWith S x3) fun z1 =>
      bnd (SI_eveningsWith S x3) fun z2 =>
      bnd (SI_waysToDeal S z2 (JI_bitCount z1) (S 24 2)) fun z3 =>
      some ((x2 * z3.1, x3 + 1, z3.2), 0)
noncomputable def SI_ways_J54 (S : St) (x2 : Int32) : Option (Int32 × St) :=
  some (x2, S)
noncomputable def SI_ways (S : St) : Option (Int32 × St) :=
  if (S 45 2) = 0 then
      bnd (lp (σ := Int32 × Int32 × St) (fun q => SI_ways_L13 q.2.2 q.1 q.2.1) FZ (1, 0, S)) fun z4 =>
      SI_ways_J54 z4.1.2.2 z4.1.1
    else
      some (0, S)
set_option maxHeartbeats 4000000 in
set_option maxRecDepth 100000 in
theorem L_SI_ways_13 (C : gCx p s m args meth c y_SI_ways.cls b_SI_ways 5 (some .int)) : ∀ (n : Nat) (x2 : Int32) (x3 : Int32) (S : St) (r : (Int32 × Int32 × St) × Nat), lp (σ := Int32 × Int32 × St) (fun q => SI_ways_L13 q.2.2 q.1 q.2.1) n (x2, x3, S) = some r → (∀ (y2 : Int32) (y3 : Int32) (Sy : St), r = ((y2, y3, Sy), 1) → ∀ (ls : Array Slot) (H : Heap) (locs : List Loc), GH w s A Sy H locs → lv_has ls 5 [(2, .int y2)] → W p l e (rmm 2 50) s m args below meth c H locs 0 0 Q (F0 m 54 ls [])) → ∀ (ls : Array Slot) (H : Heap) (locs : List Loc), GH w s A S H locs → lv_has ls 5 [(0, .ref (gad w 45)), (1, .ref (gad w 1)), (2, .int x2), (3, .int x3)] → W p l e (rmm 2 50) s m args below meth c H locs 0 0 Q (F0 m 13 ls []) := by
  have hx := C.1
  have hb := C.2.1
  intro n
  induction n with
  | zero => intro x2 x3 S r h; cases h
  | succ n ih =>
    intro x2 x3 S r h k1 ls H locs hG hl
    obtain ⟨z, h, hr⟩ := lp_succ h
    have h : SI_ways_L13 S x2 x3 = some z := h
    unfold SI_ways_L13 at h
    refine lv_iload_n hx hb d_SI_ways_13 rfl (lv_at hl 3 rfl) ?_
    refine lv_iconst (v := 5) hx hb d_SI_ways_14 (by decide) ?_
    refine lv_icmp_ge (tgt := 54) hx hb d_SI_ways_15 (by decide) (fun hc => ?_) (fun hc => ?_)
    · replace h := it_t h hc
      exact k1 _ _ _ (lp_exit h hr) ls _ _ hG (lv_sub hl [2] rfl)
    · replace h := it_f h hc
      refine lv_aload_n hx hb d_SI_ways_18 rfl (lv_at hl 1 rfl) ?_
      refine lv_iload_n hx hb d_SI_ways_19 rfl (lv_at hl 3 rfl) ?_
      obtain ⟨z1, hz1, h⟩ := bnd_some h
      refine g_goi hG (g_runV (As := [.int x3]) (rest := []) C hG (c_TW_biddersWith l w S x3 hz1 _) (hG.lt (Nat.le_of_ble_eq_true rfl)) (ce1 w _) rfl vw_SI_29 rfl rfl ⟨by decide, by decide⟩ rfl hl.1 rfl (Nat.le_of_ble_eq_true rfl) d_SI_ways_20 ⟨Nat.zero_le _, Nat.zero_le _⟩) (fun H locs hG => ?_)
      refine g_goi hG (g_runS (As := [.int z1]) (rest := []) C hG (c_JI_bitCount l w S z1 _) sw_SI_35 rfl rfl ⟨by decide, by decide⟩ rfl hl.1 rfl (Nat.le_of_ble_eq_true rfl) d_SI_ways_23 ⟨Nat.zero_le _, Nat.zero_le _⟩) (fun H locs hG => ?_)
      refine lv_istore (lv' := [(4, .int (JI_bitCount z1)), (0, .ref (gad w 45)), (1, .ref (gad w 1)), (2, .int x2), (3, .int x3)]) hx hb d_SI_ways_26 hl (by decide) rfl (fun ls hl => ?_)
      refine lv_iload_n hx hb d_SI_ways_28 rfl (lv_at hl 3 rfl) ?_
      refine lv_aload_n hx hb d_SI_ways_29 rfl (lv_at hl 1 rfl) ?_
      refine lv_aload_n hx hb d_SI_ways_30 rfl (lv_at hl 1 rfl) ?_
      refine lv_iload_n hx hb d_SI_ways_31 rfl (lv_at hl 4 rfl) ?_
      obtain ⟨z2, hz2, h⟩ := bnd_some h
      refine g_goi hG (g_runV (As := [.int x3]) (rest := [.ref (gad w 45), .int x2]) C hG (c_SI_eveningsWith l w S x3 hz2 _) (hG.lt (Nat.le_of_ble_eq_true rfl)) (ce45 w _) rfl vw_SI_40 rfl rfl ⟨by decide, by decide⟩ rfl hl.1 rfl (Nat.le_of_ble_eq_true rfl) d_SI_ways_32 ⟨Nat.zero_le _, Nat.zero_le _⟩) (fun H locs hG => ?_)
      refine lv_iload hx hb d_SI_ways_35 (lv_at hl 0 rfl) ?_
      refine lv_aload_n hx hb d_SI_ways_37 rfl (lv_at hl 2 rfl) ?_
      refine g_get C hG (hG.lt (Nat.le_of_ble_eq_true rfl)) (ce1 w _) rfl inC6 7 (Nat.le_of_ble_eq_true rfl) qw49 rfl d_SI_ways_38 ?_
      refine lv_iconst (v := 2) hx hb d_SI_ways_41 (by decide) ?_
      refine g_iald (j := 2) C hG (hG.lt (Nat.le_of_ble_eq_true rfl)) (ce24 w _) (inb_in (by decide)) rfl d_SI_ways_42 ?_
      obtain ⟨z3, hz3, h⟩ := bnd_some h
      refine g_goi hG (g_runV (As := [.int z2, .int (JI_bitCount z1), .int (S 24 2)]) (rest := [.int x2]) C hG (c_SI_waysToDeal l w S z2 (JI_bitCount z1) (S 24 2) hz3 _) (hG.lt (Nat.le_of_ble_eq_true rfl)) (ce45 w _) rfl vw_SI_46 rfl rfl ⟨by decide, by decide⟩ rfl hl.1 rfl (Nat.le_of_ble_eq_true rfl) d_SI_ways_43 ⟨Nat.zero_le _, Nat.zero_le _⟩) (fun H locs hG => ?_)
      refine lv_imul hx hb d_SI_ways_46 ?_
      refine lv_istore_n (lv' := [(2, .int (x2 * z3.1)), (4, .int (JI_bitCount z1)), (0, .ref (gad w 45)), (1, .ref (gad w 1)), (3, .int x3)]) hx hb d_SI_ways_47 rfl hl (by decide) rfl (fun ls hl => ?_)
      refine lv_iinc (v := x3 + 1) (lv' := [(3, .int (x3 + 1)), (2, .int (x2 * z3.1)), (4, .int (JI_bitCount z1)), (0, .ref (gad w 45)), (1, .ref (gad w 1))]) hx hb d_SI_ways_48 hl (k := 4) rfl (congrArg (HAdd.hAdd x3) (by decide : Int32.ofInt 1 = 1)) (by decide) rfl (fun ls hl => ?_)
      refine lv_goto (tgt := 13) hx hb d_SI_ways_51 (by decide) ?_
      exact ih _ _ _ _ (lp_back h hr) k1 ls _ _ hG (lv_sub hl [3, 4, 1, 0] rfl)
set_option maxHeartbeats 4000000 in
set_option maxRecDepth 100000 in
theorem c_SI_ways (l : Launch) (w : gw) (S : St)   {z : Int32 × St} (h : (SI_ways S) = some z) : gMi l w y_SI_ways b_SI_ways 5 (some .int) (rmm 2 50) [.ref (gad w 45), .ref (gad w 1)] S z.1 z.2 := by
  unfold SI_ways at h
  refine g_met (Qc := gQi w z.1 z.2) (by decide +kernel) (Nat.le_of_ble_eq_true rfl) ?_
  intro p e s m args below meth c A Q ls hQ C hG hl
  have hx := C.1
  have hb := C.2.1
  have hl : lv_has ls 5 [(0, .ref (gad w 45)), (1, .ref (gad w 1))] := hl
  have J54 : ∀ (S : St) (x2 : Int32), SI_ways_J54 S x2 = some z → ∀ (ls : Array Slot) (H : Heap) (locs : List Loc), GH w s A S H locs → lv_has ls 5 [(2, .int x2)] → W p l e (rmm 2 50) s m args below meth c H locs 0 0 Q (F0 m 54 ls []) := by
    intro S x2 h ls H locs hG hl
    unfold SI_ways_J54 at h
    refine lv_iload_n hx hb d_SI_ways_54 rfl (lv_at hl 0 rfl) ?_
    exact g_iret C hG (sm_fst h) (sm_snd h) hQ d_SI_ways_55
  refine lv_aload_n hx hb d_SI_ways_0 rfl (lv_at hl 0 rfl) ?_
  refine g_get C hG (hG.lt (Nat.le_of_ble_eq_true rfl)) (ce45 w _) rfl inC5 2 (Nat.le_of_ble_eq_true rfl) qw185 rfl d_SI_ways_1 ?_
  refine lv_if_eq (tgt := 9) hx hb d_SI_ways_4 (by decide) (fun hc => ?_) (fun hc => ?_)
  · replace h := it_t h hc
    refine lv_iconst (v := 1) hx hb d_SI_ways_9 (by decide) ?_
    refine lv_istore_n (lv' := [(2, .int 1), (0, .ref (gad w 45)), (1, .ref (gad w 1))]) hx hb d_SI_ways_10 rfl hl (by decide) rfl (fun ls hl => ?_)
    refine lv_iconst (v := 0) hx hb d_SI_ways_11 (by decide) ?_
    refine lv_istore_n (lv' := [(3, .int 0), (2, .int 1), (0, .ref (gad w 45)), (1, .ref (gad w 1))]) hx hb d_SI_ways_12 rfl hl (by decide) rfl (fun ls hl => ?_)
    obtain ⟨z4, hz4, h⟩ := bnd_some h
    refine L_SI_ways_13 C FZ _ _ _ _ hz4 ?_ ls _ _ hG (lv_sub hl [2, 3, 1, 0] rfl)
    intro y2 y3 Sy e9 ls H locs hG hl
    subst e9
    exact J54 _ _ h ls _ _ hG (lv_sub hl [0] rfl)
  · replace h := it_f h hc
    refine lv_iconst (v := 0) hx hb d_SI_ways_7 (by decide) ?_
    exact g_iret C hG (sm_fst h) (sm_snd h) hQ d_SI_ways_8
theorem d_X_fault_0 : decode b_X_fault 0 = .ok (.aload_n 0, 1) := by decide +kernel
theorem d_X_fault_1 : decode b_X_fault 1 = .ok (.invokevirtual 78, 3) := by decide +kernel
theorem d_X_fault_4 : decode b_X_fault 4 = .ok (.pop, 1) := by decide +kernel
theorem d_X_fault_5 : decode b_X_fault 5 = .ok (.aload_n 0, 1) := by decide +kernel
theorem d_X_fault_6 : decode b_X_fault 6 = .ok (.getfield 19, 3) := by decide +kernel
theorem d_X_fault_9 : decode b_X_fault 9 = .ok (.getfield 82, 3) := by decide +kernel
theorem d_X_fault_12 : decode b_X_fault 12 = .ok (.ireturn, 1) := by decide +kernel
noncomputable def X_fault (S : St) : Option (Int32 × St) :=
  bnd (X_judgedOutcome S) fun z1 =>
    some (z1 25 2, z1)
set_option maxHeartbeats 4000000 in
set_option maxRecDepth 100000 in
theorem c_X_fault (l : Launch) (w : gw) (S : St)   {z : Int32 × St} (h : (X_fault S) = some z) : gMi l w y_X_fault b_X_fault 1 (some .int) (rmm 4 91) [.ref (gad w 0)] S z.1 z.2 := by
  unfold X_fault at h
  refine g_met (Qc := gQi w z.1 z.2) (by decide +kernel) (Nat.le_of_ble_eq_true rfl) ?_
  intro p e s m args below meth c A Q ls hQ C hG hl
  have hx := C.1
  have hb := C.2.1
  have hl : lv_has ls 1 [(0, .ref (gad w 0))] := hl
  refine lv_aload_n hx hb d_X_fault_0 rfl (lv_at hl 0 rfl) ?_
  obtain ⟨z1, hz1, h⟩ := bnd_some h
  refine g_gor hG (g_runV (As := []) (rest := []) C hG (c_X_judgedOutcome l w S hz1 _) (hG.lt (Nat.le_of_ble_eq_true rfl)) (ce0 w _) rfl vw_X_78 rfl rfl ⟨by decide, by decide⟩ rfl hl.1 rfl (Nat.le_of_ble_eq_true rfl) d_X_fault_1 ⟨Nat.zero_le _, Nat.zero_le _⟩) (fun H locs hG => ?_)
  refine lv_pop hx hb d_X_fault_4 rfl ?_
  refine lv_aload_n hx hb d_X_fault_5 rfl (lv_at hl 0 rfl) ?_
  refine g_get C hG (hG.lt (Nat.le_of_ble_eq_true rfl)) (ce0 w _) rfl inC7 1 (Nat.le_of_ble_eq_true rfl) qw200 rfl d_X_fault_6 ?_
  refine g_get C hG (hG.lt (Nat.le_of_ble_eq_true rfl)) (ce25 w _) rfl inC0 2 (Nat.le_of_ble_eq_true rfl) qw80 rfl d_X_fault_9 ?_
  exact g_iret C hG (sm_fst h) (sm_snd h) hQ d_X_fault_12
theorem d_X_undo_0 : decode b_X_undo 0 = .ok (.aload_n 0, 1) := by decide +kernel
theorem d_X_undo_1 : decode b_X_undo 1 = .ok (.invokevirtual 78, 3) := by decide +kernel
theorem d_X_undo_4 : decode b_X_undo 4 = .ok (.pop, 1) := by decide +kernel
theorem d_X_undo_5 : decode b_X_undo 5 = .ok (.aload_n 0, 1) := by decide +kernel
theorem d_X_undo_6 : decode b_X_undo 6 = .ok (.getfield 19, 3) := by decide +kernel
theorem d_X_undo_9 : decode b_X_undo 9 = .ok (.getfield 85, 3) := by decide +kernel
theorem d_X_undo_12 : decode b_X_undo 12 = .ok (.ifCond .ne 6, 3) := by decide +kernel
theorem d_X_undo_15 : decode b_X_undo 15 = .ok (.bipush (-3), 2) := by decide +kernel
theorem d_X_undo_17 : decode b_X_undo 17 = .ok (.ireturn, 1) := by decide +kernel
theorem d_X_undo_18 : decode b_X_undo 18 = .ok (.aload_n 0, 1) := by decide +kernel
theorem d_X_undo_19 : decode b_X_undo 19 = .ok (.getfield 19, 3) := by decide +kernel
theorem d_X_undo_22 : decode b_X_undo 22 = .ok (.getfield 85, 3) := by decide +kernel
theorem d_X_undo_25 : decode b_X_undo 25 = .ok (.iconst 1, 1) := by decide +kernel
theorem d_X_undo_26 : decode b_X_undo 26 = .ok (.isub, 1) := by decide +kernel
theorem d_X_undo_27 : decode b_X_undo 27 = .ok (.istore_n 1, 1) := by decide +kernel
theorem d_X_undo_28 : decode b_X_undo 28 = .ok (.aload_n 0, 1) := by decide +kernel
theorem d_X_undo_29 : decode b_X_undo 29 = .ok (.getfield 19, 3) := by decide +kernel
theorem d_X_undo_32 : decode b_X_undo 32 = .ok (.iload_n 1, 1) := by decide +kernel
theorem d_X_undo_33 : decode b_X_undo 33 = .ok (.invokevirtual 88, 3) := by decide +kernel
theorem d_X_undo_36 : decode b_X_undo 36 = .ok (.aload_n 0, 1) := by decide +kernel
theorem d_X_undo_37 : decode b_X_undo 37 = .ok (.dup, 1) := by decide +kernel
theorem d_X_undo_38 : decode b_X_undo 38 = .ok (.getfield 64, 3) := by decide +kernel
theorem d_X_undo_41 : decode b_X_undo 41 = .ok (.iconst 1, 1) := by decide +kernel
theorem d_X_undo_42 : decode b_X_undo 42 = .ok (.iadd, 1) := by decide +kernel
theorem d_X_undo_43 : decode b_X_undo 43 = .ok (.putfield 64, 3) := by decide +kernel
theorem d_X_undo_46 : decode b_X_undo 46 = .ok (.iload_n 1, 1) := by decide +kernel
theorem d_X_undo_47 : decode b_X_undo 47 = .ok (.ireturn, 1) := by decide +kernel
noncomputable def X_undo (S : St) : Option (Int32 × St) :=
  bnd (X_judgedOutcome S) fun z1 =>
    if (z1 25 3) = 0 then
      some ((-3), z1)
    else
      bnd (BT_keep z1 ((z1 25 3) - 1)) fun z2 =>
      some ((z1 25 3) - 1, up z2 0 9 ((z2 0 9) + 1))
set_option maxHeartbeats 4000000 in
set_option maxRecDepth 100000 in
theorem c_X_undo (l : Launch) (w : gw) (S : St)   {z : Int32 × St} (h : (X_undo S) = some z) : gMi l w y_X_undo b_X_undo 2 (some .int) (rmm 4 91) [.ref (gad w 0)] S z.1 z.2 := by
  unfold X_undo at h
  refine g_met (Qc := gQi w z.1 z.2) (by decide +kernel) (Nat.le_of_ble_eq_true rfl) ?_
  intro p e s m args below meth c A Q ls hQ C hG hl
  have hx := C.1
  have hb := C.2.1
  have hl : lv_has ls 2 [(0, .ref (gad w 0))] := hl
  refine lv_aload_n hx hb d_X_undo_0 rfl (lv_at hl 0 rfl) ?_
  obtain ⟨z1, hz1, h⟩ := bnd_some h
  refine g_gor hG (g_runV (As := []) (rest := []) C hG (c_X_judgedOutcome l w S hz1 _) (hG.lt (Nat.le_of_ble_eq_true rfl)) (ce0 w _) rfl vw_X_78 rfl rfl ⟨by decide, by decide⟩ rfl hl.1 rfl (Nat.le_of_ble_eq_true rfl) d_X_undo_1 ⟨Nat.zero_le _, Nat.zero_le _⟩) (fun H locs hG => ?_)
  refine lv_pop hx hb d_X_undo_4 rfl ?_
  refine lv_aload_n hx hb d_X_undo_5 rfl (lv_at hl 0 rfl) ?_
  refine g_get C hG (hG.lt (Nat.le_of_ble_eq_true rfl)) (ce0 w _) rfl inC7 1 (Nat.le_of_ble_eq_true rfl) qw200 rfl d_X_undo_6 ?_
  refine g_get C hG (hG.lt (Nat.le_of_ble_eq_true rfl)) (ce25 w _) rfl inC0 3 (Nat.le_of_ble_eq_true rfl) qw83 rfl d_X_undo_9 ?_
  refine lv_if_ne (tgt := 18) hx hb d_X_undo_12 (by decide) (fun hc => ?_) (fun hc => ?_)
  · replace h := it_f h hc
    refine lv_aload_n hx hb d_X_undo_18 rfl (lv_at hl 0 rfl) ?_
    refine g_get C hG (hG.lt (Nat.le_of_ble_eq_true rfl)) (ce0 w _) rfl inC7 1 (Nat.le_of_ble_eq_true rfl) qw200 rfl d_X_undo_19 ?_
    refine g_get C hG (hG.lt (Nat.le_of_ble_eq_true rfl)) (ce25 w _) rfl inC0 3 (Nat.le_of_ble_eq_true rfl) qw83 rfl d_X_undo_22 ?_
    refine lv_iconst (v := 1) hx hb d_X_undo_25 (by decide) ?_
    refine lv_isub hx hb d_X_undo_26 ?_
    refine lv_istore_n (lv' := [(1, .int ((z1 25 3) - 1)), (0, .ref (gad w 0))]) hx hb d_X_undo_27 rfl hl (by decide) rfl (fun ls hl => ?_)
    refine lv_aload_n hx hb d_X_undo_28 rfl (lv_at hl 1 rfl) ?_
    refine g_get C hG (hG.lt (Nat.le_of_ble_eq_true rfl)) (ce0 w _) rfl inC7 1 (Nat.le_of_ble_eq_true rfl) qw200 rfl d_X_undo_29 ?_
    refine lv_iload_n hx hb d_X_undo_32 rfl (lv_at hl 0 rfl) ?_
    obtain ⟨z2, hz2, h⟩ := bnd_some h
    refine g_gov hG (g_runV (As := [.int ((z1 25 3) - 1)]) (rest := []) C hG (c_BT_keep l w z1 ((z1 25 3) - 1) hz2 _) (hG.lt (Nat.le_of_ble_eq_true rfl)) (ce25 w _) rfl vw_X_88 rfl rfl ⟨by decide, by decide⟩ rfl hl.1 rfl (Nat.le_of_ble_eq_true rfl) d_X_undo_33 ⟨Nat.zero_le _, Nat.zero_le _⟩) (fun H locs hG => ?_)
    refine lv_aload_n hx hb d_X_undo_36 rfl (lv_at hl 1 rfl) ?_
    refine lv_dup hx hb d_X_undo_37 rfl ?_
    refine g_get C hG (hG.lt (Nat.le_of_ble_eq_true rfl)) (ce0 w _) rfl inC7 9 (Nat.le_of_ble_eq_true rfl) qw208 rfl d_X_undo_38 ?_
    refine lv_iconst (v := 1) hx hb d_X_undo_41 (by decide) ?_
    refine lv_iadd hx hb d_X_undo_42 ?_
    refine g_put (x := (z2 0 9) + 1) C hG (hG.lt (Nat.le_of_ble_eq_true rfl)) (ce0 w _) rfl inC7 okC7 nmC7 9 (Nat.le_of_ble_eq_true rfl) qw208 rfl rfl rfl (Nat.le_of_ble_eq_true rfl) rfl d_X_undo_43 (fun H locs hG => ?_)
    refine lv_iload_n hx hb d_X_undo_46 rfl (lv_at hl 0 rfl) ?_
    exact g_iret C hG (sm_fst h) (sm_snd h) hQ d_X_undo_47
  · replace h := it_t h hc
    refine lv_bipush (v := (-3)) hx hb d_X_undo_15 (by decide) ?_
    exact g_iret C hG (sm_fst h) (sm_snd h) hQ d_X_undo_17
theorem d_X_holds_0 : decode b_X_holds 0 = .ok (.aload_n 0, 1) := by decide +kernel
theorem d_X_holds_1 : decode b_X_holds 1 = .ok (.invokevirtual 78, 3) := by decide +kernel
theorem d_X_holds_4 : decode b_X_holds 4 = .ok (.astore_n 2, 1) := by decide +kernel
theorem d_X_holds_5 : decode b_X_holds 5 = .ok (.iload_n 1, 1) := by decide +kernel
theorem d_X_holds_6 : decode b_X_holds 6 = .ok (.iconst 0, 1) := by decide +kernel
theorem d_X_holds_7 : decode b_X_holds 7 = .ok (.aload_n 0, 1) := by decide +kernel
theorem d_X_holds_8 : decode b_X_holds 8 = .ok (.getfield 19, 3) := by decide +kernel
theorem d_X_holds_11 : decode b_X_holds 11 = .ok (.getfield 85, 3) := by decide +kernel
theorem d_X_holds_14 : decode b_X_holds 14 = .ok (.iconst 1, 1) := by decide +kernel
theorem d_X_holds_15 : decode b_X_holds 15 = .ok (.isub, 1) := by decide +kernel
theorem d_X_holds_16 : decode b_X_holds 16 = .ok (.invokestatic 67, 3) := by decide +kernel
theorem d_X_holds_19 : decode b_X_holds 19 = .ok (.ifCond .ne 6, 3) := by decide +kernel
theorem d_X_holds_22 : decode b_X_holds 22 = .ok (.bipush (-2), 2) := by decide +kernel
theorem d_X_holds_24 : decode b_X_holds 24 = .ok (.ireturn, 1) := by decide +kernel
theorem d_X_holds_25 : decode b_X_holds 25 = .ok (.aload_n 2, 1) := by decide +kernel
theorem d_X_holds_26 : decode b_X_holds 26 = .ok (.getfield 156, 3) := by decide +kernel
theorem d_X_holds_29 : decode b_X_holds 29 = .ok (.iload_n 1, 1) := by decide +kernel
theorem d_X_holds_30 : decode b_X_holds 30 = .ok (.baload, 1) := by decide +kernel
theorem d_X_holds_31 : decode b_X_holds 31 = .ok (.ifCond .eq 7, 3) := by decide +kernel
theorem d_X_holds_34 : decode b_X_holds 34 = .ok (.iconst 1, 1) := by decide +kernel
theorem d_X_holds_35 : decode b_X_holds 35 = .ok (.goto 4, 3) := by decide +kernel
theorem d_X_holds_38 : decode b_X_holds 38 = .ok (.iconst 0, 1) := by decide +kernel
theorem d_X_holds_39 : decode b_X_holds 39 = .ok (.ireturn, 1) := by decide +kernel
noncomputable def X_holds (S : St) (x1 : Int32) : Option (Int32 × St) :=
  bnd (X_judgedOutcome S) fun z1 =>
    if (X_within x1 0 ((z1 25 3) - 1)) = 0 then
      some ((-2), z1)
    else
      chk (inb x1 20) <|
      if (z1 28 (ix x1)) = 0 then
        some (0, z1)
      else
        some (1, z1)
set_option maxHeartbeats 4000000 in
set_option maxRecDepth 100000 in
theorem c_X_holds (l : Launch) (w : gw) (S : St) (x1 : Int32)  {z : Int32 × St} (h : (X_holds S x1) = some z) : gMi l w y_X_holds b_X_holds 3 (some .int) (rmm 4 91) [.ref (gad w 0), .int x1] S z.1 z.2 := by
  unfold X_holds at h
  refine g_met (Qc := gQi w z.1 z.2) (by decide +kernel) (Nat.le_of_ble_eq_true rfl) ?_
  intro p e s m args below meth c A Q ls hQ C hG hl
  have hx := C.1
  have hb := C.2.1
  have hl : lv_has ls 3 [(0, .ref (gad w 0)), (1, .int x1)] := hl
  refine lv_aload_n hx hb d_X_holds_0 rfl (lv_at hl 0 rfl) ?_
  obtain ⟨z1, hz1, h⟩ := bnd_some h
  refine g_gor hG (g_runV (As := []) (rest := []) C hG (c_X_judgedOutcome l w S hz1 _) (hG.lt (Nat.le_of_ble_eq_true rfl)) (ce0 w _) rfl vw_X_78 rfl rfl ⟨by decide, by decide⟩ rfl hl.1 rfl (Nat.le_of_ble_eq_true rfl) d_X_holds_1 ⟨Nat.zero_le _, Nat.zero_le _⟩) (fun H locs hG => ?_)
  refine lv_astore_n (lv' := [(2, .ref (gad w 27)), (0, .ref (gad w 0)), (1, .int x1)]) hx hb d_X_holds_4 rfl hl (by decide) rfl (fun ls hl => ?_)
  refine lv_iload_n hx hb d_X_holds_5 rfl (lv_at hl 2 rfl) ?_
  refine lv_iconst (v := 0) hx hb d_X_holds_6 (by decide) ?_
  refine lv_aload_n hx hb d_X_holds_7 rfl (lv_at hl 1 rfl) ?_
  refine g_get C hG (hG.lt (Nat.le_of_ble_eq_true rfl)) (ce0 w _) rfl inC7 1 (Nat.le_of_ble_eq_true rfl) qw200 rfl d_X_holds_8 ?_
  refine g_get C hG (hG.lt (Nat.le_of_ble_eq_true rfl)) (ce25 w _) rfl inC0 3 (Nat.le_of_ble_eq_true rfl) qw83 rfl d_X_holds_11 ?_
  refine lv_iconst (v := 1) hx hb d_X_holds_14 (by decide) ?_
  refine lv_isub hx hb d_X_holds_15 ?_
  refine g_goi hG (g_runS (As := [.int x1, .int 0, .int ((z1 25 3) - 1)]) (rest := []) C hG (c_X_within l w z1 x1 0 ((z1 25 3) - 1) _) sw_X_67 rfl rfl ⟨by decide, by decide⟩ rfl hl.1 rfl (Nat.le_of_ble_eq_true rfl) d_X_holds_16 ⟨Nat.zero_le _, Nat.zero_le _⟩) (fun H locs hG => ?_)
  refine lv_if_ne (tgt := 25) hx hb d_X_holds_19 (by decide) (fun hc => ?_) (fun hc => ?_)
  · replace h := it_f h hc
    refine lv_aload_n hx hb d_X_holds_25 rfl (lv_at hl 0 rfl) ?_
    refine g_get C hG (hG.lt (Nat.le_of_ble_eq_true rfl)) (ce27 w _) rfl inC3 0 (Nat.le_of_ble_eq_true rfl) qw100 rfl d_X_holds_26 ?_
    refine lv_iload_n hx hb d_X_holds_29 rfl (lv_at hl 2 rfl) ?_
    obtain ⟨hi1, h⟩ := chk_some h
    refine g_zald (j := ix x1) C hG (hG.lt (Nat.le_of_ble_eq_true rfl)) (ce28 w _) (inb_in hi1) rfl d_X_holds_30 ?_
    refine lv_if_eq (tgt := 38) hx hb d_X_holds_31 (by decide) (fun hc => ?_) (fun hc => ?_)
    · replace h := it_t h hc
      refine lv_iconst (v := 0) hx hb d_X_holds_38 (by decide) ?_
      exact g_iret C hG (sm_fst h) (sm_snd h) hQ d_X_holds_39
    · replace h := it_f h hc
      refine lv_iconst (v := 1) hx hb d_X_holds_34 (by decide) ?_
      refine lv_goto (tgt := 39) hx hb d_X_holds_35 (by decide) ?_
      exact g_iret C hG (sm_fst h) (sm_snd h) hQ d_X_holds_39
  · replace h := it_t h hc
    refine lv_bipush (v := (-2)) hx hb d_X_holds_22 (by decide) ?_
    exact g_iret C hG (sm_fst h) (sm_snd h) hQ d_X_holds_24
theorem d_X_judged_0 : decode b_X_judged 0 = .ok (.aload_n 0, 1) := by decide +kernel
theorem d_X_judged_1 : decode b_X_judged 1 = .ok (.invokevirtual 78, 3) := by decide +kernel
theorem d_X_judged_4 : decode b_X_judged 4 = .ok (.getfield 160, 3) := by decide +kernel
theorem d_X_judged_7 : decode b_X_judged 7 = .ok (.ireturn, 1) := by decide +kernel
noncomputable def X_judged (S : St) : Option (Int32 × St) :=
  bnd (X_judgedOutcome S) fun z1 =>
    some (z1 27 6, z1)
set_option maxHeartbeats 4000000 in
set_option maxRecDepth 100000 in
theorem c_X_judged (l : Launch) (w : gw) (S : St)   {z : Int32 × St} (h : (X_judged S) = some z) : gMi l w y_X_judged b_X_judged 1 (some .int) (rmm 4 91) [.ref (gad w 0)] S z.1 z.2 := by
  unfold X_judged at h
  refine g_met (Qc := gQi w z.1 z.2) (by decide +kernel) (Nat.le_of_ble_eq_true rfl) ?_
  intro p e s m args below meth c A Q ls hQ C hG hl
  have hx := C.1
  have hb := C.2.1
  have hl : lv_has ls 1 [(0, .ref (gad w 0))] := hl
  refine lv_aload_n hx hb d_X_judged_0 rfl (lv_at hl 0 rfl) ?_
  obtain ⟨z1, hz1, h⟩ := bnd_some h
  refine g_gor hG (g_runV (As := []) (rest := []) C hG (c_X_judgedOutcome l w S hz1 _) (hG.lt (Nat.le_of_ble_eq_true rfl)) (ce0 w _) rfl vw_X_78 rfl rfl ⟨by decide, by decide⟩ rfl hl.1 rfl (Nat.le_of_ble_eq_true rfl) d_X_judged_1 ⟨Nat.zero_le _, Nat.zero_le _⟩) (fun H locs hG => ?_)
  refine g_get C hG (hG.lt (Nat.le_of_ble_eq_true rfl)) (ce27 w _) rfl inC3 6 (Nat.le_of_ble_eq_true rfl) qw110 rfl d_X_judged_4 ?_
  exact g_iret C hG (sm_fst h) (sm_snd h) hQ d_X_judged_7
theorem d_X_owner_0 : decode b_X_owner 0 = .ok (.iload_n 1, 1) := by decide +kernel
theorem d_X_owner_1 : decode b_X_owner 1 = .ok (.invokestatic 109, 3) := by decide +kernel
theorem d_X_owner_4 : decode b_X_owner 4 = .ok (.ifCond .ne 6, 3) := by decide +kernel
theorem d_X_owner_7 : decode b_X_owner 7 = .ok (.bipush (-2), 2) := by decide +kernel
theorem d_X_owner_9 : decode b_X_owner 9 = .ok (.ireturn, 1) := by decide +kernel
theorem d_X_owner_10 : decode b_X_owner 10 = .ok (.aload_n 0, 1) := by decide +kernel
theorem d_X_owner_11 : decode b_X_owner 11 = .ok (.invokevirtual 78, 3) := by decide +kernel
theorem d_X_owner_14 : decode b_X_owner 14 = .ok (.getfield 163, 3) := by decide +kernel
theorem d_X_owner_17 : decode b_X_owner 17 = .ok (.iload_n 1, 1) := by decide +kernel
theorem d_X_owner_18 : decode b_X_owner 18 = .ok (.iaload, 1) := by decide +kernel
theorem d_X_owner_19 : decode b_X_owner 19 = .ok (.ireturn, 1) := by decide +kernel
noncomputable def X_owner (S : St) (x1 : Int32) : Option (Int32 × St) :=
  if (X_isEvening x1) = 0 then
      some ((-2), S)
    else
      bnd (X_judgedOutcome S) fun z1 =>
      chk (inb x1 10) <|
      some (z1 29 (ix x1), z1)
set_option maxHeartbeats 4000000 in
set_option maxRecDepth 100000 in
theorem c_X_owner (l : Launch) (w : gw) (S : St) (x1 : Int32)  {z : Int32 × St} (h : (X_owner S x1) = some z) : gMi l w y_X_owner b_X_owner 2 (some .int) (rmm 4 91) [.ref (gad w 0), .int x1] S z.1 z.2 := by
  unfold X_owner at h
  refine g_met (Qc := gQi w z.1 z.2) (by decide +kernel) (Nat.le_of_ble_eq_true rfl) ?_
  intro p e s m args below meth c A Q ls hQ C hG hl
  have hx := C.1
  have hb := C.2.1
  have hl : lv_has ls 2 [(0, .ref (gad w 0)), (1, .int x1)] := hl
  refine lv_iload_n hx hb d_X_owner_0 rfl (lv_at hl 1 rfl) ?_
  refine g_goi hG (g_runS (As := [.int x1]) (rest := []) C hG (c_X_isEvening l w S x1 _) sw_X_109 rfl rfl ⟨by decide, by decide⟩ rfl hl.1 rfl (Nat.le_of_ble_eq_true rfl) d_X_owner_1 ⟨Nat.zero_le _, Nat.zero_le _⟩) (fun H locs hG => ?_)
  refine lv_if_ne (tgt := 10) hx hb d_X_owner_4 (by decide) (fun hc => ?_) (fun hc => ?_)
  · replace h := it_f h hc
    refine lv_aload_n hx hb d_X_owner_10 rfl (lv_at hl 0 rfl) ?_
    obtain ⟨z1, hz1, h⟩ := bnd_some h
    refine g_gor hG (g_runV (As := []) (rest := []) C hG (c_X_judgedOutcome l w S hz1 _) (hG.lt (Nat.le_of_ble_eq_true rfl)) (ce0 w _) rfl vw_X_78 rfl rfl ⟨by decide, by decide⟩ rfl hl.1 rfl (Nat.le_of_ble_eq_true rfl) d_X_owner_11 ⟨Nat.zero_le _, Nat.zero_le _⟩) (fun H locs hG => ?_)
    refine g_get C hG (hG.lt (Nat.le_of_ble_eq_true rfl)) (ce27 w _) rfl inC3 1 (Nat.le_of_ble_eq_true rfl) qw102 rfl d_X_owner_14 ?_
    refine lv_iload_n hx hb d_X_owner_17 rfl (lv_at hl 1 rfl) ?_
    obtain ⟨hi1, h⟩ := chk_some h
    refine g_iald (j := ix x1) C hG (hG.lt (Nat.le_of_ble_eq_true rfl)) (ce29 w _) (inb_in hi1) rfl d_X_owner_18 ?_
    exact g_iret C hG (sm_fst h) (sm_snd h) hQ d_X_owner_19
  · replace h := it_t h hc
    refine lv_bipush (v := (-2)) hx hb d_X_owner_7 (by decide) ?_
    exact g_iret C hG (sm_fst h) (sm_snd h) hQ d_X_owner_9
theorem d_X_price_0 : decode b_X_price 0 = .ok (.iload_n 1, 1) := by decide +kernel
theorem d_X_price_1 : decode b_X_price 1 = .ok (.invokestatic 109, 3) := by decide +kernel
theorem d_X_price_4 : decode b_X_price 4 = .ok (.ifCond .ne 6, 3) := by decide +kernel
theorem d_X_price_7 : decode b_X_price 7 = .ok (.bipush (-2), 2) := by decide +kernel
theorem d_X_price_9 : decode b_X_price 9 = .ok (.ireturn, 1) := by decide +kernel
theorem d_X_price_10 : decode b_X_price 10 = .ok (.aload_n 0, 1) := by decide +kernel
theorem d_X_price_11 : decode b_X_price 11 = .ok (.invokevirtual 78, 3) := by decide +kernel
theorem d_X_price_14 : decode b_X_price 14 = .ok (.astore_n 2, 1) := by decide +kernel
theorem d_X_price_15 : decode b_X_price 15 = .ok (.aload_n 2, 1) := by decide +kernel
theorem d_X_price_16 : decode b_X_price 16 = .ok (.getfield 163, 3) := by decide +kernel
theorem d_X_price_19 : decode b_X_price 19 = .ok (.iload_n 1, 1) := by decide +kernel
theorem d_X_price_20 : decode b_X_price 20 = .ok (.iaload, 1) := by decide +kernel
theorem d_X_price_21 : decode b_X_price 21 = .ok (.iconst (-1), 1) := by decide +kernel
theorem d_X_price_22 : decode b_X_price 22 = .ok (.if_icmp .ne 6, 3) := by decide +kernel
theorem d_X_price_25 : decode b_X_price 25 = .ok (.bipush (-3), 2) := by decide +kernel
theorem d_X_price_27 : decode b_X_price 27 = .ok (.ireturn, 1) := by decide +kernel
theorem d_X_price_28 : decode b_X_price 28 = .ok (.aload_n 2, 1) := by decide +kernel
theorem d_X_price_29 : decode b_X_price 29 = .ok (.aload_n 0, 1) := by decide +kernel
theorem d_X_price_30 : decode b_X_price 30 = .ok (.getfield 10, 3) := by decide +kernel
theorem d_X_price_33 : decode b_X_price 33 = .ok (.iload_n 1, 1) := by decide +kernel
theorem d_X_price_34 : decode b_X_price 34 = .ok (.invokevirtual 166, 3) := by decide +kernel
theorem d_X_price_37 : decode b_X_price 37 = .ok (.ireturn, 1) := by decide +kernel
noncomputable def X_price (S : St) (x1 : Int32) : Option (Int32 × St) :=
  if (X_isEvening x1) = 0 then
      some ((-2), S)
    else
      bnd (X_judgedOutcome S) fun z1 =>
      chk (inb x1 10) <|
      if (z1 29 (ix x1)) = (-1) then
        some ((-3), z1)
      else
        bnd (OC_priceOf z1 x1) fun z2 =>
        some (z2, z1)
set_option maxHeartbeats 4000000 in
set_option maxRecDepth 100000 in
theorem c_X_price (l : Launch) (w : gw) (S : St) (x1 : Int32)  {z : Int32 × St} (h : (X_price S x1) = some z) : gMi l w y_X_price b_X_price 3 (some .int) (rmm 4 91) [.ref (gad w 0), .int x1] S z.1 z.2 := by
  unfold X_price at h
  refine g_met (Qc := gQi w z.1 z.2) (by decide +kernel) (Nat.le_of_ble_eq_true rfl) ?_
  intro p e s m args below meth c A Q ls hQ C hG hl
  have hx := C.1
  have hb := C.2.1
  have hl : lv_has ls 3 [(0, .ref (gad w 0)), (1, .int x1)] := hl
  refine lv_iload_n hx hb d_X_price_0 rfl (lv_at hl 1 rfl) ?_
  refine g_goi hG (g_runS (As := [.int x1]) (rest := []) C hG (c_X_isEvening l w S x1 _) sw_X_109 rfl rfl ⟨by decide, by decide⟩ rfl hl.1 rfl (Nat.le_of_ble_eq_true rfl) d_X_price_1 ⟨Nat.zero_le _, Nat.zero_le _⟩) (fun H locs hG => ?_)
  refine lv_if_ne (tgt := 10) hx hb d_X_price_4 (by decide) (fun hc => ?_) (fun hc => ?_)
  · replace h := it_f h hc
    refine lv_aload_n hx hb d_X_price_10 rfl (lv_at hl 0 rfl) ?_
    obtain ⟨z1, hz1, h⟩ := bnd_some h
    refine g_gor hG (g_runV (As := []) (rest := []) C hG (c_X_judgedOutcome l w S hz1 _) (hG.lt (Nat.le_of_ble_eq_true rfl)) (ce0 w _) rfl vw_X_78 rfl rfl ⟨by decide, by decide⟩ rfl hl.1 rfl (Nat.le_of_ble_eq_true rfl) d_X_price_11 ⟨Nat.zero_le _, Nat.zero_le _⟩) (fun H locs hG => ?_)
    refine lv_astore_n (lv' := [(2, .ref (gad w 27)), (0, .ref (gad w 0)), (1, .int x1)]) hx hb d_X_price_14 rfl hl (by decide) rfl (fun ls hl => ?_)
    refine lv_aload_n hx hb d_X_price_15 rfl (lv_at hl 0 rfl) ?_
    refine g_get C hG (hG.lt (Nat.le_of_ble_eq_true rfl)) (ce27 w _) rfl inC3 1 (Nat.le_of_ble_eq_true rfl) qw102 rfl d_X_price_16 ?_
    refine lv_iload_n hx hb d_X_price_19 rfl (lv_at hl 2 rfl) ?_
    obtain ⟨hi1, h⟩ := chk_some h
    refine g_iald (j := ix x1) C hG (hG.lt (Nat.le_of_ble_eq_true rfl)) (ce29 w _) (inb_in hi1) rfl d_X_price_20 ?_
    refine lv_iconst (v := (-1)) hx hb d_X_price_21 (by decide) ?_
    refine lv_icmp_ne (tgt := 28) hx hb d_X_price_22 (by decide) (fun hc => ?_) (fun hc => ?_)
    · replace h := it_f h hc
      refine lv_aload_n hx hb d_X_price_28 rfl (lv_at hl 0 rfl) ?_
      refine lv_aload_n hx hb d_X_price_29 rfl (lv_at hl 1 rfl) ?_
      refine g_get C hG (hG.lt (Nat.le_of_ble_eq_true rfl)) (ce0 w _) rfl inC7 0 (Nat.le_of_ble_eq_true rfl) qw199 rfl d_X_price_30 ?_
      refine lv_iload_n hx hb d_X_price_33 rfl (lv_at hl 2 rfl) ?_
      obtain ⟨z2, hz2, h⟩ := bnd_some h
      refine g_goi hG (g_runV (As := [.ref (gad w 1), .int x1]) (rest := []) C hG (c_OC_priceOf l w z1 x1 hz2 _) (hG.lt (Nat.le_of_ble_eq_true rfl)) (ce27 w _) rfl vw_X_166 rfl rfl ⟨by decide, by decide⟩ rfl hl.1 rfl (Nat.le_of_ble_eq_true rfl) d_X_price_34 ⟨Nat.zero_le _, Nat.zero_le _⟩) (fun H locs hG => ?_)
      exact g_iret C hG (sm_fst h) (sm_snd h) hQ d_X_price_37
    · replace h := it_t h hc
      refine lv_bipush (v := (-3)) hx hb d_X_price_25 (by decide) ?_
      exact g_iret C hG (sm_fst h) (sm_snd h) hQ d_X_price_27
  · replace h := it_t h hc
    refine lv_bipush (v := (-2)) hx hb d_X_price_7 (by decide) ?_
    exact g_iret C hG (sm_fst h) (sm_snd h) hQ d_X_price_9
