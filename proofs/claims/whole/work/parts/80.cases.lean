set_option maxHeartbeats 4000000 in
set_option maxRecDepth 100000 in
theorem lc_0 (l : Launch) {p : Program} {e : Env} {s : State} {m : MethodId} {below : List Frame} {meth : Method} {c : Code} {b L : Nat} {xs : Nat → Int32} (C0 : lw_At p s m meth c b L xs) {i : Nat} {x3 : Int32} (ex3 : x3 = nI (6 * i)) (hi6 : 6 * i + 6 ≤ L) (hL : L ≤ 3072) {w : gw} {S : St} {H : Heap} {locs : List Loc} {ls : Array Slot} (hI : InvB w S i) (hG : GH w s (fun q : Nat => s.heap.size ≤ q) S H locs) (hl : lv_has ls 4 [(0, .ref b), (1, .ref (gad w 0)), (2, .ref (gad w 49)), (3, .int x3)]) (K : ∀ (w : gw) (S : St) (H : Heap) (locs : List Loc), InvB w S (i + 1) → GH w s (fun q : Nat => s.heap.size ≤ q) S H locs → lv_has ls 4 [(0, .ref b), (1, .ref (gad w 0)), (2, .ref (gad w 49)), (3, .int x3)] → W p l e room_1 s m #[Value.ref b] below meth c H locs (73 + 2 * (i + 1)) (7375 + 62 * (i + 1)) (lw_Z below #[Value.ref b] s) (F0 m 1401 ls [])) : W p l e room_1 s m #[Value.ref b] below meth c H locs (73 + 2 * i) (7375 + 62 * i) (lw_Z below #[Value.ref b] s) (F0 m 208 ls []) := by
  obtain ⟨hx, hb, hr, hml, hown, hts, hX, hbl, hlocks, hgv⟩ := id C0
  have C : gCx p s m #[Value.ref b] meth c R_law code 4 ret := ⟨hx, hb, hml, hown, g_tbl hts, hr, hlocks⟩
  have hbA : ¬ (fun q : Nat => s.heap.size ≤ q) b := Nat.not_le.mpr hbl
  have h512 : i < 512 := by omega
  have hk1 : vp_in (x3 + 1) L := by rw [ex3]; exact lw_in (k := 1) (by omega) hL
  obtain ⟨z1, z2, h1, h2, he, hI2⟩ := opB_type hI h512 (xs (x3 + 1).toNatClampNeg)
  refine lv_aload_n hx hb d_LW_208 rfl (lv_at hl 1 rfl) ?_
  refine lv_aload_n hx hb d_LW_209 rfl (lv_at hl 0 rfl) ?_
  refine lv_iload_n hx hb d_LW_210 rfl (lv_at hl 3 rfl) ?_
  refine lv_iconst (v := 1) hx hb d_LW_211 (by decide) ?_
  refine lv_iadd hx hb d_LW_212 ?_
  refine va_sld hx hb hX hbl hbA hG.2.2.2.1 hk1 d_LW_213 ?_
  refine g_goi hG (g_runV (As := [.int (xs (x3 + 1).toNatClampNeg)]) (rest := []) C hG (c_X_type l w S (xs (x3 + 1).toNatClampNeg) h1 _) (hG.lt (Nat.le_of_ble_eq_true rfl)) (ce0 w _) rfl vw_LW_13 rfl rfl ⟨by decide, by decide⟩ rfl hl.1 rfl (Nat.le_of_ble_eq_true rfl) d_LW_214 (lw_cs h512)) (fun H locs hG => ?_)
  refine lv_aload_n hx hb d_LW_217 rfl (lv_at hl 2 rfl) ?_
  refine lv_aload_n hx hb d_LW_218 rfl (lv_at hl 0 rfl) ?_
  refine lv_iload_n hx hb d_LW_219 rfl (lv_at hl 3 rfl) ?_
  refine lv_iconst (v := 1) hx hb d_LW_220 (by decide) ?_
  refine lv_iadd hx hb d_LW_221 ?_
  refine va_sld hx hb hX hbl hbA hG.2.2.2.1 hk1 d_LW_222 ?_
  refine g_goi hG (g_runV (As := [.int (xs (x3 + 1).toNatClampNeg)]) (rest := [.int z1.1]) C hG (c_M_type l w z1.2 (xs (x3 + 1).toNatClampNeg) h2 _) (hG.lt (Nat.le_of_ble_eq_true rfl)) (ce49 w _) rfl vw_LW_17 rfl rfl ⟨by decide, by decide⟩ rfl hl.1 rfl (Nat.le_of_ble_eq_true rfl) d_LW_223 (lw_cs h512)) (fun H locs hG => ?_)
  refine lv_icmp_eq (tgt := 1401) hx hb d_LW_226 (by decide) (fun hc => ?_) (fun hc => absurd he hc)
  refine W.widen (k := 73 + 2 * (i + 1)) (n := 7375 + 62 * (i + 1)) (by omega) (by omega) ?_
  exact K _ _ _ _ hI2 hG hl
set_option maxHeartbeats 4000000 in
set_option maxRecDepth 100000 in
theorem lc_1 (l : Launch) {p : Program} {e : Env} {s : State} {m : MethodId} {below : List Frame} {meth : Method} {c : Code} {b L : Nat} {xs : Nat → Int32} (C0 : lw_At p s m meth c b L xs) {i : Nat} {x3 : Int32} (ex3 : x3 = nI (6 * i)) (hi6 : 6 * i + 6 ≤ L) (hL : L ≤ 3072) {w : gw} {S : St} {H : Heap} {locs : List Loc} {ls : Array Slot} (hI : InvB w S i) (hG : GH w s (fun q : Nat => s.heap.size ≤ q) S H locs) (hl : lv_has ls 4 [(0, .ref b), (1, .ref (gad w 0)), (2, .ref (gad w 49)), (3, .int x3)]) (K : ∀ (w : gw) (S : St) (H : Heap) (locs : List Loc), InvB w S (i + 1) → GH w s (fun q : Nat => s.heap.size ≤ q) S H locs → lv_has ls 4 [(0, .ref b), (1, .ref (gad w 0)), (2, .ref (gad w 49)), (3, .int x3)] → W p l e room_1 s m #[Value.ref b] below meth c H locs (73 + 2 * (i + 1)) (7375 + 62 * (i + 1)) (lw_Z below #[Value.ref b] s) (F0 m 1401 ls [])) : W p l e room_1 s m #[Value.ref b] below meth c H locs (73 + 2 * i) (7375 + 62 * i) (lw_Z below #[Value.ref b] s) (F0 m 231 ls []) := by
  obtain ⟨hx, hb, hr, hml, hown, hts, hX, hbl, hlocks, hgv⟩ := id C0
  have C : gCx p s m #[Value.ref b] meth c R_law code 4 ret := ⟨hx, hb, hml, hown, g_tbl hts, hr, hlocks⟩
  have hbA : ¬ (fun q : Nat => s.heap.size ≤ q) b := Nat.not_le.mpr hbl
  have h512 : i < 512 := by omega
  obtain ⟨z1, z2, h1, h2, he, hI2⟩ := opB_wipe hI h512 
  refine lv_aload_n hx hb d_LW_231 rfl (lv_at hl 1 rfl) ?_
  refine g_goi hG (g_runV (As := []) (rest := []) C hG (c_X_wipe l w S  h1 _) (hG.lt (Nat.le_of_ble_eq_true rfl)) (ce0 w _) rfl vw_LW_18 rfl rfl ⟨by decide, by decide⟩ rfl hl.1 rfl (Nat.le_of_ble_eq_true rfl) d_LW_232 (lw_cs h512)) (fun H locs hG => ?_)
  refine lv_aload_n hx hb d_LW_235 rfl (lv_at hl 2 rfl) ?_
  refine g_goi hG (g_runV (As := []) (rest := [.int z1.1]) C hG (c_M_wipe l w z1.2  h2 _) (hG.lt (Nat.le_of_ble_eq_true rfl)) (ce49 w _) rfl vw_LW_22 rfl rfl ⟨by decide, by decide⟩ rfl hl.1 rfl (Nat.le_of_ble_eq_true rfl) d_LW_236 (lw_cs h512)) (fun H locs hG => ?_)
  refine lv_icmp_eq (tgt := 1401) hx hb d_LW_239 (by decide) (fun hc => ?_) (fun hc => absurd he hc)
  refine W.widen (k := 73 + 2 * (i + 1)) (n := 7375 + 62 * (i + 1)) (by omega) (by omega) ?_
  exact K _ _ _ _ hI2 hG hl
set_option maxHeartbeats 4000000 in
set_option maxRecDepth 100000 in
theorem lc_2 (l : Launch) {p : Program} {e : Env} {s : State} {m : MethodId} {below : List Frame} {meth : Method} {c : Code} {b L : Nat} {xs : Nat → Int32} (C0 : lw_At p s m meth c b L xs) {i : Nat} {x3 : Int32} (ex3 : x3 = nI (6 * i)) (hi6 : 6 * i + 6 ≤ L) (hL : L ≤ 3072) {w : gw} {S : St} {H : Heap} {locs : List Loc} {ls : Array Slot} (hI : InvB w S i) (hG : GH w s (fun q : Nat => s.heap.size ≤ q) S H locs) (hl : lv_has ls 4 [(0, .ref b), (1, .ref (gad w 0)), (2, .ref (gad w 49)), (3, .int x3)]) (K : ∀ (w : gw) (S : St) (H : Heap) (locs : List Loc), InvB w S (i + 1) → GH w s (fun q : Nat => s.heap.size ≤ q) S H locs → lv_has ls 4 [(0, .ref b), (1, .ref (gad w 0)), (2, .ref (gad w 49)), (3, .int x3)] → W p l e room_1 s m #[Value.ref b] below meth c H locs (73 + 2 * (i + 1)) (7375 + 62 * (i + 1)) (lw_Z below #[Value.ref b] s) (F0 m 1401 ls [])) : W p l e room_1 s m #[Value.ref b] below meth c H locs (73 + 2 * i) (7375 + 62 * i) (lw_Z below #[Value.ref b] s) (F0 m 244 ls []) := by
  obtain ⟨hx, hb, hr, hml, hown, hts, hX, hbl, hlocks, hgv⟩ := id C0
  have C : gCx p s m #[Value.ref b] meth c R_law code 4 ret := ⟨hx, hb, hml, hown, g_tbl hts, hr, hlocks⟩
  have hbA : ¬ (fun q : Nat => s.heap.size ≤ q) b := Nat.not_le.mpr hbl
  have h512 : i < 512 := by omega
  obtain ⟨z1, z2, h1, h2, he, hI2⟩ := opB_fault hI h512 
  refine lv_aload_n hx hb d_LW_244 rfl (lv_at hl 1 rfl) ?_
  refine g_goi hG (g_runV (As := []) (rest := []) C hG (c_X_fault l w S  h1 _) (hG.lt (Nat.le_of_ble_eq_true rfl)) (ce0 w _) rfl vw_LW_23 rfl rfl ⟨by decide, by decide⟩ rfl hl.1 rfl (Nat.le_of_ble_eq_true rfl) d_LW_245 (lw_cs h512)) (fun H locs hG => ?_)
  refine lv_aload_n hx hb d_LW_248 rfl (lv_at hl 2 rfl) ?_
  refine g_goi hG (g_runV (As := []) (rest := [.int z1.1]) C hG (c_M_fault l w z1.2  h2 _) (hG.lt (Nat.le_of_ble_eq_true rfl)) (ce49 w _) rfl vw_LW_26 rfl rfl ⟨by decide, by decide⟩ rfl hl.1 rfl (Nat.le_of_ble_eq_true rfl) d_LW_249 (lw_cs h512)) (fun H locs hG => ?_)
  refine lv_icmp_eq (tgt := 1401) hx hb d_LW_252 (by decide) (fun hc => ?_) (fun hc => absurd he hc)
  refine W.widen (k := 73 + 2 * (i + 1)) (n := 7375 + 62 * (i + 1)) (by omega) (by omega) ?_
  exact K _ _ _ _ hI2 hG hl
set_option maxHeartbeats 4000000 in
set_option maxRecDepth 100000 in
theorem lc_3 (l : Launch) {p : Program} {e : Env} {s : State} {m : MethodId} {below : List Frame} {meth : Method} {c : Code} {b L : Nat} {xs : Nat → Int32} (C0 : lw_At p s m meth c b L xs) {i : Nat} {x3 : Int32} (ex3 : x3 = nI (6 * i)) (hi6 : 6 * i + 6 ≤ L) (hL : L ≤ 3072) {w : gw} {S : St} {H : Heap} {locs : List Loc} {ls : Array Slot} (hI : InvB w S i) (hG : GH w s (fun q : Nat => s.heap.size ≤ q) S H locs) (hl : lv_has ls 4 [(0, .ref b), (1, .ref (gad w 0)), (2, .ref (gad w 49)), (3, .int x3)]) (K : ∀ (w : gw) (S : St) (H : Heap) (locs : List Loc), InvB w S (i + 1) → GH w s (fun q : Nat => s.heap.size ≤ q) S H locs → lv_has ls 4 [(0, .ref b), (1, .ref (gad w 0)), (2, .ref (gad w 49)), (3, .int x3)] → W p l e room_1 s m #[Value.ref b] below meth c H locs (73 + 2 * (i + 1)) (7375 + 62 * (i + 1)) (lw_Z below #[Value.ref b] s) (F0 m 1401 ls [])) : W p l e room_1 s m #[Value.ref b] below meth c H locs (73 + 2 * i) (7375 + 62 * i) (lw_Z below #[Value.ref b] s) (F0 m 257 ls []) := by
  obtain ⟨hx, hb, hr, hml, hown, hts, hX, hbl, hlocks, hgv⟩ := id C0
  have C : gCx p s m #[Value.ref b] meth c R_law code 4 ret := ⟨hx, hb, hml, hown, g_tbl hts, hr, hlocks⟩
  have hbA : ¬ (fun q : Nat => s.heap.size ≤ q) b := Nat.not_le.mpr hbl
  have h512 : i < 512 := by omega
  obtain ⟨z1, z2, h1, h2, he, hI2⟩ := opB_undo hI h512 
  refine lv_aload_n hx hb d_LW_257 rfl (lv_at hl 1 rfl) ?_
  refine g_goi hG (g_runV (As := []) (rest := []) C hG (c_X_undo l w S  h1 _) (hG.lt (Nat.le_of_ble_eq_true rfl)) (ce0 w _) rfl vw_LW_27 rfl rfl ⟨by decide, by decide⟩ rfl hl.1 rfl (Nat.le_of_ble_eq_true rfl) d_LW_258 (lw_cs h512)) (fun H locs hG => ?_)
  refine lv_aload_n hx hb d_LW_261 rfl (lv_at hl 2 rfl) ?_
  refine g_goi hG (g_runV (As := []) (rest := [.int z1.1]) C hG (c_M_undo l w z1.2  h2 _) (hG.lt (Nat.le_of_ble_eq_true rfl)) (ce49 w _) rfl vw_LW_30 rfl rfl ⟨by decide, by decide⟩ rfl hl.1 rfl (Nat.le_of_ble_eq_true rfl) d_LW_262 (lw_cs h512)) (fun H locs hG => ?_)
  refine lv_icmp_eq (tgt := 1401) hx hb d_LW_265 (by decide) (fun hc => ?_) (fun hc => absurd he hc)
  refine W.widen (k := 73 + 2 * (i + 1)) (n := 7375 + 62 * (i + 1)) (by omega) (by omega) ?_
  exact K _ _ _ _ hI2 hG hl
set_option maxHeartbeats 4000000 in
set_option maxRecDepth 100000 in
theorem lc_4 (l : Launch) {p : Program} {e : Env} {s : State} {m : MethodId} {below : List Frame} {meth : Method} {c : Code} {b L : Nat} {xs : Nat → Int32} (C0 : lw_At p s m meth c b L xs) {i : Nat} {x3 : Int32} (ex3 : x3 = nI (6 * i)) (hi6 : 6 * i + 6 ≤ L) (hL : L ≤ 3072) {w : gw} {S : St} {H : Heap} {locs : List Loc} {ls : Array Slot} (hI : InvB w S i) (hG : GH w s (fun q : Nat => s.heap.size ≤ q) S H locs) (hl : lv_has ls 4 [(0, .ref b), (1, .ref (gad w 0)), (2, .ref (gad w 49)), (3, .int x3)]) (K : ∀ (w : gw) (S : St) (H : Heap) (locs : List Loc), InvB w S (i + 1) → GH w s (fun q : Nat => s.heap.size ≤ q) S H locs → lv_has ls 4 [(0, .ref b), (1, .ref (gad w 0)), (2, .ref (gad w 49)), (3, .int x3)] → W p l e room_1 s m #[Value.ref b] below meth c H locs (73 + 2 * (i + 1)) (7375 + 62 * (i + 1)) (lw_Z below #[Value.ref b] s) (F0 m 1401 ls [])) : W p l e room_1 s m #[Value.ref b] below meth c H locs (73 + 2 * i) (7375 + 62 * i) (lw_Z below #[Value.ref b] s) (F0 m 270 ls []) := by
  obtain ⟨hx, hb, hr, hml, hown, hts, hX, hbl, hlocks, hgv⟩ := id C0
  have C : gCx p s m #[Value.ref b] meth c R_law code 4 ret := ⟨hx, hb, hml, hown, g_tbl hts, hr, hlocks⟩
  have hbA : ¬ (fun q : Nat => s.heap.size ≤ q) b := Nat.not_le.mpr hbl
  have h512 : i < 512 := by omega
  have hk1 : vp_in (x3 + 1) L := by rw [ex3]; exact lw_in (k := 1) (by omega) hL
  have hk2 : vp_in (x3 + 2) L := by rw [ex3]; exact lw_in (k := 2) (by omega) hL
  have hk3 : vp_in (x3 + 3) L := by rw [ex3]; exact lw_in (k := 3) (by omega) hL
  obtain ⟨z1, z2, h1, h2, he, hI2⟩ := opB_bidder hI h512 (xs (x3 + 1).toNatClampNeg) (xs (x3 + 2).toNatClampNeg) (xs (x3 + 3).toNatClampNeg)
  refine lv_aload_n hx hb d_LW_270 rfl (lv_at hl 1 rfl) ?_
  refine lv_aload_n hx hb d_LW_271 rfl (lv_at hl 0 rfl) ?_
  refine lv_iload_n hx hb d_LW_272 rfl (lv_at hl 3 rfl) ?_
  refine lv_iconst (v := 1) hx hb d_LW_273 (by decide) ?_
  refine lv_iadd hx hb d_LW_274 ?_
  refine va_sld hx hb hX hbl hbA hG.2.2.2.1 hk1 d_LW_275 ?_
  refine lv_aload_n hx hb d_LW_276 rfl (lv_at hl 0 rfl) ?_
  refine lv_iload_n hx hb d_LW_277 rfl (lv_at hl 3 rfl) ?_
  refine lv_iconst (v := 2) hx hb d_LW_278 (by decide) ?_
  refine lv_iadd hx hb d_LW_279 ?_
  refine va_sld hx hb hX hbl hbA hG.2.2.2.1 hk2 d_LW_280 ?_
  refine lv_aload_n hx hb d_LW_281 rfl (lv_at hl 0 rfl) ?_
  refine lv_iload_n hx hb d_LW_282 rfl (lv_at hl 3 rfl) ?_
  refine lv_iconst (v := 3) hx hb d_LW_283 (by decide) ?_
  refine lv_iadd hx hb d_LW_284 ?_
  refine va_sld hx hb hX hbl hbA hG.2.2.2.1 hk3 d_LW_285 ?_
  refine g_goi hG (g_runV (As := [.int (xs (x3 + 1).toNatClampNeg), .int (xs (x3 + 2).toNatClampNeg), .int (xs (x3 + 3).toNatClampNeg)]) (rest := []) C hG (c_X_bidder l w S (xs (x3 + 1).toNatClampNeg) (xs (x3 + 2).toNatClampNeg) (xs (x3 + 3).toNatClampNeg) h1 _) (hG.lt (Nat.le_of_ble_eq_true rfl)) (ce0 w _) rfl vw_LW_31 rfl rfl ⟨by decide, by decide⟩ rfl hl.1 rfl (Nat.le_of_ble_eq_true rfl) d_LW_286 (lw_cs h512)) (fun H locs hG => ?_)
  refine lv_aload_n hx hb d_LW_289 rfl (lv_at hl 2 rfl) ?_
  refine lv_aload_n hx hb d_LW_290 rfl (lv_at hl 0 rfl) ?_
  refine lv_iload_n hx hb d_LW_291 rfl (lv_at hl 3 rfl) ?_
  refine lv_iconst (v := 1) hx hb d_LW_292 (by decide) ?_
  refine lv_iadd hx hb d_LW_293 ?_
  refine va_sld hx hb hX hbl hbA hG.2.2.2.1 hk1 d_LW_294 ?_
  refine lv_aload_n hx hb d_LW_295 rfl (lv_at hl 0 rfl) ?_
  refine lv_iload_n hx hb d_LW_296 rfl (lv_at hl 3 rfl) ?_
  refine lv_iconst (v := 2) hx hb d_LW_297 (by decide) ?_
  refine lv_iadd hx hb d_LW_298 ?_
  refine va_sld hx hb hX hbl hbA hG.2.2.2.1 hk2 d_LW_299 ?_
  refine lv_aload_n hx hb d_LW_300 rfl (lv_at hl 0 rfl) ?_
  refine lv_iload_n hx hb d_LW_301 rfl (lv_at hl 3 rfl) ?_
  refine lv_iconst (v := 3) hx hb d_LW_302 (by decide) ?_
  refine lv_iadd hx hb d_LW_303 ?_
  refine va_sld hx hb hX hbl hbA hG.2.2.2.1 hk3 d_LW_304 ?_
  refine g_goi hG (g_runV (As := [.int (xs (x3 + 1).toNatClampNeg), .int (xs (x3 + 2).toNatClampNeg), .int (xs (x3 + 3).toNatClampNeg)]) (rest := [.int z1.1]) C hG (c_M_bidder l w z1.2 (xs (x3 + 1).toNatClampNeg) (xs (x3 + 2).toNatClampNeg) (xs (x3 + 3).toNatClampNeg) h2 _) (hG.lt (Nat.le_of_ble_eq_true rfl)) (ce49 w _) rfl vw_LW_35 rfl rfl ⟨by decide, by decide⟩ rfl hl.1 rfl (Nat.le_of_ble_eq_true rfl) d_LW_305 (lw_cs h512)) (fun H locs hG => ?_)
  refine lv_icmp_eq (tgt := 1401) hx hb d_LW_308 (by decide) (fun hc => ?_) (fun hc => absurd he hc)
  refine W.widen (k := 73 + 2 * (i + 1)) (n := 7375 + 62 * (i + 1)) (by omega) (by omega) ?_
  exact K _ _ _ _ hI2 hG hl
set_option maxHeartbeats 4000000 in
set_option maxRecDepth 100000 in
theorem lc_5 (l : Launch) {p : Program} {e : Env} {s : State} {m : MethodId} {below : List Frame} {meth : Method} {c : Code} {b L : Nat} {xs : Nat → Int32} (C0 : lw_At p s m meth c b L xs) {i : Nat} {x3 : Int32} (ex3 : x3 = nI (6 * i)) (hi6 : 6 * i + 6 ≤ L) (hL : L ≤ 3072) {w : gw} {S : St} {H : Heap} {locs : List Loc} {ls : Array Slot} (hI : InvB w S i) (hG : GH w s (fun q : Nat => s.heap.size ≤ q) S H locs) (hl : lv_has ls 4 [(0, .ref b), (1, .ref (gad w 0)), (2, .ref (gad w 49)), (3, .int x3)]) (K : ∀ (w : gw) (S : St) (H : Heap) (locs : List Loc), InvB w S (i + 1) → GH w s (fun q : Nat => s.heap.size ≤ q) S H locs → lv_has ls 4 [(0, .ref b), (1, .ref (gad w 0)), (2, .ref (gad w 49)), (3, .int x3)] → W p l e room_1 s m #[Value.ref b] below meth c H locs (73 + 2 * (i + 1)) (7375 + 62 * (i + 1)) (lw_Z below #[Value.ref b] s) (F0 m 1401 ls [])) : W p l e room_1 s m #[Value.ref b] below meth c H locs (73 + 2 * i) (7375 + 62 * i) (lw_Z below #[Value.ref b] s) (F0 m 313 ls []) := by
  obtain ⟨hx, hb, hr, hml, hown, hts, hX, hbl, hlocks, hgv⟩ := id C0
  have C : gCx p s m #[Value.ref b] meth c R_law code 4 ret := ⟨hx, hb, hml, hown, g_tbl hts, hr, hlocks⟩
  have hbA : ¬ (fun q : Nat => s.heap.size ≤ q) b := Nat.not_le.mpr hbl
  have h512 : i < 512 := by omega
  have hk1 : vp_in (x3 + 1) L := by rw [ex3]; exact lw_in (k := 1) (by omega) hL
  have hk2 : vp_in (x3 + 2) L := by rw [ex3]; exact lw_in (k := 2) (by omega) hL
  have hk3 : vp_in (x3 + 3) L := by rw [ex3]; exact lw_in (k := 3) (by omega) hL
  obtain ⟨z1, z2, h1, h2, he, hI2⟩ := opB_value hI h512 (xs (x3 + 1).toNatClampNeg) (xs (x3 + 2).toNatClampNeg) (xs (x3 + 3).toNatClampNeg)
  refine lv_aload_n hx hb d_LW_313 rfl (lv_at hl 1 rfl) ?_
  refine lv_aload_n hx hb d_LW_314 rfl (lv_at hl 0 rfl) ?_
  refine lv_iload_n hx hb d_LW_315 rfl (lv_at hl 3 rfl) ?_
  refine lv_iconst (v := 1) hx hb d_LW_316 (by decide) ?_
  refine lv_iadd hx hb d_LW_317 ?_
  refine va_sld hx hb hX hbl hbA hG.2.2.2.1 hk1 d_LW_318 ?_
  refine lv_aload_n hx hb d_LW_319 rfl (lv_at hl 0 rfl) ?_
  refine lv_iload_n hx hb d_LW_320 rfl (lv_at hl 3 rfl) ?_
  refine lv_iconst (v := 2) hx hb d_LW_321 (by decide) ?_
  refine lv_iadd hx hb d_LW_322 ?_
  refine va_sld hx hb hX hbl hbA hG.2.2.2.1 hk2 d_LW_323 ?_
  refine lv_aload_n hx hb d_LW_324 rfl (lv_at hl 0 rfl) ?_
  refine lv_iload_n hx hb d_LW_325 rfl (lv_at hl 3 rfl) ?_
  refine lv_iconst (v := 3) hx hb d_LW_326 (by decide) ?_
  refine lv_iadd hx hb d_LW_327 ?_
  refine va_sld hx hb hX hbl hbA hG.2.2.2.1 hk3 d_LW_328 ?_
  refine g_goi hG (g_runV (As := [.int (xs (x3 + 1).toNatClampNeg), .int (xs (x3 + 2).toNatClampNeg), .int (xs (x3 + 3).toNatClampNeg)]) (rest := []) C hG (c_X_value l w S (xs (x3 + 1).toNatClampNeg) (xs (x3 + 2).toNatClampNeg) (xs (x3 + 3).toNatClampNeg) h1 _) (hG.lt (Nat.le_of_ble_eq_true rfl)) (ce0 w _) rfl vw_LW_36 rfl rfl ⟨by decide, by decide⟩ rfl hl.1 rfl (Nat.le_of_ble_eq_true rfl) d_LW_329 (lw_cs h512)) (fun H locs hG => ?_)
  refine lv_aload_n hx hb d_LW_332 rfl (lv_at hl 2 rfl) ?_
  refine lv_aload_n hx hb d_LW_333 rfl (lv_at hl 0 rfl) ?_
  refine lv_iload_n hx hb d_LW_334 rfl (lv_at hl 3 rfl) ?_
  refine lv_iconst (v := 1) hx hb d_LW_335 (by decide) ?_
  refine lv_iadd hx hb d_LW_336 ?_
  refine va_sld hx hb hX hbl hbA hG.2.2.2.1 hk1 d_LW_337 ?_
  refine lv_aload_n hx hb d_LW_338 rfl (lv_at hl 0 rfl) ?_
  refine lv_iload_n hx hb d_LW_339 rfl (lv_at hl 3 rfl) ?_
  refine lv_iconst (v := 2) hx hb d_LW_340 (by decide) ?_
  refine lv_iadd hx hb d_LW_341 ?_
  refine va_sld hx hb hX hbl hbA hG.2.2.2.1 hk2 d_LW_342 ?_
  refine lv_aload_n hx hb d_LW_343 rfl (lv_at hl 0 rfl) ?_
  refine lv_iload_n hx hb d_LW_344 rfl (lv_at hl 3 rfl) ?_
  refine lv_iconst (v := 3) hx hb d_LW_345 (by decide) ?_
  refine lv_iadd hx hb d_LW_346 ?_
  refine va_sld hx hb hX hbl hbA hG.2.2.2.1 hk3 d_LW_347 ?_
  refine g_goi hG (g_runV (As := [.int (xs (x3 + 1).toNatClampNeg), .int (xs (x3 + 2).toNatClampNeg), .int (xs (x3 + 3).toNatClampNeg)]) (rest := [.int z1.1]) C hG (c_M_value l w z1.2 (xs (x3 + 1).toNatClampNeg) (xs (x3 + 2).toNatClampNeg) (xs (x3 + 3).toNatClampNeg) h2 _) (hG.lt (Nat.le_of_ble_eq_true rfl)) (ce49 w _) rfl vw_LW_39 rfl rfl ⟨by decide, by decide⟩ rfl hl.1 rfl (Nat.le_of_ble_eq_true rfl) d_LW_348 (lw_cs h512)) (fun H locs hG => ?_)
  refine lv_icmp_eq (tgt := 1401) hx hb d_LW_351 (by decide) (fun hc => ?_) (fun hc => absurd he hc)
  refine W.widen (k := 73 + 2 * (i + 1)) (n := 7375 + 62 * (i + 1)) (by omega) (by omega) ?_
  exact K _ _ _ _ hI2 hG hl
set_option maxHeartbeats 4000000 in
set_option maxRecDepth 100000 in
theorem lc_6 (l : Launch) {p : Program} {e : Env} {s : State} {m : MethodId} {below : List Frame} {meth : Method} {c : Code} {b L : Nat} {xs : Nat → Int32} (C0 : lw_At p s m meth c b L xs) {i : Nat} {x3 : Int32} (ex3 : x3 = nI (6 * i)) (hi6 : 6 * i + 6 ≤ L) (hL : L ≤ 3072) {w : gw} {S : St} {H : Heap} {locs : List Loc} {ls : Array Slot} (hI : InvB w S i) (hG : GH w s (fun q : Nat => s.heap.size ≤ q) S H locs) (hl : lv_has ls 4 [(0, .ref b), (1, .ref (gad w 0)), (2, .ref (gad w 49)), (3, .int x3)]) (K : ∀ (w : gw) (S : St) (H : Heap) (locs : List Loc), InvB w S (i + 1) → GH w s (fun q : Nat => s.heap.size ≤ q) S H locs → lv_has ls 4 [(0, .ref b), (1, .ref (gad w 0)), (2, .ref (gad w 49)), (3, .int x3)] → W p l e room_1 s m #[Value.ref b] below meth c H locs (73 + 2 * (i + 1)) (7375 + 62 * (i + 1)) (lw_Z below #[Value.ref b] s) (F0 m 1401 ls [])) : W p l e room_1 s m #[Value.ref b] below meth c H locs (73 + 2 * i) (7375 + 62 * i) (lw_Z below #[Value.ref b] s) (F0 m 356 ls []) := by
  obtain ⟨hx, hb, hr, hml, hown, hts, hX, hbl, hlocks, hgv⟩ := id C0
  have C : gCx p s m #[Value.ref b] meth c R_law code 4 ret := ⟨hx, hb, hml, hown, g_tbl hts, hr, hlocks⟩
  have hbA : ¬ (fun q : Nat => s.heap.size ≤ q) b := Nat.not_le.mpr hbl
  have h512 : i < 512 := by omega
  have hk1 : vp_in (x3 + 1) L := by rw [ex3]; exact lw_in (k := 1) (by omega) hL
  have hk2 : vp_in (x3 + 2) L := by rw [ex3]; exact lw_in (k := 2) (by omega) hL
  have hk3 : vp_in (x3 + 3) L := by rw [ex3]; exact lw_in (k := 3) (by omega) hL
  obtain ⟨z1, z2, h1, h2, he, hI2⟩ := opB_joy hI h512 (xs (x3 + 1).toNatClampNeg) (xs (x3 + 2).toNatClampNeg) (xs (x3 + 3).toNatClampNeg)
  refine lv_aload_n hx hb d_LW_356 rfl (lv_at hl 1 rfl) ?_
  refine lv_aload_n hx hb d_LW_357 rfl (lv_at hl 0 rfl) ?_
  refine lv_iload_n hx hb d_LW_358 rfl (lv_at hl 3 rfl) ?_
  refine lv_iconst (v := 1) hx hb d_LW_359 (by decide) ?_
  refine lv_iadd hx hb d_LW_360 ?_
  refine va_sld hx hb hX hbl hbA hG.2.2.2.1 hk1 d_LW_361 ?_
  refine lv_aload_n hx hb d_LW_362 rfl (lv_at hl 0 rfl) ?_
  refine lv_iload_n hx hb d_LW_363 rfl (lv_at hl 3 rfl) ?_
  refine lv_iconst (v := 2) hx hb d_LW_364 (by decide) ?_
  refine lv_iadd hx hb d_LW_365 ?_
  refine va_sld hx hb hX hbl hbA hG.2.2.2.1 hk2 d_LW_366 ?_
  refine lv_aload_n hx hb d_LW_367 rfl (lv_at hl 0 rfl) ?_
  refine lv_iload_n hx hb d_LW_368 rfl (lv_at hl 3 rfl) ?_
  refine lv_iconst (v := 3) hx hb d_LW_369 (by decide) ?_
  refine lv_iadd hx hb d_LW_370 ?_
  refine va_sld hx hb hX hbl hbA hG.2.2.2.1 hk3 d_LW_371 ?_
  refine g_goi hG (g_runV (As := [.int (xs (x3 + 1).toNatClampNeg), .int (xs (x3 + 2).toNatClampNeg), .int (xs (x3 + 3).toNatClampNeg)]) (rest := []) C hG (c_X_joy l w S (xs (x3 + 1).toNatClampNeg) (xs (x3 + 2).toNatClampNeg) (xs (x3 + 3).toNatClampNeg) h1 _) (hG.lt (Nat.le_of_ble_eq_true rfl)) (ce0 w _) rfl vw_LW_40 rfl rfl ⟨by decide, by decide⟩ rfl hl.1 rfl (Nat.le_of_ble_eq_true rfl) d_LW_372 (lw_cs h512)) (fun H locs hG => ?_)
  refine lv_aload_n hx hb d_LW_375 rfl (lv_at hl 2 rfl) ?_
  refine lv_aload_n hx hb d_LW_376 rfl (lv_at hl 0 rfl) ?_
  refine lv_iload_n hx hb d_LW_377 rfl (lv_at hl 3 rfl) ?_
  refine lv_iconst (v := 1) hx hb d_LW_378 (by decide) ?_
  refine lv_iadd hx hb d_LW_379 ?_
  refine va_sld hx hb hX hbl hbA hG.2.2.2.1 hk1 d_LW_380 ?_
  refine lv_aload_n hx hb d_LW_381 rfl (lv_at hl 0 rfl) ?_
  refine lv_iload_n hx hb d_LW_382 rfl (lv_at hl 3 rfl) ?_
  refine lv_iconst (v := 2) hx hb d_LW_383 (by decide) ?_
  refine lv_iadd hx hb d_LW_384 ?_
  refine va_sld hx hb hX hbl hbA hG.2.2.2.1 hk2 d_LW_385 ?_
  refine lv_aload_n hx hb d_LW_386 rfl (lv_at hl 0 rfl) ?_
  refine lv_iload_n hx hb d_LW_387 rfl (lv_at hl 3 rfl) ?_
  refine lv_iconst (v := 3) hx hb d_LW_388 (by decide) ?_
  refine lv_iadd hx hb d_LW_389 ?_
  refine va_sld hx hb hX hbl hbA hG.2.2.2.1 hk3 d_LW_390 ?_
  refine g_goi hG (g_runV (As := [.int (xs (x3 + 1).toNatClampNeg), .int (xs (x3 + 2).toNatClampNeg), .int (xs (x3 + 3).toNatClampNeg)]) (rest := [.int z1.1]) C hG (c_M_joy l w z1.2 (xs (x3 + 1).toNatClampNeg) (xs (x3 + 2).toNatClampNeg) (xs (x3 + 3).toNatClampNeg) h2 _) (hG.lt (Nat.le_of_ble_eq_true rfl)) (ce49 w _) rfl vw_LW_43 rfl rfl ⟨by decide, by decide⟩ rfl hl.1 rfl (Nat.le_of_ble_eq_true rfl) d_LW_391 (lw_cs h512)) (fun H locs hG => ?_)
  refine lv_icmp_eq (tgt := 1401) hx hb d_LW_394 (by decide) (fun hc => ?_) (fun hc => absurd he hc)
  refine W.widen (k := 73 + 2 * (i + 1)) (n := 7375 + 62 * (i + 1)) (by omega) (by omega) ?_
  exact K _ _ _ _ hI2 hG hl
set_option maxHeartbeats 4000000 in
set_option maxRecDepth 100000 in
theorem lc_7 (l : Launch) {p : Program} {e : Env} {s : State} {m : MethodId} {below : List Frame} {meth : Method} {c : Code} {b L : Nat} {xs : Nat → Int32} (C0 : lw_At p s m meth c b L xs) {i : Nat} {x3 : Int32} (ex3 : x3 = nI (6 * i)) (hi6 : 6 * i + 6 ≤ L) (hL : L ≤ 3072) {w : gw} {S : St} {H : Heap} {locs : List Loc} {ls : Array Slot} (hI : InvB w S i) (hG : GH w s (fun q : Nat => s.heap.size ≤ q) S H locs) (hl : lv_has ls 4 [(0, .ref b), (1, .ref (gad w 0)), (2, .ref (gad w 49)), (3, .int x3)]) (K : ∀ (w : gw) (S : St) (H : Heap) (locs : List Loc), InvB w S (i + 1) → GH w s (fun q : Nat => s.heap.size ≤ q) S H locs → lv_has ls 4 [(0, .ref b), (1, .ref (gad w 0)), (2, .ref (gad w 49)), (3, .int x3)] → W p l e room_1 s m #[Value.ref b] below meth c H locs (73 + 2 * (i + 1)) (7375 + 62 * (i + 1)) (lw_Z below #[Value.ref b] s) (F0 m 1401 ls [])) : W p l e room_1 s m #[Value.ref b] below meth c H locs (73 + 2 * i) (7375 + 62 * i) (lw_Z below #[Value.ref b] s) (F0 m 399 ls []) := by
  obtain ⟨hx, hb, hr, hml, hown, hts, hX, hbl, hlocks, hgv⟩ := id C0
  have C : gCx p s m #[Value.ref b] meth c R_law code 4 ret := ⟨hx, hb, hml, hown, g_tbl hts, hr, hlocks⟩
  have hbA : ¬ (fun q : Nat => s.heap.size ≤ q) b := Nat.not_le.mpr hbl
  have h512 : i < 512 := by omega
  have hk1 : vp_in (x3 + 1) L := by rw [ex3]; exact lw_in (k := 1) (by omega) hL
  have hk2 : vp_in (x3 + 2) L := by rw [ex3]; exact lw_in (k := 2) (by omega) hL
  have hk3 : vp_in (x3 + 3) L := by rw [ex3]; exact lw_in (k := 3) (by omega) hL
  obtain ⟨z1, z2, h1, h2, he, hI2⟩ := opB_evening hI h512 (xs (x3 + 1).toNatClampNeg) (xs (x3 + 2).toNatClampNeg) (xs (x3 + 3).toNatClampNeg)
  refine lv_aload_n hx hb d_LW_399 rfl (lv_at hl 1 rfl) ?_
  refine lv_aload_n hx hb d_LW_400 rfl (lv_at hl 0 rfl) ?_
  refine lv_iload_n hx hb d_LW_401 rfl (lv_at hl 3 rfl) ?_
  refine lv_iconst (v := 1) hx hb d_LW_402 (by decide) ?_
  refine lv_iadd hx hb d_LW_403 ?_
  refine va_sld hx hb hX hbl hbA hG.2.2.2.1 hk1 d_LW_404 ?_
  refine lv_aload_n hx hb d_LW_405 rfl (lv_at hl 0 rfl) ?_
  refine lv_iload_n hx hb d_LW_406 rfl (lv_at hl 3 rfl) ?_
  refine lv_iconst (v := 2) hx hb d_LW_407 (by decide) ?_
  refine lv_iadd hx hb d_LW_408 ?_
  refine va_sld hx hb hX hbl hbA hG.2.2.2.1 hk2 d_LW_409 ?_
  refine lv_aload_n hx hb d_LW_410 rfl (lv_at hl 0 rfl) ?_
  refine lv_iload_n hx hb d_LW_411 rfl (lv_at hl 3 rfl) ?_
  refine lv_iconst (v := 3) hx hb d_LW_412 (by decide) ?_
  refine lv_iadd hx hb d_LW_413 ?_
  refine va_sld hx hb hX hbl hbA hG.2.2.2.1 hk3 d_LW_414 ?_
  refine g_goi hG (g_runV (As := [.int (xs (x3 + 1).toNatClampNeg), .int (xs (x3 + 2).toNatClampNeg), .int (xs (x3 + 3).toNatClampNeg)]) (rest := []) C hG (c_X_evening l w S (xs (x3 + 1).toNatClampNeg) (xs (x3 + 2).toNatClampNeg) (xs (x3 + 3).toNatClampNeg) h1 _) (hG.lt (Nat.le_of_ble_eq_true rfl)) (ce0 w _) rfl vw_LW_44 rfl rfl ⟨by decide, by decide⟩ rfl hl.1 rfl (Nat.le_of_ble_eq_true rfl) d_LW_415 (lw_cs h512)) (fun H locs hG => ?_)
  refine lv_aload_n hx hb d_LW_418 rfl (lv_at hl 2 rfl) ?_
  refine lv_aload_n hx hb d_LW_419 rfl (lv_at hl 0 rfl) ?_
  refine lv_iload_n hx hb d_LW_420 rfl (lv_at hl 3 rfl) ?_
  refine lv_iconst (v := 1) hx hb d_LW_421 (by decide) ?_
  refine lv_iadd hx hb d_LW_422 ?_
  refine va_sld hx hb hX hbl hbA hG.2.2.2.1 hk1 d_LW_423 ?_
  refine lv_aload_n hx hb d_LW_424 rfl (lv_at hl 0 rfl) ?_
  refine lv_iload_n hx hb d_LW_425 rfl (lv_at hl 3 rfl) ?_
  refine lv_iconst (v := 2) hx hb d_LW_426 (by decide) ?_
  refine lv_iadd hx hb d_LW_427 ?_
  refine va_sld hx hb hX hbl hbA hG.2.2.2.1 hk2 d_LW_428 ?_
  refine lv_aload_n hx hb d_LW_429 rfl (lv_at hl 0 rfl) ?_
  refine lv_iload_n hx hb d_LW_430 rfl (lv_at hl 3 rfl) ?_
  refine lv_iconst (v := 3) hx hb d_LW_431 (by decide) ?_
  refine lv_iadd hx hb d_LW_432 ?_
  refine va_sld hx hb hX hbl hbA hG.2.2.2.1 hk3 d_LW_433 ?_
  refine g_goi hG (g_runV (As := [.int (xs (x3 + 1).toNatClampNeg), .int (xs (x3 + 2).toNatClampNeg), .int (xs (x3 + 3).toNatClampNeg)]) (rest := [.int z1.1]) C hG (c_M_evening l w z1.2 (xs (x3 + 1).toNatClampNeg) (xs (x3 + 2).toNatClampNeg) (xs (x3 + 3).toNatClampNeg) h2 _) (hG.lt (Nat.le_of_ble_eq_true rfl)) (ce49 w _) rfl vw_LW_47 rfl rfl ⟨by decide, by decide⟩ rfl hl.1 rfl (Nat.le_of_ble_eq_true rfl) d_LW_434 (lw_cs h512)) (fun H locs hG => ?_)
  refine lv_icmp_eq (tgt := 1401) hx hb d_LW_437 (by decide) (fun hc => ?_) (fun hc => absurd he hc)
  refine W.widen (k := 73 + 2 * (i + 1)) (n := 7375 + 62 * (i + 1)) (by omega) (by omega) ?_
  exact K _ _ _ _ hI2 hG hl
set_option maxHeartbeats 4000000 in
set_option maxRecDepth 100000 in
theorem lc_8 (l : Launch) {p : Program} {e : Env} {s : State} {m : MethodId} {below : List Frame} {meth : Method} {c : Code} {b L : Nat} {xs : Nat → Int32} (C0 : lw_At p s m meth c b L xs) {i : Nat} {x3 : Int32} (ex3 : x3 = nI (6 * i)) (hi6 : 6 * i + 6 ≤ L) (hL : L ≤ 3072) {w : gw} {S : St} {H : Heap} {locs : List Loc} {ls : Array Slot} (hI : InvB w S i) (hG : GH w s (fun q : Nat => s.heap.size ≤ q) S H locs) (hl : lv_has ls 4 [(0, .ref b), (1, .ref (gad w 0)), (2, .ref (gad w 49)), (3, .int x3)]) (K : ∀ (w : gw) (S : St) (H : Heap) (locs : List Loc), InvB w S (i + 1) → GH w s (fun q : Nat => s.heap.size ≤ q) S H locs → lv_has ls 4 [(0, .ref b), (1, .ref (gad w 0)), (2, .ref (gad w 49)), (3, .int x3)] → W p l e room_1 s m #[Value.ref b] below meth c H locs (73 + 2 * (i + 1)) (7375 + 62 * (i + 1)) (lw_Z below #[Value.ref b] s) (F0 m 1401 ls [])) : W p l e room_1 s m #[Value.ref b] below meth c H locs (73 + 2 * i) (7375 + 62 * i) (lw_Z below #[Value.ref b] s) (F0 m 442 ls []) := by
  obtain ⟨hx, hb, hr, hml, hown, hts, hX, hbl, hlocks, hgv⟩ := id C0
  have C : gCx p s m #[Value.ref b] meth c R_law code 4 ret := ⟨hx, hb, hml, hown, g_tbl hts, hr, hlocks⟩
  have hbA : ¬ (fun q : Nat => s.heap.size ≤ q) b := Nat.not_le.mpr hbl
  have h512 : i < 512 := by omega
  have hk1 : vp_in (x3 + 1) L := by rw [ex3]; exact lw_in (k := 1) (by omega) hL
  have hk2 : vp_in (x3 + 2) L := by rw [ex3]; exact lw_in (k := 2) (by omega) hL
  obtain ⟨z1, z2, h1, h2, he, hI2⟩ := opB_set hI h512 (xs (x3 + 1).toNatClampNeg) (xs (x3 + 2).toNatClampNeg)
  refine lv_aload_n hx hb d_LW_442 rfl (lv_at hl 1 rfl) ?_
  refine lv_aload_n hx hb d_LW_443 rfl (lv_at hl 0 rfl) ?_
  refine lv_iload_n hx hb d_LW_444 rfl (lv_at hl 3 rfl) ?_
  refine lv_iconst (v := 1) hx hb d_LW_445 (by decide) ?_
  refine lv_iadd hx hb d_LW_446 ?_
  refine va_sld hx hb hX hbl hbA hG.2.2.2.1 hk1 d_LW_447 ?_
  refine lv_aload_n hx hb d_LW_448 rfl (lv_at hl 0 rfl) ?_
  refine lv_iload_n hx hb d_LW_449 rfl (lv_at hl 3 rfl) ?_
  refine lv_iconst (v := 2) hx hb d_LW_450 (by decide) ?_
  refine lv_iadd hx hb d_LW_451 ?_
  refine va_sld hx hb hX hbl hbA hG.2.2.2.1 hk2 d_LW_452 ?_
  refine g_goi hG (g_runV (As := [.int (xs (x3 + 1).toNatClampNeg), .int (xs (x3 + 2).toNatClampNeg)]) (rest := []) C hG (c_X_set l w S (xs (x3 + 1).toNatClampNeg) (xs (x3 + 2).toNatClampNeg) h1 _) (hG.lt (Nat.le_of_ble_eq_true rfl)) (ce0 w _) rfl vw_LW_48 rfl rfl ⟨by decide, by decide⟩ rfl hl.1 rfl (Nat.le_of_ble_eq_true rfl) d_LW_453 (lw_cs h512)) (fun H locs hG => ?_)
  refine lv_aload_n hx hb d_LW_456 rfl (lv_at hl 2 rfl) ?_
  refine lv_aload_n hx hb d_LW_457 rfl (lv_at hl 0 rfl) ?_
  refine lv_iload_n hx hb d_LW_458 rfl (lv_at hl 3 rfl) ?_
  refine lv_iconst (v := 1) hx hb d_LW_459 (by decide) ?_
  refine lv_iadd hx hb d_LW_460 ?_
  refine va_sld hx hb hX hbl hbA hG.2.2.2.1 hk1 d_LW_461 ?_
  refine lv_aload_n hx hb d_LW_462 rfl (lv_at hl 0 rfl) ?_
  refine lv_iload_n hx hb d_LW_463 rfl (lv_at hl 3 rfl) ?_
  refine lv_iconst (v := 2) hx hb d_LW_464 (by decide) ?_
  refine lv_iadd hx hb d_LW_465 ?_
  refine va_sld hx hb hX hbl hbA hG.2.2.2.1 hk2 d_LW_466 ?_
  refine g_goi hG (g_runV (As := [.int (xs (x3 + 1).toNatClampNeg), .int (xs (x3 + 2).toNatClampNeg)]) (rest := [.int z1.1]) C hG (c_M_set l w z1.2 (xs (x3 + 1).toNatClampNeg) (xs (x3 + 2).toNatClampNeg) h2 _) (hG.lt (Nat.le_of_ble_eq_true rfl)) (ce49 w _) rfl vw_LW_52 rfl rfl ⟨by decide, by decide⟩ rfl hl.1 rfl (Nat.le_of_ble_eq_true rfl) d_LW_467 (lw_cs h512)) (fun H locs hG => ?_)
  refine lv_icmp_eq (tgt := 1401) hx hb d_LW_470 (by decide) (fun hc => ?_) (fun hc => absurd he hc)
  refine W.widen (k := 73 + 2 * (i + 1)) (n := 7375 + 62 * (i + 1)) (by omega) (by omega) ?_
  exact K _ _ _ _ hI2 hG hl
set_option maxHeartbeats 4000000 in
set_option maxRecDepth 100000 in
theorem lc_9 (l : Launch) {p : Program} {e : Env} {s : State} {m : MethodId} {below : List Frame} {meth : Method} {c : Code} {b L : Nat} {xs : Nat → Int32} (C0 : lw_At p s m meth c b L xs) {i : Nat} {x3 : Int32} (ex3 : x3 = nI (6 * i)) (hi6 : 6 * i + 6 ≤ L) (hL : L ≤ 3072) {w : gw} {S : St} {H : Heap} {locs : List Loc} {ls : Array Slot} (hI : InvB w S i) (hG : GH w s (fun q : Nat => s.heap.size ≤ q) S H locs) (hl : lv_has ls 4 [(0, .ref b), (1, .ref (gad w 0)), (2, .ref (gad w 49)), (3, .int x3)]) (K : ∀ (w : gw) (S : St) (H : Heap) (locs : List Loc), InvB w S (i + 1) → GH w s (fun q : Nat => s.heap.size ≤ q) S H locs → lv_has ls 4 [(0, .ref b), (1, .ref (gad w 0)), (2, .ref (gad w 49)), (3, .int x3)] → W p l e room_1 s m #[Value.ref b] below meth c H locs (73 + 2 * (i + 1)) (7375 + 62 * (i + 1)) (lw_Z below #[Value.ref b] s) (F0 m 1401 ls [])) : W p l e room_1 s m #[Value.ref b] below meth c H locs (73 + 2 * i) (7375 + 62 * i) (lw_Z below #[Value.ref b] s) (F0 m 475 ls []) := by
  obtain ⟨hx, hb, hr, hml, hown, hts, hX, hbl, hlocks, hgv⟩ := id C0
  have C : gCx p s m #[Value.ref b] meth c R_law code 4 ret := ⟨hx, hb, hml, hown, g_tbl hts, hr, hlocks⟩
  have hbA : ¬ (fun q : Nat => s.heap.size ≤ q) b := Nat.not_le.mpr hbl
  have h512 : i < 512 := by omega
  have hk1 : vp_in (x3 + 1) L := by rw [ex3]; exact lw_in (k := 1) (by omega) hL
  have hk2 : vp_in (x3 + 2) L := by rw [ex3]; exact lw_in (k := 2) (by omega) hL
  have hk3 : vp_in (x3 + 3) L := by rw [ex3]; exact lw_in (k := 3) (by omega) hL
  obtain ⟨z1, z2, h1, h2, he, hI2⟩ := opB_busy hI h512 (xs (x3 + 1).toNatClampNeg) (xs (x3 + 2).toNatClampNeg) (xs (x3 + 3).toNatClampNeg)
  refine lv_aload_n hx hb d_LW_475 rfl (lv_at hl 1 rfl) ?_
  refine lv_aload_n hx hb d_LW_476 rfl (lv_at hl 0 rfl) ?_
  refine lv_iload_n hx hb d_LW_477 rfl (lv_at hl 3 rfl) ?_
  refine lv_iconst (v := 1) hx hb d_LW_478 (by decide) ?_
  refine lv_iadd hx hb d_LW_479 ?_
  refine va_sld hx hb hX hbl hbA hG.2.2.2.1 hk1 d_LW_480 ?_
  refine lv_aload_n hx hb d_LW_481 rfl (lv_at hl 0 rfl) ?_
  refine lv_iload_n hx hb d_LW_482 rfl (lv_at hl 3 rfl) ?_
  refine lv_iconst (v := 2) hx hb d_LW_483 (by decide) ?_
  refine lv_iadd hx hb d_LW_484 ?_
  refine va_sld hx hb hX hbl hbA hG.2.2.2.1 hk2 d_LW_485 ?_
  refine lv_aload_n hx hb d_LW_486 rfl (lv_at hl 0 rfl) ?_
  refine lv_iload_n hx hb d_LW_487 rfl (lv_at hl 3 rfl) ?_
  refine lv_iconst (v := 3) hx hb d_LW_488 (by decide) ?_
  refine lv_iadd hx hb d_LW_489 ?_
  refine va_sld hx hb hX hbl hbA hG.2.2.2.1 hk3 d_LW_490 ?_
  refine g_goi hG (g_runV (As := [.int (xs (x3 + 1).toNatClampNeg), .int (xs (x3 + 2).toNatClampNeg), .int (xs (x3 + 3).toNatClampNeg)]) (rest := []) C hG (c_X_busy l w S (xs (x3 + 1).toNatClampNeg) (xs (x3 + 2).toNatClampNeg) (xs (x3 + 3).toNatClampNeg) h1 _) (hG.lt (Nat.le_of_ble_eq_true rfl)) (ce0 w _) rfl vw_LW_53 rfl rfl ⟨by decide, by decide⟩ rfl hl.1 rfl (Nat.le_of_ble_eq_true rfl) d_LW_491 (lw_cs h512)) (fun H locs hG => ?_)
  refine lv_aload_n hx hb d_LW_494 rfl (lv_at hl 2 rfl) ?_
  refine lv_aload_n hx hb d_LW_495 rfl (lv_at hl 0 rfl) ?_
  refine lv_iload_n hx hb d_LW_496 rfl (lv_at hl 3 rfl) ?_
  refine lv_iconst (v := 1) hx hb d_LW_497 (by decide) ?_
  refine lv_iadd hx hb d_LW_498 ?_
  refine va_sld hx hb hX hbl hbA hG.2.2.2.1 hk1 d_LW_499 ?_
  refine lv_aload_n hx hb d_LW_500 rfl (lv_at hl 0 rfl) ?_
  refine lv_iload_n hx hb d_LW_501 rfl (lv_at hl 3 rfl) ?_
  refine lv_iconst (v := 2) hx hb d_LW_502 (by decide) ?_
  refine lv_iadd hx hb d_LW_503 ?_
  refine va_sld hx hb hX hbl hbA hG.2.2.2.1 hk2 d_LW_504 ?_
  refine lv_aload_n hx hb d_LW_505 rfl (lv_at hl 0 rfl) ?_
  refine lv_iload_n hx hb d_LW_506 rfl (lv_at hl 3 rfl) ?_
  refine lv_iconst (v := 3) hx hb d_LW_507 (by decide) ?_
  refine lv_iadd hx hb d_LW_508 ?_
  refine va_sld hx hb hX hbl hbA hG.2.2.2.1 hk3 d_LW_509 ?_
  refine g_goi hG (g_runV (As := [.int (xs (x3 + 1).toNatClampNeg), .int (xs (x3 + 2).toNatClampNeg), .int (xs (x3 + 3).toNatClampNeg)]) (rest := [.int z1.1]) C hG (c_M_busy l w z1.2 (xs (x3 + 1).toNatClampNeg) (xs (x3 + 2).toNatClampNeg) (xs (x3 + 3).toNatClampNeg) h2 _) (hG.lt (Nat.le_of_ble_eq_true rfl)) (ce49 w _) rfl vw_LW_56 rfl rfl ⟨by decide, by decide⟩ rfl hl.1 rfl (Nat.le_of_ble_eq_true rfl) d_LW_510 (lw_cs h512)) (fun H locs hG => ?_)
  refine lv_icmp_eq (tgt := 1401) hx hb d_LW_513 (by decide) (fun hc => ?_) (fun hc => absurd he hc)
  refine W.widen (k := 73 + 2 * (i + 1)) (n := 7375 + 62 * (i + 1)) (by omega) (by omega) ?_
  exact K _ _ _ _ hI2 hG hl
set_option maxHeartbeats 4000000 in
set_option maxRecDepth 100000 in
theorem lc_10 (l : Launch) {p : Program} {e : Env} {s : State} {m : MethodId} {below : List Frame} {meth : Method} {c : Code} {b L : Nat} {xs : Nat → Int32} (C0 : lw_At p s m meth c b L xs) {i : Nat} {x3 : Int32} (ex3 : x3 = nI (6 * i)) (hi6 : 6 * i + 6 ≤ L) (hL : L ≤ 3072) {w : gw} {S : St} {H : Heap} {locs : List Loc} {ls : Array Slot} (hI : InvB w S i) (hG : GH w s (fun q : Nat => s.heap.size ≤ q) S H locs) (hl : lv_has ls 4 [(0, .ref b), (1, .ref (gad w 0)), (2, .ref (gad w 49)), (3, .int x3)]) (K : ∀ (w : gw) (S : St) (H : Heap) (locs : List Loc), InvB w S (i + 1) → GH w s (fun q : Nat => s.heap.size ≤ q) S H locs → lv_has ls 4 [(0, .ref b), (1, .ref (gad w 0)), (2, .ref (gad w 49)), (3, .int x3)] → W p l e room_1 s m #[Value.ref b] below meth c H locs (73 + 2 * (i + 1)) (7375 + 62 * (i + 1)) (lw_Z below #[Value.ref b] s) (F0 m 1401 ls [])) : W p l e room_1 s m #[Value.ref b] below meth c H locs (73 + 2 * i) (7375 + 62 * i) (lw_Z below #[Value.ref b] s) (F0 m 518 ls []) := by
  obtain ⟨hx, hb, hr, hml, hown, hts, hX, hbl, hlocks, hgv⟩ := id C0
  have C : gCx p s m #[Value.ref b] meth c R_law code 4 ret := ⟨hx, hb, hml, hown, g_tbl hts, hr, hlocks⟩
  have hbA : ¬ (fun q : Nat => s.heap.size ≤ q) b := Nat.not_le.mpr hbl
  have h512 : i < 512 := by omega
  have hk1 : vp_in (x3 + 1) L := by rw [ex3]; exact lw_in (k := 1) (by omega) hL
  have hk2 : vp_in (x3 + 2) L := by rw [ex3]; exact lw_in (k := 2) (by omega) hL
  obtain ⟨z1, z2, h1, h2, he, hI2⟩ := opB_read hI h512 (xs (x3 + 1).toNatClampNeg) (xs (x3 + 2).toNatClampNeg)
  refine lv_aload_n hx hb d_LW_518 rfl (lv_at hl 1 rfl) ?_
  refine lv_aload_n hx hb d_LW_519 rfl (lv_at hl 0 rfl) ?_
  refine lv_iload_n hx hb d_LW_520 rfl (lv_at hl 3 rfl) ?_
  refine lv_iconst (v := 1) hx hb d_LW_521 (by decide) ?_
  refine lv_iadd hx hb d_LW_522 ?_
  refine va_sld hx hb hX hbl hbA hG.2.2.2.1 hk1 d_LW_523 ?_
  refine lv_aload_n hx hb d_LW_524 rfl (lv_at hl 0 rfl) ?_
  refine lv_iload_n hx hb d_LW_525 rfl (lv_at hl 3 rfl) ?_
  refine lv_iconst (v := 2) hx hb d_LW_526 (by decide) ?_
  refine lv_iadd hx hb d_LW_527 ?_
  refine va_sld hx hb hX hbl hbA hG.2.2.2.1 hk2 d_LW_528 ?_
  refine g_goi hG (g_runV (As := [.int (xs (x3 + 1).toNatClampNeg), .int (xs (x3 + 2).toNatClampNeg)]) (rest := []) C hG (c_X_read l w S (xs (x3 + 1).toNatClampNeg) (xs (x3 + 2).toNatClampNeg) h1 _) (hG.lt (Nat.le_of_ble_eq_true rfl)) (ce0 w _) rfl vw_LW_57 rfl rfl ⟨by decide, by decide⟩ rfl hl.1 rfl (Nat.le_of_ble_eq_true rfl) d_LW_529 (lw_cs h512)) (fun H locs hG => ?_)
  refine lv_aload_n hx hb d_LW_532 rfl (lv_at hl 2 rfl) ?_
  refine lv_aload_n hx hb d_LW_533 rfl (lv_at hl 0 rfl) ?_
  refine lv_iload_n hx hb d_LW_534 rfl (lv_at hl 3 rfl) ?_
  refine lv_iconst (v := 1) hx hb d_LW_535 (by decide) ?_
  refine lv_iadd hx hb d_LW_536 ?_
  refine va_sld hx hb hX hbl hbA hG.2.2.2.1 hk1 d_LW_537 ?_
  refine lv_aload_n hx hb d_LW_538 rfl (lv_at hl 0 rfl) ?_
  refine lv_iload_n hx hb d_LW_539 rfl (lv_at hl 3 rfl) ?_
  refine lv_iconst (v := 2) hx hb d_LW_540 (by decide) ?_
  refine lv_iadd hx hb d_LW_541 ?_
  refine va_sld hx hb hX hbl hbA hG.2.2.2.1 hk2 d_LW_542 ?_
  refine g_goi hG (g_runV (As := [.int (xs (x3 + 1).toNatClampNeg), .int (xs (x3 + 2).toNatClampNeg)]) (rest := [.int z1.1]) C hG (c_M_read l w z1.2 (xs (x3 + 1).toNatClampNeg) (xs (x3 + 2).toNatClampNeg) h2 _) (hG.lt (Nat.le_of_ble_eq_true rfl)) (ce49 w _) rfl vw_LW_60 rfl rfl ⟨by decide, by decide⟩ rfl hl.1 rfl (Nat.le_of_ble_eq_true rfl) d_LW_543 (lw_cs h512)) (fun H locs hG => ?_)
  refine lv_icmp_eq (tgt := 1401) hx hb d_LW_546 (by decide) (fun hc => ?_) (fun hc => absurd he hc)
  refine W.widen (k := 73 + 2 * (i + 1)) (n := 7375 + 62 * (i + 1)) (by omega) (by omega) ?_
  exact K _ _ _ _ hI2 hG hl
set_option maxHeartbeats 4000000 in
set_option maxRecDepth 100000 in
theorem lc_11 (l : Launch) {p : Program} {e : Env} {s : State} {m : MethodId} {below : List Frame} {meth : Method} {c : Code} {b L : Nat} {xs : Nat → Int32} (C0 : lw_At p s m meth c b L xs) {i : Nat} {x3 : Int32} (ex3 : x3 = nI (6 * i)) (hi6 : 6 * i + 6 ≤ L) (hL : L ≤ 3072) {w : gw} {S : St} {H : Heap} {locs : List Loc} {ls : Array Slot} (hI : InvB w S i) (hG : GH w s (fun q : Nat => s.heap.size ≤ q) S H locs) (hl : lv_has ls 4 [(0, .ref b), (1, .ref (gad w 0)), (2, .ref (gad w 49)), (3, .int x3)]) (K : ∀ (w : gw) (S : St) (H : Heap) (locs : List Loc), InvB w S (i + 1) → GH w s (fun q : Nat => s.heap.size ≤ q) S H locs → lv_has ls 4 [(0, .ref b), (1, .ref (gad w 0)), (2, .ref (gad w 49)), (3, .int x3)] → W p l e room_1 s m #[Value.ref b] below meth c H locs (73 + 2 * (i + 1)) (7375 + 62 * (i + 1)) (lw_Z below #[Value.ref b] s) (F0 m 1401 ls [])) : W p l e room_1 s m #[Value.ref b] below meth c H locs (73 + 2 * i) (7375 + 62 * i) (lw_Z below #[Value.ref b] s) (F0 m 551 ls []) := by
  obtain ⟨hx, hb, hr, hml, hown, hts, hX, hbl, hlocks, hgv⟩ := id C0
  have C : gCx p s m #[Value.ref b] meth c R_law code 4 ret := ⟨hx, hb, hml, hown, g_tbl hts, hr, hlocks⟩
  have hbA : ¬ (fun q : Nat => s.heap.size ≤ q) b := Nat.not_le.mpr hbl
  have h512 : i < 512 := by omega
  have hk1 : vp_in (x3 + 1) L := by rw [ex3]; exact lw_in (k := 1) (by omega) hL
  obtain ⟨z1, z2, h1, h2, he, hI2⟩ := opB_holds hI h512 (xs (x3 + 1).toNatClampNeg)
  refine lv_aload_n hx hb d_LW_551 rfl (lv_at hl 1 rfl) ?_
  refine lv_aload_n hx hb d_LW_552 rfl (lv_at hl 0 rfl) ?_
  refine lv_iload_n hx hb d_LW_553 rfl (lv_at hl 3 rfl) ?_
  refine lv_iconst (v := 1) hx hb d_LW_554 (by decide) ?_
  refine lv_iadd hx hb d_LW_555 ?_
  refine va_sld hx hb hX hbl hbA hG.2.2.2.1 hk1 d_LW_556 ?_
  refine g_goi hG (g_runV (As := [.int (xs (x3 + 1).toNatClampNeg)]) (rest := []) C hG (c_X_holds l w S (xs (x3 + 1).toNatClampNeg) h1 _) (hG.lt (Nat.le_of_ble_eq_true rfl)) (ce0 w _) rfl vw_LW_61 rfl rfl ⟨by decide, by decide⟩ rfl hl.1 rfl (Nat.le_of_ble_eq_true rfl) d_LW_557 (lw_cs h512)) (fun H locs hG => ?_)
  refine lv_aload_n hx hb d_LW_560 rfl (lv_at hl 2 rfl) ?_
  refine lv_aload_n hx hb d_LW_561 rfl (lv_at hl 0 rfl) ?_
  refine lv_iload_n hx hb d_LW_562 rfl (lv_at hl 3 rfl) ?_
  refine lv_iconst (v := 1) hx hb d_LW_563 (by decide) ?_
  refine lv_iadd hx hb d_LW_564 ?_
  refine va_sld hx hb hX hbl hbA hG.2.2.2.1 hk1 d_LW_565 ?_
  refine g_goi hG (g_runV (As := [.int (xs (x3 + 1).toNatClampNeg)]) (rest := [.int z1.1]) C hG (c_M_holds l w z1.2 (xs (x3 + 1).toNatClampNeg) h2 _) (hG.lt (Nat.le_of_ble_eq_true rfl)) (ce49 w _) rfl vw_LW_64 rfl rfl ⟨by decide, by decide⟩ rfl hl.1 rfl (Nat.le_of_ble_eq_true rfl) d_LW_566 (lw_cs h512)) (fun H locs hG => ?_)
  refine lv_icmp_eq (tgt := 1401) hx hb d_LW_569 (by decide) (fun hc => ?_) (fun hc => absurd he hc)
  refine W.widen (k := 73 + 2 * (i + 1)) (n := 7375 + 62 * (i + 1)) (by omega) (by omega) ?_
  exact K _ _ _ _ hI2 hG hl
set_option maxHeartbeats 4000000 in
set_option maxRecDepth 100000 in
theorem lc_12 (l : Launch) {p : Program} {e : Env} {s : State} {m : MethodId} {below : List Frame} {meth : Method} {c : Code} {b L : Nat} {xs : Nat → Int32} (C0 : lw_At p s m meth c b L xs) {i : Nat} {x3 : Int32} (ex3 : x3 = nI (6 * i)) (hi6 : 6 * i + 6 ≤ L) (hL : L ≤ 3072) {w : gw} {S : St} {H : Heap} {locs : List Loc} {ls : Array Slot} (hI : InvB w S i) (hG : GH w s (fun q : Nat => s.heap.size ≤ q) S H locs) (hl : lv_has ls 4 [(0, .ref b), (1, .ref (gad w 0)), (2, .ref (gad w 49)), (3, .int x3)]) (K : ∀ (w : gw) (S : St) (H : Heap) (locs : List Loc), InvB w S (i + 1) → GH w s (fun q : Nat => s.heap.size ≤ q) S H locs → lv_has ls 4 [(0, .ref b), (1, .ref (gad w 0)), (2, .ref (gad w 49)), (3, .int x3)] → W p l e room_1 s m #[Value.ref b] below meth c H locs (73 + 2 * (i + 1)) (7375 + 62 * (i + 1)) (lw_Z below #[Value.ref b] s) (F0 m 1401 ls [])) : W p l e room_1 s m #[Value.ref b] below meth c H locs (73 + 2 * i) (7375 + 62 * i) (lw_Z below #[Value.ref b] s) (F0 m 574 ls []) := by
  obtain ⟨hx, hb, hr, hml, hown, hts, hX, hbl, hlocks, hgv⟩ := id C0
  have C : gCx p s m #[Value.ref b] meth c R_law code 4 ret := ⟨hx, hb, hml, hown, g_tbl hts, hr, hlocks⟩
  have hbA : ¬ (fun q : Nat => s.heap.size ≤ q) b := Nat.not_le.mpr hbl
  have h512 : i < 512 := by omega
  obtain ⟨z1, z2, h1, h2, he, hI2⟩ := opB_judged hI h512 
  refine lv_aload_n hx hb d_LW_574 rfl (lv_at hl 1 rfl) ?_
  refine g_goi hG (g_runV (As := []) (rest := []) C hG (c_X_judged l w S  h1 _) (hG.lt (Nat.le_of_ble_eq_true rfl)) (ce0 w _) rfl vw_LW_65 rfl rfl ⟨by decide, by decide⟩ rfl hl.1 rfl (Nat.le_of_ble_eq_true rfl) d_LW_575 (lw_cs h512)) (fun H locs hG => ?_)
  refine lv_aload_n hx hb d_LW_578 rfl (lv_at hl 2 rfl) ?_
  refine g_goi hG (g_runV (As := []) (rest := [.int z1.1]) C hG (c_M_judged l w z1.2  h2 _) (hG.lt (Nat.le_of_ble_eq_true rfl)) (ce49 w _) rfl vw_LW_68 rfl rfl ⟨by decide, by decide⟩ rfl hl.1 rfl (Nat.le_of_ble_eq_true rfl) d_LW_579 (lw_cs h512)) (fun H locs hG => ?_)
  refine lv_icmp_eq (tgt := 1401) hx hb d_LW_582 (by decide) (fun hc => ?_) (fun hc => absurd he hc)
  refine W.widen (k := 73 + 2 * (i + 1)) (n := 7375 + 62 * (i + 1)) (by omega) (by omega) ?_
  exact K _ _ _ _ hI2 hG hl
set_option maxHeartbeats 4000000 in
set_option maxRecDepth 100000 in
theorem lc_13 (l : Launch) {p : Program} {e : Env} {s : State} {m : MethodId} {below : List Frame} {meth : Method} {c : Code} {b L : Nat} {xs : Nat → Int32} (C0 : lw_At p s m meth c b L xs) {i : Nat} {x3 : Int32} (ex3 : x3 = nI (6 * i)) (hi6 : 6 * i + 6 ≤ L) (hL : L ≤ 3072) {w : gw} {S : St} {H : Heap} {locs : List Loc} {ls : Array Slot} (hI : InvB w S i) (hG : GH w s (fun q : Nat => s.heap.size ≤ q) S H locs) (hl : lv_has ls 4 [(0, .ref b), (1, .ref (gad w 0)), (2, .ref (gad w 49)), (3, .int x3)]) (K : ∀ (w : gw) (S : St) (H : Heap) (locs : List Loc), InvB w S (i + 1) → GH w s (fun q : Nat => s.heap.size ≤ q) S H locs → lv_has ls 4 [(0, .ref b), (1, .ref (gad w 0)), (2, .ref (gad w 49)), (3, .int x3)] → W p l e room_1 s m #[Value.ref b] below meth c H locs (73 + 2 * (i + 1)) (7375 + 62 * (i + 1)) (lw_Z below #[Value.ref b] s) (F0 m 1401 ls [])) : W p l e room_1 s m #[Value.ref b] below meth c H locs (73 + 2 * i) (7375 + 62 * i) (lw_Z below #[Value.ref b] s) (F0 m 587 ls []) := by
  obtain ⟨hx, hb, hr, hml, hown, hts, hX, hbl, hlocks, hgv⟩ := id C0
  have C : gCx p s m #[Value.ref b] meth c R_law code 4 ret := ⟨hx, hb, hml, hown, g_tbl hts, hr, hlocks⟩
  have hbA : ¬ (fun q : Nat => s.heap.size ≤ q) b := Nat.not_le.mpr hbl
  have h512 : i < 512 := by omega
  have hk1 : vp_in (x3 + 1) L := by rw [ex3]; exact lw_in (k := 1) (by omega) hL
  obtain ⟨z1, z2, h1, h2, he, hI2⟩ := opB_owner hI h512 (xs (x3 + 1).toNatClampNeg)
  refine lv_aload_n hx hb d_LW_587 rfl (lv_at hl 1 rfl) ?_
  refine lv_aload_n hx hb d_LW_588 rfl (lv_at hl 0 rfl) ?_
  refine lv_iload_n hx hb d_LW_589 rfl (lv_at hl 3 rfl) ?_
  refine lv_iconst (v := 1) hx hb d_LW_590 (by decide) ?_
  refine lv_iadd hx hb d_LW_591 ?_
  refine va_sld hx hb hX hbl hbA hG.2.2.2.1 hk1 d_LW_592 ?_
  refine g_goi hG (g_runV (As := [.int (xs (x3 + 1).toNatClampNeg)]) (rest := []) C hG (c_X_owner l w S (xs (x3 + 1).toNatClampNeg) h1 _) (hG.lt (Nat.le_of_ble_eq_true rfl)) (ce0 w _) rfl vw_LW_69 rfl rfl ⟨by decide, by decide⟩ rfl hl.1 rfl (Nat.le_of_ble_eq_true rfl) d_LW_593 (lw_cs h512)) (fun H locs hG => ?_)
  refine lv_aload_n hx hb d_LW_596 rfl (lv_at hl 2 rfl) ?_
  refine lv_aload_n hx hb d_LW_597 rfl (lv_at hl 0 rfl) ?_
  refine lv_iload_n hx hb d_LW_598 rfl (lv_at hl 3 rfl) ?_
  refine lv_iconst (v := 1) hx hb d_LW_599 (by decide) ?_
  refine lv_iadd hx hb d_LW_600 ?_
  refine va_sld hx hb hX hbl hbA hG.2.2.2.1 hk1 d_LW_601 ?_
  refine g_goi hG (g_runV (As := [.int (xs (x3 + 1).toNatClampNeg)]) (rest := [.int z1.1]) C hG (c_M_owner l w z1.2 (xs (x3 + 1).toNatClampNeg) h2 _) (hG.lt (Nat.le_of_ble_eq_true rfl)) (ce49 w _) rfl vw_LW_72 rfl rfl ⟨by decide, by decide⟩ rfl hl.1 rfl (Nat.le_of_ble_eq_true rfl) d_LW_602 (lw_cs h512)) (fun H locs hG => ?_)
  refine lv_icmp_eq (tgt := 1401) hx hb d_LW_605 (by decide) (fun hc => ?_) (fun hc => absurd he hc)
  refine W.widen (k := 73 + 2 * (i + 1)) (n := 7375 + 62 * (i + 1)) (by omega) (by omega) ?_
  exact K _ _ _ _ hI2 hG hl
set_option maxHeartbeats 4000000 in
set_option maxRecDepth 100000 in
theorem lc_14 (l : Launch) {p : Program} {e : Env} {s : State} {m : MethodId} {below : List Frame} {meth : Method} {c : Code} {b L : Nat} {xs : Nat → Int32} (C0 : lw_At p s m meth c b L xs) {i : Nat} {x3 : Int32} (ex3 : x3 = nI (6 * i)) (hi6 : 6 * i + 6 ≤ L) (hL : L ≤ 3072) {w : gw} {S : St} {H : Heap} {locs : List Loc} {ls : Array Slot} (hI : InvB w S i) (hG : GH w s (fun q : Nat => s.heap.size ≤ q) S H locs) (hl : lv_has ls 4 [(0, .ref b), (1, .ref (gad w 0)), (2, .ref (gad w 49)), (3, .int x3)]) (K : ∀ (w : gw) (S : St) (H : Heap) (locs : List Loc), InvB w S (i + 1) → GH w s (fun q : Nat => s.heap.size ≤ q) S H locs → lv_has ls 4 [(0, .ref b), (1, .ref (gad w 0)), (2, .ref (gad w 49)), (3, .int x3)] → W p l e room_1 s m #[Value.ref b] below meth c H locs (73 + 2 * (i + 1)) (7375 + 62 * (i + 1)) (lw_Z below #[Value.ref b] s) (F0 m 1401 ls [])) : W p l e room_1 s m #[Value.ref b] below meth c H locs (73 + 2 * i) (7375 + 62 * i) (lw_Z below #[Value.ref b] s) (F0 m 610 ls []) := by
  obtain ⟨hx, hb, hr, hml, hown, hts, hX, hbl, hlocks, hgv⟩ := id C0
  have C : gCx p s m #[Value.ref b] meth c R_law code 4 ret := ⟨hx, hb, hml, hown, g_tbl hts, hr, hlocks⟩
  have hbA : ¬ (fun q : Nat => s.heap.size ≤ q) b := Nat.not_le.mpr hbl
  have h512 : i < 512 := by omega
  have hk1 : vp_in (x3 + 1) L := by rw [ex3]; exact lw_in (k := 1) (by omega) hL
  obtain ⟨z1, z2, h1, h2, he, hI2⟩ := opB_price hI h512 (xs (x3 + 1).toNatClampNeg)
  refine lv_aload_n hx hb d_LW_610 rfl (lv_at hl 1 rfl) ?_
  refine lv_aload_n hx hb d_LW_611 rfl (lv_at hl 0 rfl) ?_
  refine lv_iload_n hx hb d_LW_612 rfl (lv_at hl 3 rfl) ?_
  refine lv_iconst (v := 1) hx hb d_LW_613 (by decide) ?_
  refine lv_iadd hx hb d_LW_614 ?_
  refine va_sld hx hb hX hbl hbA hG.2.2.2.1 hk1 d_LW_615 ?_
  refine g_goi hG (g_runV (As := [.int (xs (x3 + 1).toNatClampNeg)]) (rest := []) C hG (c_X_price l w S (xs (x3 + 1).toNatClampNeg) h1 _) (hG.lt (Nat.le_of_ble_eq_true rfl)) (ce0 w _) rfl vw_LW_73 rfl rfl ⟨by decide, by decide⟩ rfl hl.1 rfl (Nat.le_of_ble_eq_true rfl) d_LW_616 (lw_cs h512)) (fun H locs hG => ?_)
  refine lv_aload_n hx hb d_LW_619 rfl (lv_at hl 2 rfl) ?_
  refine lv_aload_n hx hb d_LW_620 rfl (lv_at hl 0 rfl) ?_
  refine lv_iload_n hx hb d_LW_621 rfl (lv_at hl 3 rfl) ?_
  refine lv_iconst (v := 1) hx hb d_LW_622 (by decide) ?_
  refine lv_iadd hx hb d_LW_623 ?_
  refine va_sld hx hb hX hbl hbA hG.2.2.2.1 hk1 d_LW_624 ?_
  refine g_goi hG (g_runV (As := [.int (xs (x3 + 1).toNatClampNeg)]) (rest := [.int z1.1]) C hG (c_M_price l w z1.2 (xs (x3 + 1).toNatClampNeg) h2 _) (hG.lt (Nat.le_of_ble_eq_true rfl)) (ce49 w _) rfl vw_LW_76 rfl rfl ⟨by decide, by decide⟩ rfl hl.1 rfl (Nat.le_of_ble_eq_true rfl) d_LW_625 (lw_cs h512)) (fun H locs hG => ?_)
  refine lv_icmp_eq (tgt := 1401) hx hb d_LW_628 (by decide) (fun hc => ?_) (fun hc => absurd he hc)
  refine W.widen (k := 73 + 2 * (i + 1)) (n := 7375 + 62 * (i + 1)) (by omega) (by omega) ?_
  exact K _ _ _ _ hI2 hG hl
set_option maxHeartbeats 4000000 in
set_option maxRecDepth 100000 in
theorem lc_15 (l : Launch) {p : Program} {e : Env} {s : State} {m : MethodId} {below : List Frame} {meth : Method} {c : Code} {b L : Nat} {xs : Nat → Int32} (C0 : lw_At p s m meth c b L xs) {i : Nat} {x3 : Int32} (ex3 : x3 = nI (6 * i)) (hi6 : 6 * i + 6 ≤ L) (hL : L ≤ 3072) {w : gw} {S : St} {H : Heap} {locs : List Loc} {ls : Array Slot} (hI : InvB w S i) (hG : GH w s (fun q : Nat => s.heap.size ≤ q) S H locs) (hl : lv_has ls 4 [(0, .ref b), (1, .ref (gad w 0)), (2, .ref (gad w 49)), (3, .int x3)]) (K : ∀ (w : gw) (S : St) (H : Heap) (locs : List Loc), InvB w S (i + 1) → GH w s (fun q : Nat => s.heap.size ≤ q) S H locs → lv_has ls 4 [(0, .ref b), (1, .ref (gad w 0)), (2, .ref (gad w 49)), (3, .int x3)] → W p l e room_1 s m #[Value.ref b] below meth c H locs (73 + 2 * (i + 1)) (7375 + 62 * (i + 1)) (lw_Z below #[Value.ref b] s) (F0 m 1401 ls [])) : W p l e room_1 s m #[Value.ref b] below meth c H locs (73 + 2 * i) (7375 + 62 * i) (lw_Z below #[Value.ref b] s) (F0 m 633 ls []) := by
  obtain ⟨hx, hb, hr, hml, hown, hts, hX, hbl, hlocks, hgv⟩ := id C0
  have C : gCx p s m #[Value.ref b] meth c R_law code 4 ret := ⟨hx, hb, hml, hown, g_tbl hts, hr, hlocks⟩
  have hbA : ¬ (fun q : Nat => s.heap.size ≤ q) b := Nat.not_le.mpr hbl
  have h512 : i < 512 := by omega
  have hk1 : vp_in (x3 + 1) L := by rw [ex3]; exact lw_in (k := 1) (by omega) hL
  have hk2 : vp_in (x3 + 2) L := by rw [ex3]; exact lw_in (k := 2) (by omega) hL
  obtain ⟨z1, z2, h1, h2, he, hI2⟩ := opB_has hI h512 (xs (x3 + 1).toNatClampNeg) (xs (x3 + 2).toNatClampNeg)
  refine lv_aload_n hx hb d_LW_633 rfl (lv_at hl 1 rfl) ?_
  refine lv_aload_n hx hb d_LW_634 rfl (lv_at hl 0 rfl) ?_
  refine lv_iload_n hx hb d_LW_635 rfl (lv_at hl 3 rfl) ?_
  refine lv_iconst (v := 1) hx hb d_LW_636 (by decide) ?_
  refine lv_iadd hx hb d_LW_637 ?_
  refine va_sld hx hb hX hbl hbA hG.2.2.2.1 hk1 d_LW_638 ?_
  refine lv_aload_n hx hb d_LW_639 rfl (lv_at hl 0 rfl) ?_
  refine lv_iload_n hx hb d_LW_640 rfl (lv_at hl 3 rfl) ?_
  refine lv_iconst (v := 2) hx hb d_LW_641 (by decide) ?_
  refine lv_iadd hx hb d_LW_642 ?_
  refine va_sld hx hb hX hbl hbA hG.2.2.2.1 hk2 d_LW_643 ?_
  refine g_goi hG (g_runV (As := [.int (xs (x3 + 1).toNatClampNeg), .int (xs (x3 + 2).toNatClampNeg)]) (rest := []) C hG (c_X_has l w S (xs (x3 + 1).toNatClampNeg) (xs (x3 + 2).toNatClampNeg) h1 _) (hG.lt (Nat.le_of_ble_eq_true rfl)) (ce0 w _) rfl vw_LW_77 rfl rfl ⟨by decide, by decide⟩ rfl hl.1 rfl (Nat.le_of_ble_eq_true rfl) d_LW_644 (lw_cs h512)) (fun H locs hG => ?_)
  refine lv_aload_n hx hb d_LW_647 rfl (lv_at hl 2 rfl) ?_
  refine lv_aload_n hx hb d_LW_648 rfl (lv_at hl 0 rfl) ?_
  refine lv_iload_n hx hb d_LW_649 rfl (lv_at hl 3 rfl) ?_
  refine lv_iconst (v := 1) hx hb d_LW_650 (by decide) ?_
  refine lv_iadd hx hb d_LW_651 ?_
  refine va_sld hx hb hX hbl hbA hG.2.2.2.1 hk1 d_LW_652 ?_
  refine lv_aload_n hx hb d_LW_653 rfl (lv_at hl 0 rfl) ?_
  refine lv_iload_n hx hb d_LW_654 rfl (lv_at hl 3 rfl) ?_
  refine lv_iconst (v := 2) hx hb d_LW_655 (by decide) ?_
  refine lv_iadd hx hb d_LW_656 ?_
  refine va_sld hx hb hX hbl hbA hG.2.2.2.1 hk2 d_LW_657 ?_
  refine g_goi hG (g_runV (As := [.int (xs (x3 + 1).toNatClampNeg), .int (xs (x3 + 2).toNatClampNeg)]) (rest := [.int z1.1]) C hG (c_M_has l w z1.2 (xs (x3 + 1).toNatClampNeg) (xs (x3 + 2).toNatClampNeg) h2 _) (hG.lt (Nat.le_of_ble_eq_true rfl)) (ce49 w _) rfl vw_LW_80 rfl rfl ⟨by decide, by decide⟩ rfl hl.1 rfl (Nat.le_of_ble_eq_true rfl) d_LW_658 (lw_cs h512)) (fun H locs hG => ?_)
  refine lv_icmp_eq (tgt := 1401) hx hb d_LW_661 (by decide) (fun hc => ?_) (fun hc => absurd he hc)
  refine W.widen (k := 73 + 2 * (i + 1)) (n := 7375 + 62 * (i + 1)) (by omega) (by omega) ?_
  exact K _ _ _ _ hI2 hG hl
set_option maxHeartbeats 4000000 in
set_option maxRecDepth 100000 in
theorem lc_16 (l : Launch) {p : Program} {e : Env} {s : State} {m : MethodId} {below : List Frame} {meth : Method} {c : Code} {b L : Nat} {xs : Nat → Int32} (C0 : lw_At p s m meth c b L xs) {i : Nat} {x3 : Int32} (ex3 : x3 = nI (6 * i)) (hi6 : 6 * i + 6 ≤ L) (hL : L ≤ 3072) {w : gw} {S : St} {H : Heap} {locs : List Loc} {ls : Array Slot} (hI : InvB w S i) (hG : GH w s (fun q : Nat => s.heap.size ≤ q) S H locs) (hl : lv_has ls 4 [(0, .ref b), (1, .ref (gad w 0)), (2, .ref (gad w 49)), (3, .int x3)]) (K : ∀ (w : gw) (S : St) (H : Heap) (locs : List Loc), InvB w S (i + 1) → GH w s (fun q : Nat => s.heap.size ≤ q) S H locs → lv_has ls 4 [(0, .ref b), (1, .ref (gad w 0)), (2, .ref (gad w 49)), (3, .int x3)] → W p l e room_1 s m #[Value.ref b] below meth c H locs (73 + 2 * (i + 1)) (7375 + 62 * (i + 1)) (lw_Z below #[Value.ref b] s) (F0 m 1401 ls [])) : W p l e room_1 s m #[Value.ref b] below meth c H locs (73 + 2 * i) (7375 + 62 * i) (lw_Z below #[Value.ref b] s) (F0 m 666 ls []) := by
  obtain ⟨hx, hb, hr, hml, hown, hts, hX, hbl, hlocks, hgv⟩ := id C0
  have C : gCx p s m #[Value.ref b] meth c R_law code 4 ret := ⟨hx, hb, hml, hown, g_tbl hts, hr, hlocks⟩
  have hbA : ¬ (fun q : Nat => s.heap.size ≤ q) b := Nat.not_le.mpr hbl
  have h512 : i < 512 := by omega
  have hk1 : vp_in (x3 + 1) L := by rw [ex3]; exact lw_in (k := 1) (by omega) hL
  obtain ⟨z1, z2, h1, h2, he, hI2⟩ := opB_happy hI h512 (xs (x3 + 1).toNatClampNeg)
  refine lv_aload_n hx hb d_LW_666 rfl (lv_at hl 1 rfl) ?_
  refine lv_aload_n hx hb d_LW_667 rfl (lv_at hl 0 rfl) ?_
  refine lv_iload_n hx hb d_LW_668 rfl (lv_at hl 3 rfl) ?_
  refine lv_iconst (v := 1) hx hb d_LW_669 (by decide) ?_
  refine lv_iadd hx hb d_LW_670 ?_
  refine va_sld hx hb hX hbl hbA hG.2.2.2.1 hk1 d_LW_671 ?_
  refine g_goi hG (g_runV (As := [.int (xs (x3 + 1).toNatClampNeg)]) (rest := []) C hG (c_X_happy l w S (xs (x3 + 1).toNatClampNeg) h1 _) (hG.lt (Nat.le_of_ble_eq_true rfl)) (ce0 w _) rfl vw_LW_81 rfl rfl ⟨by decide, by decide⟩ rfl hl.1 rfl (Nat.le_of_ble_eq_true rfl) d_LW_672 (lw_cs h512)) (fun H locs hG => ?_)
  refine lv_aload_n hx hb d_LW_675 rfl (lv_at hl 2 rfl) ?_
  refine lv_aload_n hx hb d_LW_676 rfl (lv_at hl 0 rfl) ?_
  refine lv_iload_n hx hb d_LW_677 rfl (lv_at hl 3 rfl) ?_
  refine lv_iconst (v := 1) hx hb d_LW_678 (by decide) ?_
  refine lv_iadd hx hb d_LW_679 ?_
  refine va_sld hx hb hX hbl hbA hG.2.2.2.1 hk1 d_LW_680 ?_
  refine g_goi hG (g_runV (As := [.int (xs (x3 + 1).toNatClampNeg)]) (rest := [.int z1.1]) C hG (c_M_happy l w z1.2 (xs (x3 + 1).toNatClampNeg) h2 _) (hG.lt (Nat.le_of_ble_eq_true rfl)) (ce49 w _) rfl vw_LW_84 rfl rfl ⟨by decide, by decide⟩ rfl hl.1 rfl (Nat.le_of_ble_eq_true rfl) d_LW_681 (lw_cs h512)) (fun H locs hG => ?_)
  refine lv_icmp_eq (tgt := 1401) hx hb d_LW_684 (by decide) (fun hc => ?_) (fun hc => absurd he hc)
  refine W.widen (k := 73 + 2 * (i + 1)) (n := 7375 + 62 * (i + 1)) (by omega) (by omega) ?_
  exact K _ _ _ _ hI2 hG hl
set_option maxHeartbeats 4000000 in
set_option maxRecDepth 100000 in
theorem lc_17 (l : Launch) {p : Program} {e : Env} {s : State} {m : MethodId} {below : List Frame} {meth : Method} {c : Code} {b L : Nat} {xs : Nat → Int32} (C0 : lw_At p s m meth c b L xs) {i : Nat} {x3 : Int32} (ex3 : x3 = nI (6 * i)) (hi6 : 6 * i + 6 ≤ L) (hL : L ≤ 3072) {w : gw} {S : St} {H : Heap} {locs : List Loc} {ls : Array Slot} (hI : InvB w S i) (hG : GH w s (fun q : Nat => s.heap.size ≤ q) S H locs) (hl : lv_has ls 4 [(0, .ref b), (1, .ref (gad w 0)), (2, .ref (gad w 49)), (3, .int x3)]) (K : ∀ (w : gw) (S : St) (H : Heap) (locs : List Loc), InvB w S (i + 1) → GH w s (fun q : Nat => s.heap.size ≤ q) S H locs → lv_has ls 4 [(0, .ref b), (1, .ref (gad w 0)), (2, .ref (gad w 49)), (3, .int x3)] → W p l e room_1 s m #[Value.ref b] below meth c H locs (73 + 2 * (i + 1)) (7375 + 62 * (i + 1)) (lw_Z below #[Value.ref b] s) (F0 m 1401 ls [])) : W p l e room_1 s m #[Value.ref b] below meth c H locs (73 + 2 * i) (7375 + 62 * i) (lw_Z below #[Value.ref b] s) (F0 m 689 ls []) := by
  obtain ⟨hx, hb, hr, hml, hown, hts, hX, hbl, hlocks, hgv⟩ := id C0
  have C : gCx p s m #[Value.ref b] meth c R_law code 4 ret := ⟨hx, hb, hml, hown, g_tbl hts, hr, hlocks⟩
  have hbA : ¬ (fun q : Nat => s.heap.size ≤ q) b := Nat.not_le.mpr hbl
  have h512 : i < 512 := by omega
  have hk1 : vp_in (x3 + 1) L := by rw [ex3]; exact lw_in (k := 1) (by omega) hL
  have hk2 : vp_in (x3 + 2) L := by rw [ex3]; exact lw_in (k := 2) (by omega) hL
  obtain ⟨z1, z2, h1, h2, he, hI2⟩ := opB_wet hI h512 (xs (x3 + 1).toNatClampNeg) (xs (x3 + 2).toNatClampNeg)
  refine lv_aload_n hx hb d_LW_689 rfl (lv_at hl 1 rfl) ?_
  refine lv_aload_n hx hb d_LW_690 rfl (lv_at hl 0 rfl) ?_
  refine lv_iload_n hx hb d_LW_691 rfl (lv_at hl 3 rfl) ?_
  refine lv_iconst (v := 1) hx hb d_LW_692 (by decide) ?_
  refine lv_iadd hx hb d_LW_693 ?_
  refine va_sld hx hb hX hbl hbA hG.2.2.2.1 hk1 d_LW_694 ?_
  refine lv_aload_n hx hb d_LW_695 rfl (lv_at hl 0 rfl) ?_
  refine lv_iload_n hx hb d_LW_696 rfl (lv_at hl 3 rfl) ?_
  refine lv_iconst (v := 2) hx hb d_LW_697 (by decide) ?_
  refine lv_iadd hx hb d_LW_698 ?_
  refine va_sld hx hb hX hbl hbA hG.2.2.2.1 hk2 d_LW_699 ?_
  refine g_goi hG (g_runV (As := [.int (xs (x3 + 1).toNatClampNeg), .int (xs (x3 + 2).toNatClampNeg)]) (rest := []) C hG (c_X_wet l w S (xs (x3 + 1).toNatClampNeg) (xs (x3 + 2).toNatClampNeg) h1 _) (hG.lt (Nat.le_of_ble_eq_true rfl)) (ce0 w _) rfl vw_LW_85 rfl rfl ⟨by decide, by decide⟩ rfl hl.1 rfl (Nat.le_of_ble_eq_true rfl) d_LW_700 (lw_cs h512)) (fun H locs hG => ?_)
  refine lv_aload_n hx hb d_LW_703 rfl (lv_at hl 2 rfl) ?_
  refine lv_aload_n hx hb d_LW_704 rfl (lv_at hl 0 rfl) ?_
  refine lv_iload_n hx hb d_LW_705 rfl (lv_at hl 3 rfl) ?_
  refine lv_iconst (v := 1) hx hb d_LW_706 (by decide) ?_
  refine lv_iadd hx hb d_LW_707 ?_
  refine va_sld hx hb hX hbl hbA hG.2.2.2.1 hk1 d_LW_708 ?_
  refine lv_aload_n hx hb d_LW_709 rfl (lv_at hl 0 rfl) ?_
  refine lv_iload_n hx hb d_LW_710 rfl (lv_at hl 3 rfl) ?_
  refine lv_iconst (v := 2) hx hb d_LW_711 (by decide) ?_
  refine lv_iadd hx hb d_LW_712 ?_
  refine va_sld hx hb hX hbl hbA hG.2.2.2.1 hk2 d_LW_713 ?_
  refine g_goi hG (g_runV (As := [.int (xs (x3 + 1).toNatClampNeg), .int (xs (x3 + 2).toNatClampNeg)]) (rest := [.int z1.1]) C hG (c_M_wet l w z1.2 (xs (x3 + 1).toNatClampNeg) (xs (x3 + 2).toNatClampNeg) h2 _) (hG.lt (Nat.le_of_ble_eq_true rfl)) (ce49 w _) rfl vw_LW_88 rfl rfl ⟨by decide, by decide⟩ rfl hl.1 rfl (Nat.le_of_ble_eq_true rfl) d_LW_714 (lw_cs h512)) (fun H locs hG => ?_)
  refine lv_icmp_eq (tgt := 1401) hx hb d_LW_717 (by decide) (fun hc => ?_) (fun hc => absurd he hc)
  refine W.widen (k := 73 + 2 * (i + 1)) (n := 7375 + 62 * (i + 1)) (by omega) (by omega) ?_
  exact K _ _ _ _ hI2 hG hl
set_option maxHeartbeats 4000000 in
set_option maxRecDepth 100000 in
theorem lc_18 (l : Launch) {p : Program} {e : Env} {s : State} {m : MethodId} {below : List Frame} {meth : Method} {c : Code} {b L : Nat} {xs : Nat → Int32} (C0 : lw_At p s m meth c b L xs) {i : Nat} {x3 : Int32} (ex3 : x3 = nI (6 * i)) (hi6 : 6 * i + 6 ≤ L) (hL : L ≤ 3072) {w : gw} {S : St} {H : Heap} {locs : List Loc} {ls : Array Slot} (hI : InvB w S i) (hG : GH w s (fun q : Nat => s.heap.size ≤ q) S H locs) (hl : lv_has ls 4 [(0, .ref b), (1, .ref (gad w 0)), (2, .ref (gad w 49)), (3, .int x3)]) (K : ∀ (w : gw) (S : St) (H : Heap) (locs : List Loc), InvB w S (i + 1) → GH w s (fun q : Nat => s.heap.size ≤ q) S H locs → lv_has ls 4 [(0, .ref b), (1, .ref (gad w 0)), (2, .ref (gad w 49)), (3, .int x3)] → W p l e room_1 s m #[Value.ref b] below meth c H locs (73 + 2 * (i + 1)) (7375 + 62 * (i + 1)) (lw_Z below #[Value.ref b] s) (F0 m 1401 ls [])) : W p l e room_1 s m #[Value.ref b] below meth c H locs (73 + 2 * i) (7375 + 62 * i) (lw_Z below #[Value.ref b] s) (F0 m 722 ls []) := by
  obtain ⟨hx, hb, hr, hml, hown, hts, hX, hbl, hlocks, hgv⟩ := id C0
  have C : gCx p s m #[Value.ref b] meth c R_law code 4 ret := ⟨hx, hb, hml, hown, g_tbl hts, hr, hlocks⟩
  have hbA : ¬ (fun q : Nat => s.heap.size ≤ q) b := Nat.not_le.mpr hbl
  have h512 : i < 512 := by omega
  have hk1 : vp_in (x3 + 1) L := by rw [ex3]; exact lw_in (k := 1) (by omega) hL
  obtain ⟨z1, z2, h1, h2, he, hI2⟩ := opB_harm hI h512 (xs (x3 + 1).toNatClampNeg)
  refine lv_aload_n hx hb d_LW_722 rfl (lv_at hl 1 rfl) ?_
  refine lv_aload_n hx hb d_LW_723 rfl (lv_at hl 0 rfl) ?_
  refine lv_iload_n hx hb d_LW_724 rfl (lv_at hl 3 rfl) ?_
  refine lv_iconst (v := 1) hx hb d_LW_725 (by decide) ?_
  refine lv_iadd hx hb d_LW_726 ?_
  refine va_sld hx hb hX hbl hbA hG.2.2.2.1 hk1 d_LW_727 ?_
  refine g_goi hG (g_runV (As := [.int (xs (x3 + 1).toNatClampNeg)]) (rest := []) C hG (c_X_harm l w S (xs (x3 + 1).toNatClampNeg) h1 _) (hG.lt (Nat.le_of_ble_eq_true rfl)) (ce0 w _) rfl vw_LW_89 rfl rfl ⟨by decide, by decide⟩ rfl hl.1 rfl (Nat.le_of_ble_eq_true rfl) d_LW_728 (lw_cs h512)) (fun H locs hG => ?_)
  refine lv_aload_n hx hb d_LW_731 rfl (lv_at hl 2 rfl) ?_
  refine lv_aload_n hx hb d_LW_732 rfl (lv_at hl 0 rfl) ?_
  refine lv_iload_n hx hb d_LW_733 rfl (lv_at hl 3 rfl) ?_
  refine lv_iconst (v := 1) hx hb d_LW_734 (by decide) ?_
  refine lv_iadd hx hb d_LW_735 ?_
  refine va_sld hx hb hX hbl hbA hG.2.2.2.1 hk1 d_LW_736 ?_
  refine g_goi hG (g_runV (As := [.int (xs (x3 + 1).toNatClampNeg)]) (rest := [.int z1.1]) C hG (c_M_harm l w z1.2 (xs (x3 + 1).toNatClampNeg) h2 _) (hG.lt (Nat.le_of_ble_eq_true rfl)) (ce49 w _) rfl vw_LW_92 rfl rfl ⟨by decide, by decide⟩ rfl hl.1 rfl (Nat.le_of_ble_eq_true rfl) d_LW_737 (lw_cs h512)) (fun H locs hG => ?_)
  refine lv_icmp_eq (tgt := 1401) hx hb d_LW_740 (by decide) (fun hc => ?_) (fun hc => absurd he hc)
  refine W.widen (k := 73 + 2 * (i + 1)) (n := 7375 + 62 * (i + 1)) (by omega) (by omega) ?_
  exact K _ _ _ _ hI2 hG hl
set_option maxHeartbeats 4000000 in
set_option maxRecDepth 100000 in
theorem lc_19 (l : Launch) {p : Program} {e : Env} {s : State} {m : MethodId} {below : List Frame} {meth : Method} {c : Code} {b L : Nat} {xs : Nat → Int32} (C0 : lw_At p s m meth c b L xs) {i : Nat} {x3 : Int32} (ex3 : x3 = nI (6 * i)) (hi6 : 6 * i + 6 ≤ L) (hL : L ≤ 3072) {w : gw} {S : St} {H : Heap} {locs : List Loc} {ls : Array Slot} (hI : InvB w S i) (hG : GH w s (fun q : Nat => s.heap.size ≤ q) S H locs) (hl : lv_has ls 4 [(0, .ref b), (1, .ref (gad w 0)), (2, .ref (gad w 49)), (3, .int x3)]) (K : ∀ (w : gw) (S : St) (H : Heap) (locs : List Loc), InvB w S (i + 1) → GH w s (fun q : Nat => s.heap.size ≤ q) S H locs → lv_has ls 4 [(0, .ref b), (1, .ref (gad w 0)), (2, .ref (gad w 49)), (3, .int x3)] → W p l e room_1 s m #[Value.ref b] below meth c H locs (73 + 2 * (i + 1)) (7375 + 62 * (i + 1)) (lw_Z below #[Value.ref b] s) (F0 m 1401 ls [])) : W p l e room_1 s m #[Value.ref b] below meth c H locs (73 + 2 * i) (7375 + 62 * i) (lw_Z below #[Value.ref b] s) (F0 m 745 ls []) := by
  obtain ⟨hx, hb, hr, hml, hown, hts, hX, hbl, hlocks, hgv⟩ := id C0
  have C : gCx p s m #[Value.ref b] meth c R_law code 4 ret := ⟨hx, hb, hml, hown, g_tbl hts, hr, hlocks⟩
  have hbA : ¬ (fun q : Nat => s.heap.size ≤ q) b := Nat.not_le.mpr hbl
  have h512 : i < 512 := by omega
  have hk1 : vp_in (x3 + 1) L := by rw [ex3]; exact lw_in (k := 1) (by omega) hL
  obtain ⟨z1, z2, h1, h2, he, hI2⟩ := opB_gain hI h512 (xs (x3 + 1).toNatClampNeg)
  refine lv_aload_n hx hb d_LW_745 rfl (lv_at hl 1 rfl) ?_
  refine lv_aload_n hx hb d_LW_746 rfl (lv_at hl 0 rfl) ?_
  refine lv_iload_n hx hb d_LW_747 rfl (lv_at hl 3 rfl) ?_
  refine lv_iconst (v := 1) hx hb d_LW_748 (by decide) ?_
  refine lv_iadd hx hb d_LW_749 ?_
  refine va_sld hx hb hX hbl hbA hG.2.2.2.1 hk1 d_LW_750 ?_
  refine g_goi hG (g_runV (As := [.int (xs (x3 + 1).toNatClampNeg)]) (rest := []) C hG (c_X_gain l w S (xs (x3 + 1).toNatClampNeg) h1 _) (hG.lt (Nat.le_of_ble_eq_true rfl)) (ce0 w _) rfl vw_LW_93 rfl rfl ⟨by decide, by decide⟩ rfl hl.1 rfl (Nat.le_of_ble_eq_true rfl) d_LW_751 (lw_cs h512)) (fun H locs hG => ?_)
  refine lv_aload_n hx hb d_LW_754 rfl (lv_at hl 2 rfl) ?_
  refine lv_aload_n hx hb d_LW_755 rfl (lv_at hl 0 rfl) ?_
  refine lv_iload_n hx hb d_LW_756 rfl (lv_at hl 3 rfl) ?_
  refine lv_iconst (v := 1) hx hb d_LW_757 (by decide) ?_
  refine lv_iadd hx hb d_LW_758 ?_
  refine va_sld hx hb hX hbl hbA hG.2.2.2.1 hk1 d_LW_759 ?_
  refine g_goi hG (g_runV (As := [.int (xs (x3 + 1).toNatClampNeg)]) (rest := [.int z1.1]) C hG (c_M_gain l w z1.2 (xs (x3 + 1).toNatClampNeg) h2 _) (hG.lt (Nat.le_of_ble_eq_true rfl)) (ce49 w _) rfl vw_LW_96 rfl rfl ⟨by decide, by decide⟩ rfl hl.1 rfl (Nat.le_of_ble_eq_true rfl) d_LW_760 (lw_cs h512)) (fun H locs hG => ?_)
  refine lv_icmp_eq (tgt := 1401) hx hb d_LW_763 (by decide) (fun hc => ?_) (fun hc => absurd he hc)
  refine W.widen (k := 73 + 2 * (i + 1)) (n := 7375 + 62 * (i + 1)) (by omega) (by omega) ?_
  exact K _ _ _ _ hI2 hG hl
set_option maxHeartbeats 4000000 in
set_option maxRecDepth 100000 in
theorem lc_20 (l : Launch) {p : Program} {e : Env} {s : State} {m : MethodId} {below : List Frame} {meth : Method} {c : Code} {b L : Nat} {xs : Nat → Int32} (C0 : lw_At p s m meth c b L xs) {i : Nat} {x3 : Int32} (ex3 : x3 = nI (6 * i)) (hi6 : 6 * i + 6 ≤ L) (hL : L ≤ 3072) {w : gw} {S : St} {H : Heap} {locs : List Loc} {ls : Array Slot} (hI : InvB w S i) (hG : GH w s (fun q : Nat => s.heap.size ≤ q) S H locs) (hl : lv_has ls 4 [(0, .ref b), (1, .ref (gad w 0)), (2, .ref (gad w 49)), (3, .int x3)]) (K : ∀ (w : gw) (S : St) (H : Heap) (locs : List Loc), InvB w S (i + 1) → GH w s (fun q : Nat => s.heap.size ≤ q) S H locs → lv_has ls 4 [(0, .ref b), (1, .ref (gad w 0)), (2, .ref (gad w 49)), (3, .int x3)] → W p l e room_1 s m #[Value.ref b] below meth c H locs (73 + 2 * (i + 1)) (7375 + 62 * (i + 1)) (lw_Z below #[Value.ref b] s) (F0 m 1401 ls [])) : W p l e room_1 s m #[Value.ref b] below meth c H locs (73 + 2 * i) (7375 + 62 * i) (lw_Z below #[Value.ref b] s) (F0 m 768 ls []) := by
  obtain ⟨hx, hb, hr, hml, hown, hts, hX, hbl, hlocks, hgv⟩ := id C0
  have C : gCx p s m #[Value.ref b] meth c R_law code 4 ret := ⟨hx, hb, hml, hown, g_tbl hts, hr, hlocks⟩
  have hbA : ¬ (fun q : Nat => s.heap.size ≤ q) b := Nat.not_le.mpr hbl
  have h512 : i < 512 := by omega
  have hk1 : vp_in (x3 + 1) L := by rw [ex3]; exact lw_in (k := 1) (by omega) hL
  have hk2 : vp_in (x3 + 2) L := by rw [ex3]; exact lw_in (k := 2) (by omega) hL
  obtain ⟨z1, z2, h1, h2, he, hI2⟩ := opB_without hI h512 (xs (x3 + 1).toNatClampNeg) (xs (x3 + 2).toNatClampNeg)
  refine lv_aload_n hx hb d_LW_768 rfl (lv_at hl 1 rfl) ?_
  refine lv_aload_n hx hb d_LW_769 rfl (lv_at hl 0 rfl) ?_
  refine lv_iload_n hx hb d_LW_770 rfl (lv_at hl 3 rfl) ?_
  refine lv_iconst (v := 1) hx hb d_LW_771 (by decide) ?_
  refine lv_iadd hx hb d_LW_772 ?_
  refine va_sld hx hb hX hbl hbA hG.2.2.2.1 hk1 d_LW_773 ?_
  refine lv_aload_n hx hb d_LW_774 rfl (lv_at hl 0 rfl) ?_
  refine lv_iload_n hx hb d_LW_775 rfl (lv_at hl 3 rfl) ?_
  refine lv_iconst (v := 2) hx hb d_LW_776 (by decide) ?_
  refine lv_iadd hx hb d_LW_777 ?_
  refine va_sld hx hb hX hbl hbA hG.2.2.2.1 hk2 d_LW_778 ?_
  refine g_goi hG (g_runV (As := [.int (xs (x3 + 1).toNatClampNeg), .int (xs (x3 + 2).toNatClampNeg)]) (rest := []) C hG (c_X_without l w S (xs (x3 + 1).toNatClampNeg) (xs (x3 + 2).toNatClampNeg) h1 _) (hG.lt (Nat.le_of_ble_eq_true rfl)) (ce0 w _) rfl vw_LW_97 rfl rfl ⟨by decide, by decide⟩ rfl hl.1 rfl (Nat.le_of_ble_eq_true rfl) d_LW_779 (lw_cs h512)) (fun H locs hG => ?_)
  refine lv_aload_n hx hb d_LW_782 rfl (lv_at hl 2 rfl) ?_
  refine lv_aload_n hx hb d_LW_783 rfl (lv_at hl 0 rfl) ?_
  refine lv_iload_n hx hb d_LW_784 rfl (lv_at hl 3 rfl) ?_
  refine lv_iconst (v := 1) hx hb d_LW_785 (by decide) ?_
  refine lv_iadd hx hb d_LW_786 ?_
  refine va_sld hx hb hX hbl hbA hG.2.2.2.1 hk1 d_LW_787 ?_
  refine lv_aload_n hx hb d_LW_788 rfl (lv_at hl 0 rfl) ?_
  refine lv_iload_n hx hb d_LW_789 rfl (lv_at hl 3 rfl) ?_
  refine lv_iconst (v := 2) hx hb d_LW_790 (by decide) ?_
  refine lv_iadd hx hb d_LW_791 ?_
  refine va_sld hx hb hX hbl hbA hG.2.2.2.1 hk2 d_LW_792 ?_
  refine g_goi hG (g_runV (As := [.int (xs (x3 + 1).toNatClampNeg), .int (xs (x3 + 2).toNatClampNeg)]) (rest := [.int z1.1]) C hG (c_M_without l w z1.2 (xs (x3 + 1).toNatClampNeg) (xs (x3 + 2).toNatClampNeg) h2 _) (hG.lt (Nat.le_of_ble_eq_true rfl)) (ce49 w _) rfl vw_LW_100 rfl rfl ⟨by decide, by decide⟩ rfl hl.1 rfl (Nat.le_of_ble_eq_true rfl) d_LW_793 (lw_cs h512)) (fun H locs hG => ?_)
  refine lv_icmp_eq (tgt := 1401) hx hb d_LW_796 (by decide) (fun hc => ?_) (fun hc => absurd he hc)
  refine W.widen (k := 73 + 2 * (i + 1)) (n := 7375 + 62 * (i + 1)) (by omega) (by omega) ?_
  exact K _ _ _ _ hI2 hG hl
set_option maxHeartbeats 4000000 in
set_option maxRecDepth 100000 in
theorem lc_21 (l : Launch) {p : Program} {e : Env} {s : State} {m : MethodId} {below : List Frame} {meth : Method} {c : Code} {b L : Nat} {xs : Nat → Int32} (C0 : lw_At p s m meth c b L xs) {i : Nat} {x3 : Int32} (ex3 : x3 = nI (6 * i)) (hi6 : 6 * i + 6 ≤ L) (hL : L ≤ 3072) {w : gw} {S : St} {H : Heap} {locs : List Loc} {ls : Array Slot} (hI : InvB w S i) (hG : GH w s (fun q : Nat => s.heap.size ≤ q) S H locs) (hl : lv_has ls 4 [(0, .ref b), (1, .ref (gad w 0)), (2, .ref (gad w 49)), (3, .int x3)]) (K : ∀ (w : gw) (S : St) (H : Heap) (locs : List Loc), InvB w S (i + 1) → GH w s (fun q : Nat => s.heap.size ≤ q) S H locs → lv_has ls 4 [(0, .ref b), (1, .ref (gad w 0)), (2, .ref (gad w 49)), (3, .int x3)] → W p l e room_1 s m #[Value.ref b] below meth c H locs (73 + 2 * (i + 1)) (7375 + 62 * (i + 1)) (lw_Z below #[Value.ref b] s) (F0 m 1401 ls [])) : W p l e room_1 s m #[Value.ref b] below meth c H locs (73 + 2 * i) (7375 + 62 * i) (lw_Z below #[Value.ref b] s) (F0 m 801 ls []) := by
  obtain ⟨hx, hb, hr, hml, hown, hts, hX, hbl, hlocks, hgv⟩ := id C0
  have C : gCx p s m #[Value.ref b] meth c R_law code 4 ret := ⟨hx, hb, hml, hown, g_tbl hts, hr, hlocks⟩
  have hbA : ¬ (fun q : Nat => s.heap.size ≤ q) b := Nat.not_le.mpr hbl
  have h512 : i < 512 := by omega
  have hk1 : vp_in (x3 + 1) L := by rw [ex3]; exact lw_in (k := 1) (by omega) hL
  have hk2 : vp_in (x3 + 2) L := by rw [ex3]; exact lw_in (k := 2) (by omega) hL
  have hk3 : vp_in (x3 + 3) L := by rw [ex3]; exact lw_in (k := 3) (by omega) hL
  obtain ⟨z1, z2, h1, h2, he, hI2⟩ := opB_meet hI h512 (xs (x3 + 1).toNatClampNeg) (xs (x3 + 2).toNatClampNeg) (xs (x3 + 3).toNatClampNeg)
  refine lv_aload_n hx hb d_LW_801 rfl (lv_at hl 1 rfl) ?_
  refine lv_aload_n hx hb d_LW_802 rfl (lv_at hl 0 rfl) ?_
  refine lv_iload_n hx hb d_LW_803 rfl (lv_at hl 3 rfl) ?_
  refine lv_iconst (v := 1) hx hb d_LW_804 (by decide) ?_
  refine lv_iadd hx hb d_LW_805 ?_
  refine va_sld hx hb hX hbl hbA hG.2.2.2.1 hk1 d_LW_806 ?_
  refine lv_aload_n hx hb d_LW_807 rfl (lv_at hl 0 rfl) ?_
  refine lv_iload_n hx hb d_LW_808 rfl (lv_at hl 3 rfl) ?_
  refine lv_iconst (v := 2) hx hb d_LW_809 (by decide) ?_
  refine lv_iadd hx hb d_LW_810 ?_
  refine va_sld hx hb hX hbl hbA hG.2.2.2.1 hk2 d_LW_811 ?_
  refine lv_aload_n hx hb d_LW_812 rfl (lv_at hl 0 rfl) ?_
  refine lv_iload_n hx hb d_LW_813 rfl (lv_at hl 3 rfl) ?_
  refine lv_iconst (v := 3) hx hb d_LW_814 (by decide) ?_
  refine lv_iadd hx hb d_LW_815 ?_
  refine va_sld hx hb hX hbl hbA hG.2.2.2.1 hk3 d_LW_816 ?_
  refine g_goi hG (g_runV (As := [.int (xs (x3 + 1).toNatClampNeg), .int (xs (x3 + 2).toNatClampNeg), .int (xs (x3 + 3).toNatClampNeg)]) (rest := []) C hG (c_X_meet l w S (xs (x3 + 1).toNatClampNeg) (xs (x3 + 2).toNatClampNeg) (xs (x3 + 3).toNatClampNeg) h1 _) (hG.lt (Nat.le_of_ble_eq_true rfl)) (ce0 w _) rfl vw_LW_101 rfl rfl ⟨by decide, by decide⟩ rfl hl.1 rfl (Nat.le_of_ble_eq_true rfl) d_LW_817 (lw_cs h512)) (fun H locs hG => ?_)
  refine lv_aload_n hx hb d_LW_820 rfl (lv_at hl 2 rfl) ?_
  refine lv_aload_n hx hb d_LW_821 rfl (lv_at hl 0 rfl) ?_
  refine lv_iload_n hx hb d_LW_822 rfl (lv_at hl 3 rfl) ?_
  refine lv_iconst (v := 1) hx hb d_LW_823 (by decide) ?_
  refine lv_iadd hx hb d_LW_824 ?_
  refine va_sld hx hb hX hbl hbA hG.2.2.2.1 hk1 d_LW_825 ?_
  refine lv_aload_n hx hb d_LW_826 rfl (lv_at hl 0 rfl) ?_
  refine lv_iload_n hx hb d_LW_827 rfl (lv_at hl 3 rfl) ?_
  refine lv_iconst (v := 2) hx hb d_LW_828 (by decide) ?_
  refine lv_iadd hx hb d_LW_829 ?_
  refine va_sld hx hb hX hbl hbA hG.2.2.2.1 hk2 d_LW_830 ?_
  refine lv_aload_n hx hb d_LW_831 rfl (lv_at hl 0 rfl) ?_
  refine lv_iload_n hx hb d_LW_832 rfl (lv_at hl 3 rfl) ?_
  refine lv_iconst (v := 3) hx hb d_LW_833 (by decide) ?_
  refine lv_iadd hx hb d_LW_834 ?_
  refine va_sld hx hb hX hbl hbA hG.2.2.2.1 hk3 d_LW_835 ?_
  refine g_goi hG (g_runV (As := [.int (xs (x3 + 1).toNatClampNeg), .int (xs (x3 + 2).toNatClampNeg), .int (xs (x3 + 3).toNatClampNeg)]) (rest := [.int z1.1]) C hG (c_M_meet l w z1.2 (xs (x3 + 1).toNatClampNeg) (xs (x3 + 2).toNatClampNeg) (xs (x3 + 3).toNatClampNeg) h2 _) (hG.lt (Nat.le_of_ble_eq_true rfl)) (ce49 w _) rfl vw_LW_104 rfl rfl ⟨by decide, by decide⟩ rfl hl.1 rfl (Nat.le_of_ble_eq_true rfl) d_LW_836 (lw_cs h512)) (fun H locs hG => ?_)
  refine lv_icmp_eq (tgt := 1401) hx hb d_LW_839 (by decide) (fun hc => ?_) (fun hc => absurd he hc)
  refine W.widen (k := 73 + 2 * (i + 1)) (n := 7375 + 62 * (i + 1)) (by omega) (by omega) ?_
  exact K _ _ _ _ hI2 hG hl
set_option maxHeartbeats 4000000 in
set_option maxRecDepth 100000 in
theorem lc_22 (l : Launch) {p : Program} {e : Env} {s : State} {m : MethodId} {below : List Frame} {meth : Method} {c : Code} {b L : Nat} {xs : Nat → Int32} (C0 : lw_At p s m meth c b L xs) {i : Nat} {x3 : Int32} (ex3 : x3 = nI (6 * i)) (hi6 : 6 * i + 6 ≤ L) (hL : L ≤ 3072) {w : gw} {S : St} {H : Heap} {locs : List Loc} {ls : Array Slot} (hI : InvB w S i) (hG : GH w s (fun q : Nat => s.heap.size ≤ q) S H locs) (hl : lv_has ls 4 [(0, .ref b), (1, .ref (gad w 0)), (2, .ref (gad w 49)), (3, .int x3)]) (K : ∀ (w : gw) (S : St) (H : Heap) (locs : List Loc), InvB w S (i + 1) → GH w s (fun q : Nat => s.heap.size ≤ q) S H locs → lv_has ls 4 [(0, .ref b), (1, .ref (gad w 0)), (2, .ref (gad w 49)), (3, .int x3)] → W p l e room_1 s m #[Value.ref b] below meth c H locs (73 + 2 * (i + 1)) (7375 + 62 * (i + 1)) (lw_Z below #[Value.ref b] s) (F0 m 1401 ls [])) : W p l e room_1 s m #[Value.ref b] below meth c H locs (73 + 2 * i) (7375 + 62 * i) (lw_Z below #[Value.ref b] s) (F0 m 844 ls []) := by
  obtain ⟨hx, hb, hr, hml, hown, hts, hX, hbl, hlocks, hgv⟩ := id C0
  have C : gCx p s m #[Value.ref b] meth c R_law code 4 ret := ⟨hx, hb, hml, hown, g_tbl hts, hr, hlocks⟩
  have hbA : ¬ (fun q : Nat => s.heap.size ≤ q) b := Nat.not_le.mpr hbl
  have h512 : i < 512 := by omega
  have hk1 : vp_in (x3 + 1) L := by rw [ex3]; exact lw_in (k := 1) (by omega) hL
  obtain ⟨z1, z2, h1, h2, he, hI2⟩ := opB_each hI h512 (xs (x3 + 1).toNatClampNeg)
  refine lv_aload_n hx hb d_LW_844 rfl (lv_at hl 1 rfl) ?_
  refine lv_aload_n hx hb d_LW_845 rfl (lv_at hl 0 rfl) ?_
  refine lv_iload_n hx hb d_LW_846 rfl (lv_at hl 3 rfl) ?_
  refine lv_iconst (v := 1) hx hb d_LW_847 (by decide) ?_
  refine lv_iadd hx hb d_LW_848 ?_
  refine va_sld hx hb hX hbl hbA hG.2.2.2.1 hk1 d_LW_849 ?_
  refine g_goi hG (g_runV (As := [.int (xs (x3 + 1).toNatClampNeg)]) (rest := []) C hG (c_X_each l w S (xs (x3 + 1).toNatClampNeg) h1 _) (hG.lt (Nat.le_of_ble_eq_true rfl)) (ce0 w _) rfl vw_LW_105 rfl rfl ⟨by decide, by decide⟩ rfl hl.1 rfl (Nat.le_of_ble_eq_true rfl) d_LW_850 (lw_cs h512)) (fun H locs hG => ?_)
  refine lv_aload_n hx hb d_LW_853 rfl (lv_at hl 2 rfl) ?_
  refine lv_aload_n hx hb d_LW_854 rfl (lv_at hl 0 rfl) ?_
  refine lv_iload_n hx hb d_LW_855 rfl (lv_at hl 3 rfl) ?_
  refine lv_iconst (v := 1) hx hb d_LW_856 (by decide) ?_
  refine lv_iadd hx hb d_LW_857 ?_
  refine va_sld hx hb hX hbl hbA hG.2.2.2.1 hk1 d_LW_858 ?_
  refine g_goi hG (g_runV (As := [.int (xs (x3 + 1).toNatClampNeg)]) (rest := [.int z1.1]) C hG (c_M_each l w z1.2 (xs (x3 + 1).toNatClampNeg) h2 _) (hG.lt (Nat.le_of_ble_eq_true rfl)) (ce49 w _) rfl vw_LW_108 rfl rfl ⟨by decide, by decide⟩ rfl hl.1 rfl (Nat.le_of_ble_eq_true rfl) d_LW_859 (lw_cs h512)) (fun H locs hG => ?_)
  refine lv_icmp_eq (tgt := 1401) hx hb d_LW_862 (by decide) (fun hc => ?_) (fun hc => absurd he hc)
  refine W.widen (k := 73 + 2 * (i + 1)) (n := 7375 + 62 * (i + 1)) (by omega) (by omega) ?_
  exact K _ _ _ _ hI2 hG hl
set_option maxHeartbeats 4000000 in
set_option maxRecDepth 100000 in
theorem lc_23 (l : Launch) {p : Program} {e : Env} {s : State} {m : MethodId} {below : List Frame} {meth : Method} {c : Code} {b L : Nat} {xs : Nat → Int32} (C0 : lw_At p s m meth c b L xs) {i : Nat} {x3 : Int32} (ex3 : x3 = nI (6 * i)) (hi6 : 6 * i + 6 ≤ L) (hL : L ≤ 3072) {w : gw} {S : St} {H : Heap} {locs : List Loc} {ls : Array Slot} (hI : InvB w S i) (hG : GH w s (fun q : Nat => s.heap.size ≤ q) S H locs) (hl : lv_has ls 4 [(0, .ref b), (1, .ref (gad w 0)), (2, .ref (gad w 49)), (3, .int x3)]) (K : ∀ (w : gw) (S : St) (H : Heap) (locs : List Loc), InvB w S (i + 1) → GH w s (fun q : Nat => s.heap.size ≤ q) S H locs → lv_has ls 4 [(0, .ref b), (1, .ref (gad w 0)), (2, .ref (gad w 49)), (3, .int x3)] → W p l e room_1 s m #[Value.ref b] below meth c H locs (73 + 2 * (i + 1)) (7375 + 62 * (i + 1)) (lw_Z below #[Value.ref b] s) (F0 m 1401 ls [])) : W p l e room_1 s m #[Value.ref b] below meth c H locs (73 + 2 * i) (7375 + 62 * i) (lw_Z below #[Value.ref b] s) (F0 m 867 ls []) := by
  obtain ⟨hx, hb, hr, hml, hown, hts, hX, hbl, hlocks, hgv⟩ := id C0
  have C : gCx p s m #[Value.ref b] meth c R_law code 4 ret := ⟨hx, hb, hml, hown, g_tbl hts, hr, hlocks⟩
  have hbA : ¬ (fun q : Nat => s.heap.size ≤ q) b := Nat.not_le.mpr hbl
  have h512 : i < 512 := by omega
  have hk1 : vp_in (x3 + 1) L := by rw [ex3]; exact lw_in (k := 1) (by omega) hL
  obtain ⟨z1, z2, h1, h2, he, hI2⟩ := opB_pays hI h512 (xs (x3 + 1).toNatClampNeg)
  refine lv_aload_n hx hb d_LW_867 rfl (lv_at hl 1 rfl) ?_
  refine lv_aload_n hx hb d_LW_868 rfl (lv_at hl 0 rfl) ?_
  refine lv_iload_n hx hb d_LW_869 rfl (lv_at hl 3 rfl) ?_
  refine lv_iconst (v := 1) hx hb d_LW_870 (by decide) ?_
  refine lv_iadd hx hb d_LW_871 ?_
  refine va_sld hx hb hX hbl hbA hG.2.2.2.1 hk1 d_LW_872 ?_
  refine g_goi hG (g_runV (As := [.int (xs (x3 + 1).toNatClampNeg)]) (rest := []) C hG (c_X_pays l w S (xs (x3 + 1).toNatClampNeg) h1 _) (hG.lt (Nat.le_of_ble_eq_true rfl)) (ce0 w _) rfl vw_LW_109 rfl rfl ⟨by decide, by decide⟩ rfl hl.1 rfl (Nat.le_of_ble_eq_true rfl) d_LW_873 (lw_cs h512)) (fun H locs hG => ?_)
  refine lv_aload_n hx hb d_LW_876 rfl (lv_at hl 2 rfl) ?_
  refine lv_aload_n hx hb d_LW_877 rfl (lv_at hl 0 rfl) ?_
  refine lv_iload_n hx hb d_LW_878 rfl (lv_at hl 3 rfl) ?_
  refine lv_iconst (v := 1) hx hb d_LW_879 (by decide) ?_
  refine lv_iadd hx hb d_LW_880 ?_
  refine va_sld hx hb hX hbl hbA hG.2.2.2.1 hk1 d_LW_881 ?_
  refine g_goi hG (g_runV (As := [.int (xs (x3 + 1).toNatClampNeg)]) (rest := [.int z1.1]) C hG (c_M_pays l w z1.2 (xs (x3 + 1).toNatClampNeg) h2 _) (hG.lt (Nat.le_of_ble_eq_true rfl)) (ce49 w _) rfl vw_LW_112 rfl rfl ⟨by decide, by decide⟩ rfl hl.1 rfl (Nat.le_of_ble_eq_true rfl) d_LW_882 (lw_cs h512)) (fun H locs hG => ?_)
  refine lv_icmp_eq (tgt := 1401) hx hb d_LW_885 (by decide) (fun hc => ?_) (fun hc => absurd he hc)
  refine W.widen (k := 73 + 2 * (i + 1)) (n := 7375 + 62 * (i + 1)) (by omega) (by omega) ?_
  exact K _ _ _ _ hI2 hG hl
set_option maxHeartbeats 4000000 in
set_option maxRecDepth 100000 in
theorem lc_24 (l : Launch) {p : Program} {e : Env} {s : State} {m : MethodId} {below : List Frame} {meth : Method} {c : Code} {b L : Nat} {xs : Nat → Int32} (C0 : lw_At p s m meth c b L xs) {i : Nat} {x3 : Int32} (ex3 : x3 = nI (6 * i)) (hi6 : 6 * i + 6 ≤ L) (hL : L ≤ 3072) {w : gw} {S : St} {H : Heap} {locs : List Loc} {ls : Array Slot} (hI : InvB w S i) (hG : GH w s (fun q : Nat => s.heap.size ≤ q) S H locs) (hl : lv_has ls 4 [(0, .ref b), (1, .ref (gad w 0)), (2, .ref (gad w 49)), (3, .int x3)]) (K : ∀ (w : gw) (S : St) (H : Heap) (locs : List Loc), InvB w S (i + 1) → GH w s (fun q : Nat => s.heap.size ≤ q) S H locs → lv_has ls 4 [(0, .ref b), (1, .ref (gad w 0)), (2, .ref (gad w 49)), (3, .int x3)] → W p l e room_1 s m #[Value.ref b] below meth c H locs (73 + 2 * (i + 1)) (7375 + 62 * (i + 1)) (lw_Z below #[Value.ref b] s) (F0 m 1401 ls [])) : W p l e room_1 s m #[Value.ref b] below meth c H locs (73 + 2 * i) (7375 + 62 * i) (lw_Z below #[Value.ref b] s) (F0 m 890 ls []) := by
  obtain ⟨hx, hb, hr, hml, hown, hts, hX, hbl, hlocks, hgv⟩ := id C0
  have C : gCx p s m #[Value.ref b] meth c R_law code 4 ret := ⟨hx, hb, hml, hown, g_tbl hts, hr, hlocks⟩
  have hbA : ¬ (fun q : Nat => s.heap.size ≤ q) b := Nat.not_le.mpr hbl
  have h512 : i < 512 := by omega
  have hk1 : vp_in (x3 + 1) L := by rw [ex3]; exact lw_in (k := 1) (by omega) hL
  obtain ⟨z1, z2, h1, h2, he, hI2⟩ := opB_club hI h512 (xs (x3 + 1).toNatClampNeg)
  refine lv_aload_n hx hb d_LW_890 rfl (lv_at hl 1 rfl) ?_
  refine lv_aload_n hx hb d_LW_891 rfl (lv_at hl 0 rfl) ?_
  refine lv_iload_n hx hb d_LW_892 rfl (lv_at hl 3 rfl) ?_
  refine lv_iconst (v := 1) hx hb d_LW_893 (by decide) ?_
  refine lv_iadd hx hb d_LW_894 ?_
  refine va_sld hx hb hX hbl hbA hG.2.2.2.1 hk1 d_LW_895 ?_
  refine g_goi hG (g_runV (As := [.int (xs (x3 + 1).toNatClampNeg)]) (rest := []) C hG (c_X_club l w S (xs (x3 + 1).toNatClampNeg) h1 _) (hG.lt (Nat.le_of_ble_eq_true rfl)) (ce0 w _) rfl vw_LW_113 rfl rfl ⟨by decide, by decide⟩ rfl hl.1 rfl (Nat.le_of_ble_eq_true rfl) d_LW_896 (lw_cs h512)) (fun H locs hG => ?_)
  refine lv_aload_n hx hb d_LW_899 rfl (lv_at hl 2 rfl) ?_
  refine lv_aload_n hx hb d_LW_900 rfl (lv_at hl 0 rfl) ?_
  refine lv_iload_n hx hb d_LW_901 rfl (lv_at hl 3 rfl) ?_
  refine lv_iconst (v := 1) hx hb d_LW_902 (by decide) ?_
  refine lv_iadd hx hb d_LW_903 ?_
  refine va_sld hx hb hX hbl hbA hG.2.2.2.1 hk1 d_LW_904 ?_
  refine g_goi hG (g_runV (As := [.int (xs (x3 + 1).toNatClampNeg)]) (rest := [.int z1.1]) C hG (c_M_club l w z1.2 (xs (x3 + 1).toNatClampNeg) h2 _) (hG.lt (Nat.le_of_ble_eq_true rfl)) (ce49 w _) rfl vw_LW_116 rfl rfl ⟨by decide, by decide⟩ rfl hl.1 rfl (Nat.le_of_ble_eq_true rfl) d_LW_905 (lw_cs h512)) (fun H locs hG => ?_)
  refine lv_icmp_eq (tgt := 1401) hx hb d_LW_908 (by decide) (fun hc => ?_) (fun hc => absurd he hc)
  refine W.widen (k := 73 + 2 * (i + 1)) (n := 7375 + 62 * (i + 1)) (by omega) (by omega) ?_
  exact K _ _ _ _ hI2 hG hl
set_option maxHeartbeats 4000000 in
set_option maxRecDepth 100000 in
theorem lc_25 (l : Launch) {p : Program} {e : Env} {s : State} {m : MethodId} {below : List Frame} {meth : Method} {c : Code} {b L : Nat} {xs : Nat → Int32} (C0 : lw_At p s m meth c b L xs) {i : Nat} {x3 : Int32} (ex3 : x3 = nI (6 * i)) (hi6 : 6 * i + 6 ≤ L) (hL : L ≤ 3072) {w : gw} {S : St} {H : Heap} {locs : List Loc} {ls : Array Slot} (hI : InvB w S i) (hG : GH w s (fun q : Nat => s.heap.size ≤ q) S H locs) (hl : lv_has ls 4 [(0, .ref b), (1, .ref (gad w 0)), (2, .ref (gad w 49)), (3, .int x3)]) (K : ∀ (w : gw) (S : St) (H : Heap) (locs : List Loc), InvB w S (i + 1) → GH w s (fun q : Nat => s.heap.size ≤ q) S H locs → lv_has ls 4 [(0, .ref b), (1, .ref (gad w 0)), (2, .ref (gad w 49)), (3, .int x3)] → W p l e room_1 s m #[Value.ref b] below meth c H locs (73 + 2 * (i + 1)) (7375 + 62 * (i + 1)) (lw_Z below #[Value.ref b] s) (F0 m 1401 ls [])) : W p l e room_1 s m #[Value.ref b] below meth c H locs (73 + 2 * i) (7375 + 62 * i) (lw_Z below #[Value.ref b] s) (F0 m 913 ls []) := by
  obtain ⟨hx, hb, hr, hml, hown, hts, hX, hbl, hlocks, hgv⟩ := id C0
  have C : gCx p s m #[Value.ref b] meth c R_law code 4 ret := ⟨hx, hb, hml, hown, g_tbl hts, hr, hlocks⟩
  have hbA : ¬ (fun q : Nat => s.heap.size ≤ q) b := Nat.not_le.mpr hbl
  have h512 : i < 512 := by omega
  have hk1 : vp_in (x3 + 1) L := by rw [ex3]; exact lw_in (k := 1) (by omega) hL
  have hk2 : vp_in (x3 + 2) L := by rw [ex3]; exact lw_in (k := 2) (by omega) hL
  obtain ⟨z1, z2, h1, h2, he, hI2⟩ := opB_share hI h512 (xs (x3 + 1).toNatClampNeg) (xs (x3 + 2).toNatClampNeg)
  refine lv_aload_n hx hb d_LW_913 rfl (lv_at hl 1 rfl) ?_
  refine lv_aload_n hx hb d_LW_914 rfl (lv_at hl 0 rfl) ?_
  refine lv_iload_n hx hb d_LW_915 rfl (lv_at hl 3 rfl) ?_
  refine lv_iconst (v := 1) hx hb d_LW_916 (by decide) ?_
  refine lv_iadd hx hb d_LW_917 ?_
  refine va_sld hx hb hX hbl hbA hG.2.2.2.1 hk1 d_LW_918 ?_
  refine lv_aload_n hx hb d_LW_919 rfl (lv_at hl 0 rfl) ?_
  refine lv_iload_n hx hb d_LW_920 rfl (lv_at hl 3 rfl) ?_
  refine lv_iconst (v := 2) hx hb d_LW_921 (by decide) ?_
  refine lv_iadd hx hb d_LW_922 ?_
  refine va_sld hx hb hX hbl hbA hG.2.2.2.1 hk2 d_LW_923 ?_
  refine g_gol hG (g_runV (As := [.int (xs (x3 + 1).toNatClampNeg), .int (xs (x3 + 2).toNatClampNeg)]) (rest := []) C hG (c_X_share l w S (xs (x3 + 1).toNatClampNeg) (xs (x3 + 2).toNatClampNeg) h1 _) (hG.lt (Nat.le_of_ble_eq_true rfl)) (ce0 w _) rfl vw_LW_117 rfl rfl ⟨by decide, by decide⟩ rfl hl.1 rfl (Nat.le_of_ble_eq_true rfl) d_LW_924 (lw_cs h512)) (fun H locs hG => ?_)
  refine lv_aload_n hx hb d_LW_927 rfl (lv_at hl 2 rfl) ?_
  refine lv_aload_n hx hb d_LW_928 rfl (lv_at hl 0 rfl) ?_
  refine lv_iload_n hx hb d_LW_929 rfl (lv_at hl 3 rfl) ?_
  refine lv_iconst (v := 1) hx hb d_LW_930 (by decide) ?_
  refine lv_iadd hx hb d_LW_931 ?_
  refine va_sld hx hb hX hbl hbA hG.2.2.2.1 hk1 d_LW_932 ?_
  refine lv_aload_n hx hb d_LW_933 rfl (lv_at hl 0 rfl) ?_
  refine lv_iload_n hx hb d_LW_934 rfl (lv_at hl 3 rfl) ?_
  refine lv_iconst (v := 2) hx hb d_LW_935 (by decide) ?_
  refine lv_iadd hx hb d_LW_936 ?_
  refine va_sld hx hb hX hbl hbA hG.2.2.2.1 hk2 d_LW_937 ?_
  refine g_gol hG (g_runV (As := [.int (xs (x3 + 1).toNatClampNeg), .int (xs (x3 + 2).toNatClampNeg)]) (rest := [.long z1.1]) C hG (c_M_share l w z1.2 (xs (x3 + 1).toNatClampNeg) (xs (x3 + 2).toNatClampNeg) h2 _) (hG.lt (Nat.le_of_ble_eq_true rfl)) (ce49 w _) rfl vw_LW_121 rfl rfl ⟨by decide, by decide⟩ rfl hl.1 rfl (Nat.le_of_ble_eq_true rfl) d_LW_938 (lw_cs h512)) (fun H locs hG => ?_)
  refine W.lcmp hx hb d_LW_941 ?_
  refine lv_if_eq (tgt := 1401) hx hb d_LW_942 (by decide) (fun hc => ?_) (fun hc => absurd (lg_cmp_same he) hc)
  refine W.widen (k := 73 + 2 * (i + 1)) (n := 7375 + 62 * (i + 1)) (by omega) (by omega) ?_
  exact K _ _ _ _ hI2 hG hl
set_option maxHeartbeats 4000000 in
set_option maxRecDepth 100000 in
theorem lc_26 (l : Launch) {p : Program} {e : Env} {s : State} {m : MethodId} {below : List Frame} {meth : Method} {c : Code} {b L : Nat} {xs : Nat → Int32} (C0 : lw_At p s m meth c b L xs) {i : Nat} {x3 : Int32} (ex3 : x3 = nI (6 * i)) (hi6 : 6 * i + 6 ≤ L) (hL : L ≤ 3072) {w : gw} {S : St} {H : Heap} {locs : List Loc} {ls : Array Slot} (hI : InvB w S i) (hG : GH w s (fun q : Nat => s.heap.size ≤ q) S H locs) (hl : lv_has ls 4 [(0, .ref b), (1, .ref (gad w 0)), (2, .ref (gad w 49)), (3, .int x3)]) (K : ∀ (w : gw) (S : St) (H : Heap) (locs : List Loc), InvB w S (i + 1) → GH w s (fun q : Nat => s.heap.size ≤ q) S H locs → lv_has ls 4 [(0, .ref b), (1, .ref (gad w 0)), (2, .ref (gad w 49)), (3, .int x3)] → W p l e room_1 s m #[Value.ref b] below meth c H locs (73 + 2 * (i + 1)) (7375 + 62 * (i + 1)) (lw_Z below #[Value.ref b] s) (F0 m 1401 ls [])) : W p l e room_1 s m #[Value.ref b] below meth c H locs (73 + 2 * i) (7375 + 62 * i) (lw_Z below #[Value.ref b] s) (F0 m 947 ls []) := by
  obtain ⟨hx, hb, hr, hml, hown, hts, hX, hbl, hlocks, hgv⟩ := id C0
  have C : gCx p s m #[Value.ref b] meth c R_law code 4 ret := ⟨hx, hb, hml, hown, g_tbl hts, hr, hlocks⟩
  have hbA : ¬ (fun q : Nat => s.heap.size ≤ q) b := Nat.not_le.mpr hbl
  have h512 : i < 512 := by omega
  have hk1 : vp_in (x3 + 1) L := by rw [ex3]; exact lw_in (k := 1) (by omega) hL
  obtain ⟨z1, z2, h1, h2, he, hI2⟩ := opB_rather hI h512 (xs (x3 + 1).toNatClampNeg)
  refine lv_aload_n hx hb d_LW_947 rfl (lv_at hl 1 rfl) ?_
  refine lv_aload_n hx hb d_LW_948 rfl (lv_at hl 0 rfl) ?_
  refine lv_iload_n hx hb d_LW_949 rfl (lv_at hl 3 rfl) ?_
  refine lv_iconst (v := 1) hx hb d_LW_950 (by decide) ?_
  refine lv_iadd hx hb d_LW_951 ?_
  refine va_sld hx hb hX hbl hbA hG.2.2.2.1 hk1 d_LW_952 ?_
  refine g_goi hG (g_runV (As := [.int (xs (x3 + 1).toNatClampNeg)]) (rest := []) C hG (c_X_rather l w S (xs (x3 + 1).toNatClampNeg) h1 _) (hG.lt (Nat.le_of_ble_eq_true rfl)) (ce0 w _) rfl vw_LW_122 rfl rfl ⟨by decide, by decide⟩ rfl hl.1 rfl (Nat.le_of_ble_eq_true rfl) d_LW_953 (lw_cs h512)) (fun H locs hG => ?_)
  refine lv_aload_n hx hb d_LW_956 rfl (lv_at hl 2 rfl) ?_
  refine lv_aload_n hx hb d_LW_957 rfl (lv_at hl 0 rfl) ?_
  refine lv_iload_n hx hb d_LW_958 rfl (lv_at hl 3 rfl) ?_
  refine lv_iconst (v := 1) hx hb d_LW_959 (by decide) ?_
  refine lv_iadd hx hb d_LW_960 ?_
  refine va_sld hx hb hX hbl hbA hG.2.2.2.1 hk1 d_LW_961 ?_
  refine g_goi hG (g_runV (As := [.int (xs (x3 + 1).toNatClampNeg)]) (rest := [.int z1.1]) C hG (c_M_rather l w z1.2 (xs (x3 + 1).toNatClampNeg) h2 _) (hG.lt (Nat.le_of_ble_eq_true rfl)) (ce49 w _) rfl vw_LW_125 rfl rfl ⟨by decide, by decide⟩ rfl hl.1 rfl (Nat.le_of_ble_eq_true rfl) d_LW_962 (lw_cs h512)) (fun H locs hG => ?_)
  refine lv_icmp_eq (tgt := 1401) hx hb d_LW_965 (by decide) (fun hc => ?_) (fun hc => absurd he hc)
  refine W.widen (k := 73 + 2 * (i + 1)) (n := 7375 + 62 * (i + 1)) (by omega) (by omega) ?_
  exact K _ _ _ _ hI2 hG hl
set_option maxHeartbeats 4000000 in
set_option maxRecDepth 100000 in
theorem lc_27 (l : Launch) {p : Program} {e : Env} {s : State} {m : MethodId} {below : List Frame} {meth : Method} {c : Code} {b L : Nat} {xs : Nat → Int32} (C0 : lw_At p s m meth c b L xs) {i : Nat} {x3 : Int32} (ex3 : x3 = nI (6 * i)) (hi6 : 6 * i + 6 ≤ L) (hL : L ≤ 3072) {w : gw} {S : St} {H : Heap} {locs : List Loc} {ls : Array Slot} (hI : InvB w S i) (hG : GH w s (fun q : Nat => s.heap.size ≤ q) S H locs) (hl : lv_has ls 4 [(0, .ref b), (1, .ref (gad w 0)), (2, .ref (gad w 49)), (3, .int x3)]) (K : ∀ (w : gw) (S : St) (H : Heap) (locs : List Loc), InvB w S (i + 1) → GH w s (fun q : Nat => s.heap.size ≤ q) S H locs → lv_has ls 4 [(0, .ref b), (1, .ref (gad w 0)), (2, .ref (gad w 49)), (3, .int x3)] → W p l e room_1 s m #[Value.ref b] below meth c H locs (73 + 2 * (i + 1)) (7375 + 62 * (i + 1)) (lw_Z below #[Value.ref b] s) (F0 m 1401 ls [])) : W p l e room_1 s m #[Value.ref b] below meth c H locs (73 + 2 * i) (7375 + 62 * i) (lw_Z below #[Value.ref b] s) (F0 m 970 ls []) := by
  obtain ⟨hx, hb, hr, hml, hown, hts, hX, hbl, hlocks, hgv⟩ := id C0
  have C : gCx p s m #[Value.ref b] meth c R_law code 4 ret := ⟨hx, hb, hml, hown, g_tbl hts, hr, hlocks⟩
  have hbA : ¬ (fun q : Nat => s.heap.size ≤ q) b := Nat.not_le.mpr hbl
  have h512 : i < 512 := by omega
  have hk1 : vp_in (x3 + 1) L := by rw [ex3]; exact lw_in (k := 1) (by omega) hL
  have hk2 : vp_in (x3 + 2) L := by rw [ex3]; exact lw_in (k := 2) (by omega) hL
  obtain ⟨z1, z2, h1, h2, he, hI2⟩ := opB_seen hI h512 (xs (x3 + 1).toNatClampNeg) (xs (x3 + 2).toNatClampNeg)
  refine lv_aload_n hx hb d_LW_970 rfl (lv_at hl 1 rfl) ?_
  refine lv_aload_n hx hb d_LW_971 rfl (lv_at hl 0 rfl) ?_
  refine lv_iload_n hx hb d_LW_972 rfl (lv_at hl 3 rfl) ?_
  refine lv_iconst (v := 1) hx hb d_LW_973 (by decide) ?_
  refine lv_iadd hx hb d_LW_974 ?_
  refine va_sld hx hb hX hbl hbA hG.2.2.2.1 hk1 d_LW_975 ?_
  refine lv_aload_n hx hb d_LW_976 rfl (lv_at hl 0 rfl) ?_
  refine lv_iload_n hx hb d_LW_977 rfl (lv_at hl 3 rfl) ?_
  refine lv_iconst (v := 2) hx hb d_LW_978 (by decide) ?_
  refine lv_iadd hx hb d_LW_979 ?_
  refine va_sld hx hb hX hbl hbA hG.2.2.2.1 hk2 d_LW_980 ?_
  refine g_goi hG (g_runV (As := [.int (xs (x3 + 1).toNatClampNeg), .int (xs (x3 + 2).toNatClampNeg)]) (rest := []) C hG (c_X_seen l w S (xs (x3 + 1).toNatClampNeg) (xs (x3 + 2).toNatClampNeg) h1 _) (hG.lt (Nat.le_of_ble_eq_true rfl)) (ce0 w _) rfl vw_LW_126 rfl rfl ⟨by decide, by decide⟩ rfl hl.1 rfl (Nat.le_of_ble_eq_true rfl) d_LW_981 (lw_cs h512)) (fun H locs hG => ?_)
  refine lv_aload_n hx hb d_LW_984 rfl (lv_at hl 2 rfl) ?_
  refine lv_aload_n hx hb d_LW_985 rfl (lv_at hl 0 rfl) ?_
  refine lv_iload_n hx hb d_LW_986 rfl (lv_at hl 3 rfl) ?_
  refine lv_iconst (v := 1) hx hb d_LW_987 (by decide) ?_
  refine lv_iadd hx hb d_LW_988 ?_
  refine va_sld hx hb hX hbl hbA hG.2.2.2.1 hk1 d_LW_989 ?_
  refine lv_aload_n hx hb d_LW_990 rfl (lv_at hl 0 rfl) ?_
  refine lv_iload_n hx hb d_LW_991 rfl (lv_at hl 3 rfl) ?_
  refine lv_iconst (v := 2) hx hb d_LW_992 (by decide) ?_
  refine lv_iadd hx hb d_LW_993 ?_
  refine va_sld hx hb hX hbl hbA hG.2.2.2.1 hk2 d_LW_994 ?_
  refine g_goi hG (g_runV (As := [.int (xs (x3 + 1).toNatClampNeg), .int (xs (x3 + 2).toNatClampNeg)]) (rest := [.int z1.1]) C hG (c_M_seen l w z1.2 (xs (x3 + 1).toNatClampNeg) (xs (x3 + 2).toNatClampNeg) h2 _) (hG.lt (Nat.le_of_ble_eq_true rfl)) (ce49 w _) rfl vw_LW_129 rfl rfl ⟨by decide, by decide⟩ rfl hl.1 rfl (Nat.le_of_ble_eq_true rfl) d_LW_995 (lw_cs h512)) (fun H locs hG => ?_)
  refine lv_icmp_eq (tgt := 1401) hx hb d_LW_998 (by decide) (fun hc => ?_) (fun hc => absurd he hc)
  refine W.widen (k := 73 + 2 * (i + 1)) (n := 7375 + 62 * (i + 1)) (by omega) (by omega) ?_
  exact K _ _ _ _ hI2 hG hl
set_option maxHeartbeats 4000000 in
set_option maxRecDepth 100000 in
theorem lc_28 (l : Launch) {p : Program} {e : Env} {s : State} {m : MethodId} {below : List Frame} {meth : Method} {c : Code} {b L : Nat} {xs : Nat → Int32} (C0 : lw_At p s m meth c b L xs) {i : Nat} {x3 : Int32} (ex3 : x3 = nI (6 * i)) (hi6 : 6 * i + 6 ≤ L) (hL : L ≤ 3072) {w : gw} {S : St} {H : Heap} {locs : List Loc} {ls : Array Slot} (hI : InvB w S i) (hG : GH w s (fun q : Nat => s.heap.size ≤ q) S H locs) (hl : lv_has ls 4 [(0, .ref b), (1, .ref (gad w 0)), (2, .ref (gad w 49)), (3, .int x3)]) (K : ∀ (w : gw) (S : St) (H : Heap) (locs : List Loc), InvB w S (i + 1) → GH w s (fun q : Nat => s.heap.size ≤ q) S H locs → lv_has ls 4 [(0, .ref b), (1, .ref (gad w 0)), (2, .ref (gad w 49)), (3, .int x3)] → W p l e room_1 s m #[Value.ref b] below meth c H locs (73 + 2 * (i + 1)) (7375 + 62 * (i + 1)) (lw_Z below #[Value.ref b] s) (F0 m 1401 ls [])) : W p l e room_1 s m #[Value.ref b] below meth c H locs (73 + 2 * i) (7375 + 62 * i) (lw_Z below #[Value.ref b] s) (F0 m 1003 ls []) := by
  obtain ⟨hx, hb, hr, hml, hown, hts, hX, hbl, hlocks, hgv⟩ := id C0
  have C : gCx p s m #[Value.ref b] meth c R_law code 4 ret := ⟨hx, hb, hml, hown, g_tbl hts, hr, hlocks⟩
  have hbA : ¬ (fun q : Nat => s.heap.size ≤ q) b := Nat.not_le.mpr hbl
  have h512 : i < 512 := by omega
  obtain ⟨z1, z2, h1, h2, he, hI2⟩ := opB_forget hI h512 
  refine lv_aload_n hx hb d_LW_1003 rfl (lv_at hl 1 rfl) ?_
  refine g_goi hG (g_runV (As := []) (rest := []) C hG (c_X_forget l w S  h1 _) (hG.lt (Nat.le_of_ble_eq_true rfl)) (ce0 w _) rfl vw_LW_130 rfl rfl ⟨by decide, by decide⟩ rfl hl.1 rfl (Nat.le_of_ble_eq_true rfl) d_LW_1004 (lw_cs h512)) (fun H locs hG => ?_)
  refine lv_aload_n hx hb d_LW_1007 rfl (lv_at hl 2 rfl) ?_
  refine g_goi hG (g_runV (As := []) (rest := [.int z1.1]) C hG (c_M_forget l w z1.2  h2 _) (hG.lt (Nat.le_of_ble_eq_true rfl)) (ce49 w _) rfl vw_LW_133 rfl rfl ⟨by decide, by decide⟩ rfl hl.1 rfl (Nat.le_of_ble_eq_true rfl) d_LW_1008 (lw_cs h512)) (fun H locs hG => ?_)
  refine lv_icmp_eq (tgt := 1401) hx hb d_LW_1011 (by decide) (fun hc => ?_) (fun hc => absurd he hc)
  refine W.widen (k := 73 + 2 * (i + 1)) (n := 7375 + 62 * (i + 1)) (by omega) (by omega) ?_
  exact K _ _ _ _ hI2 hG hl
set_option maxHeartbeats 4000000 in
set_option maxRecDepth 100000 in
theorem lc_29 (l : Launch) {p : Program} {e : Env} {s : State} {m : MethodId} {below : List Frame} {meth : Method} {c : Code} {b L : Nat} {xs : Nat → Int32} (C0 : lw_At p s m meth c b L xs) {i : Nat} {x3 : Int32} (ex3 : x3 = nI (6 * i)) (hi6 : 6 * i + 6 ≤ L) (hL : L ≤ 3072) {w : gw} {S : St} {H : Heap} {locs : List Loc} {ls : Array Slot} (hI : InvB w S i) (hG : GH w s (fun q : Nat => s.heap.size ≤ q) S H locs) (hl : lv_has ls 4 [(0, .ref b), (1, .ref (gad w 0)), (2, .ref (gad w 49)), (3, .int x3)]) (K : ∀ (w : gw) (S : St) (H : Heap) (locs : List Loc), InvB w S (i + 1) → GH w s (fun q : Nat => s.heap.size ≤ q) S H locs → lv_has ls 4 [(0, .ref b), (1, .ref (gad w 0)), (2, .ref (gad w 49)), (3, .int x3)] → W p l e room_1 s m #[Value.ref b] below meth c H locs (73 + 2 * (i + 1)) (7375 + 62 * (i + 1)) (lw_Z below #[Value.ref b] s) (F0 m 1401 ls [])) : W p l e room_1 s m #[Value.ref b] below meth c H locs (73 + 2 * i) (7375 + 62 * i) (lw_Z below #[Value.ref b] s) (F0 m 1016 ls []) := by
  obtain ⟨hx, hb, hr, hml, hown, hts, hX, hbl, hlocks, hgv⟩ := id C0
  have C : gCx p s m #[Value.ref b] meth c R_law code 4 ret := ⟨hx, hb, hml, hown, g_tbl hts, hr, hlocks⟩
  have hbA : ¬ (fun q : Nat => s.heap.size ≤ q) b := Nat.not_le.mpr hbl
  have h512 : i < 512 := by omega
  have hk1 : vp_in (x3 + 1) L := by rw [ex3]; exact lw_in (k := 1) (by omega) hL
  obtain ⟨z1, z2, h1, h2, he, hI2⟩ := opB_owners hI h512 (xs (x3 + 1).toNatClampNeg)
  refine lv_aload_n hx hb d_LW_1016 rfl (lv_at hl 1 rfl) ?_
  refine lv_aload_n hx hb d_LW_1017 rfl (lv_at hl 0 rfl) ?_
  refine lv_iload_n hx hb d_LW_1018 rfl (lv_at hl 3 rfl) ?_
  refine lv_iconst (v := 1) hx hb d_LW_1019 (by decide) ?_
  refine lv_iadd hx hb d_LW_1020 ?_
  refine va_sld hx hb hX hbl hbA hG.2.2.2.1 hk1 d_LW_1021 ?_
  refine g_goi hG (g_runV (As := [.int (xs (x3 + 1).toNatClampNeg)]) (rest := []) C hG (c_X_owners l w S (xs (x3 + 1).toNatClampNeg) h1 _) (hG.lt (Nat.le_of_ble_eq_true rfl)) (ce0 w _) rfl vw_LW_134 rfl rfl ⟨by decide, by decide⟩ rfl hl.1 rfl (Nat.le_of_ble_eq_true rfl) d_LW_1022 (lw_cs h512)) (fun H locs hG => ?_)
  refine lv_aload_n hx hb d_LW_1025 rfl (lv_at hl 2 rfl) ?_
  refine lv_aload_n hx hb d_LW_1026 rfl (lv_at hl 0 rfl) ?_
  refine lv_iload_n hx hb d_LW_1027 rfl (lv_at hl 3 rfl) ?_
  refine lv_iconst (v := 1) hx hb d_LW_1028 (by decide) ?_
  refine lv_iadd hx hb d_LW_1029 ?_
  refine va_sld hx hb hX hbl hbA hG.2.2.2.1 hk1 d_LW_1030 ?_
  refine g_goi hG (g_runV (As := [.int (xs (x3 + 1).toNatClampNeg)]) (rest := [.int z1.1]) C hG (c_M_owners l w z1.2 (xs (x3 + 1).toNatClampNeg) h2 _) (hG.lt (Nat.le_of_ble_eq_true rfl)) (ce49 w _) rfl vw_LW_137 rfl rfl ⟨by decide, by decide⟩ rfl hl.1 rfl (Nat.le_of_ble_eq_true rfl) d_LW_1031 (lw_cs h512)) (fun H locs hG => ?_)
  refine lv_icmp_eq (tgt := 1401) hx hb d_LW_1034 (by decide) (fun hc => ?_) (fun hc => absurd he hc)
  refine W.widen (k := 73 + 2 * (i + 1)) (n := 7375 + 62 * (i + 1)) (by omega) (by omega) ?_
  exact K _ _ _ _ hI2 hG hl
set_option maxHeartbeats 4000000 in
set_option maxRecDepth 100000 in
theorem lc_30 (l : Launch) {p : Program} {e : Env} {s : State} {m : MethodId} {below : List Frame} {meth : Method} {c : Code} {b L : Nat} {xs : Nat → Int32} (C0 : lw_At p s m meth c b L xs) {i : Nat} {x3 : Int32} (ex3 : x3 = nI (6 * i)) (hi6 : 6 * i + 6 ≤ L) (hL : L ≤ 3072) {w : gw} {S : St} {H : Heap} {locs : List Loc} {ls : Array Slot} (hI : InvB w S i) (hG : GH w s (fun q : Nat => s.heap.size ≤ q) S H locs) (hl : lv_has ls 4 [(0, .ref b), (1, .ref (gad w 0)), (2, .ref (gad w 49)), (3, .int x3)]) (K : ∀ (w : gw) (S : St) (H : Heap) (locs : List Loc), InvB w S (i + 1) → GH w s (fun q : Nat => s.heap.size ≤ q) S H locs → lv_has ls 4 [(0, .ref b), (1, .ref (gad w 0)), (2, .ref (gad w 49)), (3, .int x3)] → W p l e room_1 s m #[Value.ref b] below meth c H locs (73 + 2 * (i + 1)) (7375 + 62 * (i + 1)) (lw_Z below #[Value.ref b] s) (F0 m 1401 ls [])) : W p l e room_1 s m #[Value.ref b] below meth c H locs (73 + 2 * i) (7375 + 62 * i) (lw_Z below #[Value.ref b] s) (F0 m 1039 ls []) := by
  obtain ⟨hx, hb, hr, hml, hown, hts, hX, hbl, hlocks, hgv⟩ := id C0
  have C : gCx p s m #[Value.ref b] meth c R_law code 4 ret := ⟨hx, hb, hml, hown, g_tbl hts, hr, hlocks⟩
  have hbA : ¬ (fun q : Nat => s.heap.size ≤ q) b := Nat.not_le.mpr hbl
  have h512 : i < 512 := by omega
  have hk1 : vp_in (x3 + 1) L := by rw [ex3]; exact lw_in (k := 1) (by omega) hL
  have hk2 : vp_in (x3 + 2) L := by rw [ex3]; exact lw_in (k := 2) (by omega) hL
  have hk3 : vp_in (x3 + 3) L := by rw [ex3]; exact lw_in (k := 3) (by omega) hL
  obtain ⟨z1, z2, h1, h2, he, hI2⟩ := opB_worth hI h512 (xs (x3 + 1).toNatClampNeg) (xs (x3 + 2).toNatClampNeg) (xs (x3 + 3).toNatClampNeg)
  refine lv_aload_n hx hb d_LW_1039 rfl (lv_at hl 1 rfl) ?_
  refine lv_aload_n hx hb d_LW_1040 rfl (lv_at hl 0 rfl) ?_
  refine lv_iload_n hx hb d_LW_1041 rfl (lv_at hl 3 rfl) ?_
  refine lv_iconst (v := 1) hx hb d_LW_1042 (by decide) ?_
  refine lv_iadd hx hb d_LW_1043 ?_
  refine va_sld hx hb hX hbl hbA hG.2.2.2.1 hk1 d_LW_1044 ?_
  refine lv_aload_n hx hb d_LW_1045 rfl (lv_at hl 0 rfl) ?_
  refine lv_iload_n hx hb d_LW_1046 rfl (lv_at hl 3 rfl) ?_
  refine lv_iconst (v := 2) hx hb d_LW_1047 (by decide) ?_
  refine lv_iadd hx hb d_LW_1048 ?_
  refine va_sld hx hb hX hbl hbA hG.2.2.2.1 hk2 d_LW_1049 ?_
  refine lv_aload_n hx hb d_LW_1050 rfl (lv_at hl 0 rfl) ?_
  refine lv_iload_n hx hb d_LW_1051 rfl (lv_at hl 3 rfl) ?_
  refine lv_iconst (v := 3) hx hb d_LW_1052 (by decide) ?_
  refine lv_iadd hx hb d_LW_1053 ?_
  refine va_sld hx hb hX hbl hbA hG.2.2.2.1 hk3 d_LW_1054 ?_
  refine g_gol hG (g_runV (As := [.int (xs (x3 + 1).toNatClampNeg), .int (xs (x3 + 2).toNatClampNeg), .int (xs (x3 + 3).toNatClampNeg)]) (rest := []) C hG (c_X_worth l w S (xs (x3 + 1).toNatClampNeg) (xs (x3 + 2).toNatClampNeg) (xs (x3 + 3).toNatClampNeg) h1 _) (hG.lt (Nat.le_of_ble_eq_true rfl)) (ce0 w _) rfl vw_LW_138 rfl rfl ⟨by decide, by decide⟩ rfl hl.1 rfl (Nat.le_of_ble_eq_true rfl) d_LW_1055 (lw_cs h512)) (fun H locs hG => ?_)
  refine lv_aload_n hx hb d_LW_1058 rfl (lv_at hl 2 rfl) ?_
  refine lv_aload_n hx hb d_LW_1059 rfl (lv_at hl 0 rfl) ?_
  refine lv_iload_n hx hb d_LW_1060 rfl (lv_at hl 3 rfl) ?_
  refine lv_iconst (v := 1) hx hb d_LW_1061 (by decide) ?_
  refine lv_iadd hx hb d_LW_1062 ?_
  refine va_sld hx hb hX hbl hbA hG.2.2.2.1 hk1 d_LW_1063 ?_
  refine lv_aload_n hx hb d_LW_1064 rfl (lv_at hl 0 rfl) ?_
  refine lv_iload_n hx hb d_LW_1065 rfl (lv_at hl 3 rfl) ?_
  refine lv_iconst (v := 2) hx hb d_LW_1066 (by decide) ?_
  refine lv_iadd hx hb d_LW_1067 ?_
  refine va_sld hx hb hX hbl hbA hG.2.2.2.1 hk2 d_LW_1068 ?_
  refine lv_aload_n hx hb d_LW_1069 rfl (lv_at hl 0 rfl) ?_
  refine lv_iload_n hx hb d_LW_1070 rfl (lv_at hl 3 rfl) ?_
  refine lv_iconst (v := 3) hx hb d_LW_1071 (by decide) ?_
  refine lv_iadd hx hb d_LW_1072 ?_
  refine va_sld hx hb hX hbl hbA hG.2.2.2.1 hk3 d_LW_1073 ?_
  refine g_gol hG (g_runV (As := [.int (xs (x3 + 1).toNatClampNeg), .int (xs (x3 + 2).toNatClampNeg), .int (xs (x3 + 3).toNatClampNeg)]) (rest := [.long z1]) C hG (c_M_worth l w S (xs (x3 + 1).toNatClampNeg) (xs (x3 + 2).toNatClampNeg) (xs (x3 + 3).toNatClampNeg) h2 _) (hG.lt (Nat.le_of_ble_eq_true rfl)) (ce49 w _) rfl vw_LW_142 rfl rfl ⟨by decide, by decide⟩ rfl hl.1 rfl (Nat.le_of_ble_eq_true rfl) d_LW_1074 (lw_cs h512)) (fun H locs hG => ?_)
  refine W.lcmp hx hb d_LW_1077 ?_
  refine lv_if_eq (tgt := 1401) hx hb d_LW_1078 (by decide) (fun hc => ?_) (fun hc => absurd (lg_cmp_same he) hc)
  refine W.widen (k := 73 + 2 * (i + 1)) (n := 7375 + 62 * (i + 1)) (by omega) (by omega) ?_
  exact K _ _ _ _ hI2 hG hl
set_option maxHeartbeats 4000000 in
set_option maxRecDepth 100000 in
theorem lc_31 (l : Launch) {p : Program} {e : Env} {s : State} {m : MethodId} {below : List Frame} {meth : Method} {c : Code} {b L : Nat} {xs : Nat → Int32} (C0 : lw_At p s m meth c b L xs) {i : Nat} {x3 : Int32} (ex3 : x3 = nI (6 * i)) (hi6 : 6 * i + 6 ≤ L) (hL : L ≤ 3072) {w : gw} {S : St} {H : Heap} {locs : List Loc} {ls : Array Slot} (hI : InvB w S i) (hG : GH w s (fun q : Nat => s.heap.size ≤ q) S H locs) (hl : lv_has ls 4 [(0, .ref b), (1, .ref (gad w 0)), (2, .ref (gad w 49)), (3, .int x3)]) (K : ∀ (w : gw) (S : St) (H : Heap) (locs : List Loc), InvB w S (i + 1) → GH w s (fun q : Nat => s.heap.size ≤ q) S H locs → lv_has ls 4 [(0, .ref b), (1, .ref (gad w 0)), (2, .ref (gad w 49)), (3, .int x3)] → W p l e room_1 s m #[Value.ref b] below meth c H locs (73 + 2 * (i + 1)) (7375 + 62 * (i + 1)) (lw_Z below #[Value.ref b] s) (F0 m 1401 ls [])) : W p l e room_1 s m #[Value.ref b] below meth c H locs (73 + 2 * i) (7375 + 62 * i) (lw_Z below #[Value.ref b] s) (F0 m 1083 ls []) := by
  obtain ⟨hx, hb, hr, hml, hown, hts, hX, hbl, hlocks, hgv⟩ := id C0
  have C : gCx p s m #[Value.ref b] meth c R_law code 4 ret := ⟨hx, hb, hml, hown, g_tbl hts, hr, hlocks⟩
  have hbA : ¬ (fun q : Nat => s.heap.size ≤ q) b := Nat.not_le.mpr hbl
  have h512 : i < 512 := by omega
  have hk1 : vp_in (x3 + 1) L := by rw [ex3]; exact lw_in (k := 1) (by omega) hL
  have hk2 : vp_in (x3 + 2) L := by rw [ex3]; exact lw_in (k := 2) (by omega) hL
  obtain ⟨z1, z2, h1, h2, he, hI2⟩ := opB_swap hI h512 (xs (x3 + 1).toNatClampNeg) (xs (x3 + 2).toNatClampNeg)
  refine lv_aload_n hx hb d_LW_1083 rfl (lv_at hl 1 rfl) ?_
  refine lv_aload_n hx hb d_LW_1084 rfl (lv_at hl 0 rfl) ?_
  refine lv_iload_n hx hb d_LW_1085 rfl (lv_at hl 3 rfl) ?_
  refine lv_iconst (v := 1) hx hb d_LW_1086 (by decide) ?_
  refine lv_iadd hx hb d_LW_1087 ?_
  refine va_sld hx hb hX hbl hbA hG.2.2.2.1 hk1 d_LW_1088 ?_
  refine lv_aload_n hx hb d_LW_1089 rfl (lv_at hl 0 rfl) ?_
  refine lv_iload_n hx hb d_LW_1090 rfl (lv_at hl 3 rfl) ?_
  refine lv_iconst (v := 2) hx hb d_LW_1091 (by decide) ?_
  refine lv_iadd hx hb d_LW_1092 ?_
  refine va_sld hx hb hX hbl hbA hG.2.2.2.1 hk2 d_LW_1093 ?_
  refine g_goi hG (g_runV (As := [.int (xs (x3 + 1).toNatClampNeg), .int (xs (x3 + 2).toNatClampNeg)]) (rest := []) C hG (c_X_swap l w S (xs (x3 + 1).toNatClampNeg) (xs (x3 + 2).toNatClampNeg) h1 _) (hG.lt (Nat.le_of_ble_eq_true rfl)) (ce0 w _) rfl vw_LW_143 rfl rfl ⟨by decide, by decide⟩ rfl hl.1 rfl (Nat.le_of_ble_eq_true rfl) d_LW_1094 (lw_cs h512)) (fun H locs hG => ?_)
  refine lv_aload_n hx hb d_LW_1097 rfl (lv_at hl 2 rfl) ?_
  refine lv_aload_n hx hb d_LW_1098 rfl (lv_at hl 0 rfl) ?_
  refine lv_iload_n hx hb d_LW_1099 rfl (lv_at hl 3 rfl) ?_
  refine lv_iconst (v := 1) hx hb d_LW_1100 (by decide) ?_
  refine lv_iadd hx hb d_LW_1101 ?_
  refine va_sld hx hb hX hbl hbA hG.2.2.2.1 hk1 d_LW_1102 ?_
  refine lv_aload_n hx hb d_LW_1103 rfl (lv_at hl 0 rfl) ?_
  refine lv_iload_n hx hb d_LW_1104 rfl (lv_at hl 3 rfl) ?_
  refine lv_iconst (v := 2) hx hb d_LW_1105 (by decide) ?_
  refine lv_iadd hx hb d_LW_1106 ?_
  refine va_sld hx hb hX hbl hbA hG.2.2.2.1 hk2 d_LW_1107 ?_
  refine g_goi hG (g_runV (As := [.int (xs (x3 + 1).toNatClampNeg), .int (xs (x3 + 2).toNatClampNeg)]) (rest := [.int z1.1]) C hG (c_M_swap l w z1.2 (xs (x3 + 1).toNatClampNeg) (xs (x3 + 2).toNatClampNeg) h2 _) (hG.lt (Nat.le_of_ble_eq_true rfl)) (ce49 w _) rfl vw_LW_146 rfl rfl ⟨by decide, by decide⟩ rfl hl.1 rfl (Nat.le_of_ble_eq_true rfl) d_LW_1108 (lw_cs h512)) (fun H locs hG => ?_)
  refine lv_icmp_eq (tgt := 1401) hx hb d_LW_1111 (by decide) (fun hc => ?_) (fun hc => absurd he hc)
  refine W.widen (k := 73 + 2 * (i + 1)) (n := 7375 + 62 * (i + 1)) (by omega) (by omega) ?_
  exact K _ _ _ _ hI2 hG hl
set_option maxHeartbeats 4000000 in
set_option maxRecDepth 100000 in
theorem lc_32 (l : Launch) {p : Program} {e : Env} {s : State} {m : MethodId} {below : List Frame} {meth : Method} {c : Code} {b L : Nat} {xs : Nat → Int32} (C0 : lw_At p s m meth c b L xs) {i : Nat} {x3 : Int32} (ex3 : x3 = nI (6 * i)) (hi6 : 6 * i + 6 ≤ L) (hL : L ≤ 3072) {w : gw} {S : St} {H : Heap} {locs : List Loc} {ls : Array Slot} (hI : InvB w S i) (hG : GH w s (fun q : Nat => s.heap.size ≤ q) S H locs) (hl : lv_has ls 4 [(0, .ref b), (1, .ref (gad w 0)), (2, .ref (gad w 49)), (3, .int x3)]) (K : ∀ (w : gw) (S : St) (H : Heap) (locs : List Loc), InvB w S (i + 1) → GH w s (fun q : Nat => s.heap.size ≤ q) S H locs → lv_has ls 4 [(0, .ref b), (1, .ref (gad w 0)), (2, .ref (gad w 49)), (3, .int x3)] → W p l e room_1 s m #[Value.ref b] below meth c H locs (73 + 2 * (i + 1)) (7375 + 62 * (i + 1)) (lw_Z below #[Value.ref b] s) (F0 m 1401 ls [])) : W p l e room_1 s m #[Value.ref b] below meth c H locs (73 + 2 * i) (7375 + 62 * i) (lw_Z below #[Value.ref b] s) (F0 m 1116 ls []) := by
  obtain ⟨hx, hb, hr, hml, hown, hts, hX, hbl, hlocks, hgv⟩ := id C0
  have C : gCx p s m #[Value.ref b] meth c R_law code 4 ret := ⟨hx, hb, hml, hown, g_tbl hts, hr, hlocks⟩
  have hbA : ¬ (fun q : Nat => s.heap.size ≤ q) b := Nat.not_le.mpr hbl
  have h512 : i < 512 := by omega
  have hk1 : vp_in (x3 + 1) L := by rw [ex3]; exact lw_in (k := 1) (by omega) hL
  have hk2 : vp_in (x3 + 2) L := by rw [ex3]; exact lw_in (k := 2) (by omega) hL
  have hk3 : vp_in (x3 + 3) L := by rw [ex3]; exact lw_in (k := 3) (by omega) hL
  have h48 := InvB_48 hI
  refine lv_aload_n hx hb d_LW_1116 rfl (lv_at hl 1 rfl) ?_
  refine lv_aload_n hx hb d_LW_1117 rfl (lv_at hl 0 rfl) ?_
  refine lv_iload_n hx hb d_LW_1118 rfl (lv_at hl 3 rfl) ?_
  refine lv_iconst (v := 1) hx hb d_LW_1119 (by decide) ?_
  refine lv_iadd hx hb d_LW_1120 ?_
  refine va_sld hx hb hX hbl hbA hG.2.2.2.1 hk1 d_LW_1121 ?_
  refine lv_aload_n hx hb d_LW_1122 rfl (lv_at hl 0 rfl) ?_
  refine lv_iload_n hx hb d_LW_1123 rfl (lv_at hl 3 rfl) ?_
  refine lv_iconst (v := 2) hx hb d_LW_1124 (by decide) ?_
  refine lv_iadd hx hb d_LW_1125 ?_
  refine va_sld hx hb hX hbl hbA hG.2.2.2.1 hk2 d_LW_1126 ?_
  refine lv_aload_n hx hb d_LW_1127 rfl (lv_at hl 0 rfl) ?_
  refine lv_iload_n hx hb d_LW_1128 rfl (lv_at hl 3 rfl) ?_
  refine lv_iconst (v := 3) hx hb d_LW_1129 (by decide) ?_
  refine lv_iadd hx hb d_LW_1130 ?_
  refine va_sld hx hb hX hbl hbA hG.2.2.2.1 hk3 d_LW_1131 ?_
  refine g_sheet C hG h48 hl.1 vw_LW_147 (lw_cs2 h512) d_LW_1132 (fun r u H locs hu hG => ?_)
  obtain ⟨z2, h2, he, hI2⟩ := opB_sheet hI h512 (xs (x3 + 1).toNatClampNeg) (xs (x3 + 2).toNatClampNeg) (xs (x3 + 3).toNatClampNeg) r u hu
  have hl : lv_has ls 4 [(0, .ref b), (1, .ref (gad u.1 0)), (2, .ref (gad u.1 49)), (3, .int x3)] := by rw [shR_ad (InvB_48 hI) hu (by decide), shR_ad (InvB_48 hI) hu (by decide)]; exact hl
  refine lv_aload_n hx hb d_LW_1135 rfl (lv_at hl 2 rfl) ?_
  refine lv_aload_n hx hb d_LW_1136 rfl (lv_at hl 0 rfl) ?_
  refine lv_iload_n hx hb d_LW_1137 rfl (lv_at hl 3 rfl) ?_
  refine lv_iconst (v := 1) hx hb d_LW_1138 (by decide) ?_
  refine lv_iadd hx hb d_LW_1139 ?_
  refine va_sld hx hb hX hbl hbA hG.2.2.2.1 hk1 d_LW_1140 ?_
  refine lv_aload_n hx hb d_LW_1141 rfl (lv_at hl 0 rfl) ?_
  refine lv_iload_n hx hb d_LW_1142 rfl (lv_at hl 3 rfl) ?_
  refine lv_iconst (v := 2) hx hb d_LW_1143 (by decide) ?_
  refine lv_iadd hx hb d_LW_1144 ?_
  refine va_sld hx hb hX hbl hbA hG.2.2.2.1 hk2 d_LW_1145 ?_
  refine lv_aload_n hx hb d_LW_1146 rfl (lv_at hl 0 rfl) ?_
  refine lv_iload_n hx hb d_LW_1147 rfl (lv_at hl 3 rfl) ?_
  refine lv_iconst (v := 3) hx hb d_LW_1148 (by decide) ?_
  refine lv_iadd hx hb d_LW_1149 ?_
  refine va_sld hx hb hX hbl hbA hG.2.2.2.1 hk3 d_LW_1150 ?_
  refine g_goi hG (g_runV (As := [.int (xs (x3 + 1).toNatClampNeg), .int (xs (x3 + 2).toNatClampNeg), .int (xs (x3 + 3).toNatClampNeg)]) (rest := [.int r]) C hG (c_M_sheet l u.1 u.2 (xs (x3 + 1).toNatClampNeg) (xs (x3 + 2).toNatClampNeg) (xs (x3 + 3).toNatClampNeg) h2 _) (hG.lt (Nat.le_of_ble_eq_true rfl)) (ce49 u.1 _) rfl vw_LW_150 rfl rfl ⟨by decide, by decide⟩ rfl hl.1 rfl (Nat.le_of_ble_eq_true rfl) d_LW_1151 (lw_cs2 h512)) (fun H locs hG => ?_)
  refine lv_icmp_eq (tgt := 1401) hx hb d_LW_1154 (by decide) (fun hc => ?_) (fun hc => absurd he hc)
  refine W.widen (k := 73 + 2 * (i + 1)) (n := 7375 + 62 * (i + 1)) (by omega) (by omega) ?_
  exact K _ _ _ _ hI2 hG hl
set_option maxHeartbeats 4000000 in
set_option maxRecDepth 100000 in
theorem lc_33 (l : Launch) {p : Program} {e : Env} {s : State} {m : MethodId} {below : List Frame} {meth : Method} {c : Code} {b L : Nat} {xs : Nat → Int32} (C0 : lw_At p s m meth c b L xs) {i : Nat} {x3 : Int32} (ex3 : x3 = nI (6 * i)) (hi6 : 6 * i + 6 ≤ L) (hL : L ≤ 3072) {w : gw} {S : St} {H : Heap} {locs : List Loc} {ls : Array Slot} (hI : InvB w S i) (hG : GH w s (fun q : Nat => s.heap.size ≤ q) S H locs) (hl : lv_has ls 4 [(0, .ref b), (1, .ref (gad w 0)), (2, .ref (gad w 49)), (3, .int x3)]) (K : ∀ (w : gw) (S : St) (H : Heap) (locs : List Loc), InvB w S (i + 1) → GH w s (fun q : Nat => s.heap.size ≤ q) S H locs → lv_has ls 4 [(0, .ref b), (1, .ref (gad w 0)), (2, .ref (gad w 49)), (3, .int x3)] → W p l e room_1 s m #[Value.ref b] below meth c H locs (73 + 2 * (i + 1)) (7375 + 62 * (i + 1)) (lw_Z below #[Value.ref b] s) (F0 m 1401 ls [])) : W p l e room_1 s m #[Value.ref b] below meth c H locs (73 + 2 * i) (7375 + 62 * i) (lw_Z below #[Value.ref b] s) (F0 m 1159 ls []) := by
  obtain ⟨hx, hb, hr, hml, hown, hts, hX, hbl, hlocks, hgv⟩ := id C0
  have C : gCx p s m #[Value.ref b] meth c R_law code 4 ret := ⟨hx, hb, hml, hown, g_tbl hts, hr, hlocks⟩
  have hbA : ¬ (fun q : Nat => s.heap.size ≤ q) b := Nat.not_le.mpr hbl
  have h512 : i < 512 := by omega
  have hk1 : vp_in (x3 + 1) L := by rw [ex3]; exact lw_in (k := 1) (by omega) hL
  obtain ⟨z1, z2, h1, h2, he, hI2⟩ := opB_lose hI h512 (xs (x3 + 1).toNatClampNeg)
  refine lv_aload_n hx hb d_LW_1159 rfl (lv_at hl 1 rfl) ?_
  refine lv_aload_n hx hb d_LW_1160 rfl (lv_at hl 0 rfl) ?_
  refine lv_iload_n hx hb d_LW_1161 rfl (lv_at hl 3 rfl) ?_
  refine lv_iconst (v := 1) hx hb d_LW_1162 (by decide) ?_
  refine lv_iadd hx hb d_LW_1163 ?_
  refine va_sld hx hb hX hbl hbA hG.2.2.2.1 hk1 d_LW_1164 ?_
  refine g_goi hG (g_runV (As := [.int (xs (x3 + 1).toNatClampNeg)]) (rest := []) C hG (c_X_lose l w S (xs (x3 + 1).toNatClampNeg) h1 _) (hG.lt (Nat.le_of_ble_eq_true rfl)) (ce0 w _) rfl vw_LW_151 rfl rfl ⟨by decide, by decide⟩ rfl hl.1 rfl (Nat.le_of_ble_eq_true rfl) d_LW_1165 (lw_cs h512)) (fun H locs hG => ?_)
  refine lv_aload_n hx hb d_LW_1168 rfl (lv_at hl 2 rfl) ?_
  refine lv_aload_n hx hb d_LW_1169 rfl (lv_at hl 0 rfl) ?_
  refine lv_iload_n hx hb d_LW_1170 rfl (lv_at hl 3 rfl) ?_
  refine lv_iconst (v := 1) hx hb d_LW_1171 (by decide) ?_
  refine lv_iadd hx hb d_LW_1172 ?_
  refine va_sld hx hb hX hbl hbA hG.2.2.2.1 hk1 d_LW_1173 ?_
  refine g_goi hG (g_runV (As := [.int (xs (x3 + 1).toNatClampNeg)]) (rest := [.int z1.1]) C hG (c_M_lose l w z1.2 (xs (x3 + 1).toNatClampNeg) h2 _) (hG.lt (Nat.le_of_ble_eq_true rfl)) (ce49 w _) rfl vw_LW_154 rfl rfl ⟨by decide, by decide⟩ rfl hl.1 rfl (Nat.le_of_ble_eq_true rfl) d_LW_1174 (lw_cs h512)) (fun H locs hG => ?_)
  refine lv_icmp_eq (tgt := 1401) hx hb d_LW_1177 (by decide) (fun hc => ?_) (fun hc => absurd he hc)
  refine W.widen (k := 73 + 2 * (i + 1)) (n := 7375 + 62 * (i + 1)) (by omega) (by omega) ?_
  exact K _ _ _ _ hI2 hG hl
set_option maxHeartbeats 4000000 in
set_option maxRecDepth 100000 in
theorem lc_34 (l : Launch) {p : Program} {e : Env} {s : State} {m : MethodId} {below : List Frame} {meth : Method} {c : Code} {b L : Nat} {xs : Nat → Int32} (C0 : lw_At p s m meth c b L xs) {i : Nat} {x3 : Int32} (ex3 : x3 = nI (6 * i)) (hi6 : 6 * i + 6 ≤ L) (hL : L ≤ 3072) {w : gw} {S : St} {H : Heap} {locs : List Loc} {ls : Array Slot} (hI : InvB w S i) (hG : GH w s (fun q : Nat => s.heap.size ≤ q) S H locs) (hl : lv_has ls 4 [(0, .ref b), (1, .ref (gad w 0)), (2, .ref (gad w 49)), (3, .int x3)]) (K : ∀ (w : gw) (S : St) (H : Heap) (locs : List Loc), InvB w S (i + 1) → GH w s (fun q : Nat => s.heap.size ≤ q) S H locs → lv_has ls 4 [(0, .ref b), (1, .ref (gad w 0)), (2, .ref (gad w 49)), (3, .int x3)] → W p l e room_1 s m #[Value.ref b] below meth c H locs (73 + 2 * (i + 1)) (7375 + 62 * (i + 1)) (lw_Z below #[Value.ref b] s) (F0 m 1401 ls [])) : W p l e room_1 s m #[Value.ref b] below meth c H locs (73 + 2 * i) (7375 + 62 * i) (lw_Z below #[Value.ref b] s) (F0 m 1182 ls []) := by
  obtain ⟨hx, hb, hr, hml, hown, hts, hX, hbl, hlocks, hgv⟩ := id C0
  have C : gCx p s m #[Value.ref b] meth c R_law code 4 ret := ⟨hx, hb, hml, hown, g_tbl hts, hr, hlocks⟩
  have hbA : ¬ (fun q : Nat => s.heap.size ≤ q) b := Nat.not_le.mpr hbl
  have h512 : i < 512 := by omega
  have hk1 : vp_in (x3 + 1) L := by rw [ex3]; exact lw_in (k := 1) (by omega) hL
  have hk2 : vp_in (x3 + 2) L := by rw [ex3]; exact lw_in (k := 2) (by omega) hL
  have hk3 : vp_in (x3 + 3) L := by rw [ex3]; exact lw_in (k := 3) (by omega) hL
  have hk4 : vp_in (x3 + 4) L := by rw [ex3]; exact lw_in (k := 4) (by omega) hL
  obtain ⟨z1, z2, h1, h2, he, hI2⟩ := opB_lay hI h512 (xs (x3 + 1).toNatClampNeg) (xs (x3 + 2).toNatClampNeg) (xs (x3 + 3).toNatClampNeg) (xs (x3 + 4).toNatClampNeg)
  refine lv_aload_n hx hb d_LW_1182 rfl (lv_at hl 1 rfl) ?_
  refine lv_aload_n hx hb d_LW_1183 rfl (lv_at hl 0 rfl) ?_
  refine lv_iload_n hx hb d_LW_1184 rfl (lv_at hl 3 rfl) ?_
  refine lv_iconst (v := 1) hx hb d_LW_1185 (by decide) ?_
  refine lv_iadd hx hb d_LW_1186 ?_
  refine va_sld hx hb hX hbl hbA hG.2.2.2.1 hk1 d_LW_1187 ?_
  refine lv_aload_n hx hb d_LW_1188 rfl (lv_at hl 0 rfl) ?_
  refine lv_iload_n hx hb d_LW_1189 rfl (lv_at hl 3 rfl) ?_
  refine lv_iconst (v := 2) hx hb d_LW_1190 (by decide) ?_
  refine lv_iadd hx hb d_LW_1191 ?_
  refine va_sld hx hb hX hbl hbA hG.2.2.2.1 hk2 d_LW_1192 ?_
  refine lv_aload_n hx hb d_LW_1193 rfl (lv_at hl 0 rfl) ?_
  refine lv_iload_n hx hb d_LW_1194 rfl (lv_at hl 3 rfl) ?_
  refine lv_iconst (v := 3) hx hb d_LW_1195 (by decide) ?_
  refine lv_iadd hx hb d_LW_1196 ?_
  refine va_sld hx hb hX hbl hbA hG.2.2.2.1 hk3 d_LW_1197 ?_
  refine lv_aload_n hx hb d_LW_1198 rfl (lv_at hl 0 rfl) ?_
  refine lv_iload_n hx hb d_LW_1199 rfl (lv_at hl 3 rfl) ?_
  refine lv_iconst (v := 4) hx hb d_LW_1200 (by decide) ?_
  refine lv_iadd hx hb d_LW_1201 ?_
  refine va_sld hx hb hX hbl hbA hG.2.2.2.1 hk4 d_LW_1202 ?_
  refine g_goi hG (g_runV (As := [.int (xs (x3 + 1).toNatClampNeg), .int (xs (x3 + 2).toNatClampNeg), .int (xs (x3 + 3).toNatClampNeg), .int (xs (x3 + 4).toNatClampNeg)]) (rest := []) C hG (c_X_lay l w S (xs (x3 + 1).toNatClampNeg) (xs (x3 + 2).toNatClampNeg) (xs (x3 + 3).toNatClampNeg) (xs (x3 + 4).toNatClampNeg) h1 _) (hG.lt (Nat.le_of_ble_eq_true rfl)) (ce0 w _) rfl vw_LW_155 rfl rfl ⟨by decide, by decide⟩ rfl hl.1 rfl (Nat.le_of_ble_eq_true rfl) d_LW_1203 (lw_cs h512)) (fun H locs hG => ?_)
  refine lv_aload_n hx hb d_LW_1206 rfl (lv_at hl 2 rfl) ?_
  refine lv_aload_n hx hb d_LW_1207 rfl (lv_at hl 0 rfl) ?_
  refine lv_iload_n hx hb d_LW_1208 rfl (lv_at hl 3 rfl) ?_
  refine lv_iconst (v := 1) hx hb d_LW_1209 (by decide) ?_
  refine lv_iadd hx hb d_LW_1210 ?_
  refine va_sld hx hb hX hbl hbA hG.2.2.2.1 hk1 d_LW_1211 ?_
  refine lv_aload_n hx hb d_LW_1212 rfl (lv_at hl 0 rfl) ?_
  refine lv_iload_n hx hb d_LW_1213 rfl (lv_at hl 3 rfl) ?_
  refine lv_iconst (v := 2) hx hb d_LW_1214 (by decide) ?_
  refine lv_iadd hx hb d_LW_1215 ?_
  refine va_sld hx hb hX hbl hbA hG.2.2.2.1 hk2 d_LW_1216 ?_
  refine lv_aload_n hx hb d_LW_1217 rfl (lv_at hl 0 rfl) ?_
  refine lv_iload_n hx hb d_LW_1218 rfl (lv_at hl 3 rfl) ?_
  refine lv_iconst (v := 3) hx hb d_LW_1219 (by decide) ?_
  refine lv_iadd hx hb d_LW_1220 ?_
  refine va_sld hx hb hX hbl hbA hG.2.2.2.1 hk3 d_LW_1221 ?_
  refine lv_aload_n hx hb d_LW_1222 rfl (lv_at hl 0 rfl) ?_
  refine lv_iload_n hx hb d_LW_1223 rfl (lv_at hl 3 rfl) ?_
  refine lv_iconst (v := 4) hx hb d_LW_1224 (by decide) ?_
  refine lv_iadd hx hb d_LW_1225 ?_
  refine va_sld hx hb hX hbl hbA hG.2.2.2.1 hk4 d_LW_1226 ?_
  refine g_goi hG (g_runV (As := [.int (xs (x3 + 1).toNatClampNeg), .int (xs (x3 + 2).toNatClampNeg), .int (xs (x3 + 3).toNatClampNeg), .int (xs (x3 + 4).toNatClampNeg)]) (rest := [.int z1.1]) C hG (c_M_lay l w z1.2 (xs (x3 + 1).toNatClampNeg) (xs (x3 + 2).toNatClampNeg) (xs (x3 + 3).toNatClampNeg) (xs (x3 + 4).toNatClampNeg) h2 _) (hG.lt (Nat.le_of_ble_eq_true rfl)) (ce49 w _) rfl vw_LW_159 rfl rfl ⟨by decide, by decide⟩ rfl hl.1 rfl (Nat.le_of_ble_eq_true rfl) d_LW_1227 (lw_cs h512)) (fun H locs hG => ?_)
  refine lv_icmp_eq (tgt := 1401) hx hb d_LW_1230 (by decide) (fun hc => ?_) (fun hc => absurd he hc)
  refine W.widen (k := 73 + 2 * (i + 1)) (n := 7375 + 62 * (i + 1)) (by omega) (by omega) ?_
  exact K _ _ _ _ hI2 hG hl
set_option maxHeartbeats 4000000 in
set_option maxRecDepth 100000 in
theorem lc_35 (l : Launch) {p : Program} {e : Env} {s : State} {m : MethodId} {below : List Frame} {meth : Method} {c : Code} {b L : Nat} {xs : Nat → Int32} (C0 : lw_At p s m meth c b L xs) {i : Nat} {x3 : Int32} (ex3 : x3 = nI (6 * i)) (hi6 : 6 * i + 6 ≤ L) (hL : L ≤ 3072) {w : gw} {S : St} {H : Heap} {locs : List Loc} {ls : Array Slot} (hI : InvB w S i) (hG : GH w s (fun q : Nat => s.heap.size ≤ q) S H locs) (hl : lv_has ls 4 [(0, .ref b), (1, .ref (gad w 0)), (2, .ref (gad w 49)), (3, .int x3)]) (K : ∀ (w : gw) (S : St) (H : Heap) (locs : List Loc), InvB w S (i + 1) → GH w s (fun q : Nat => s.heap.size ≤ q) S H locs → lv_has ls 4 [(0, .ref b), (1, .ref (gad w 0)), (2, .ref (gad w 49)), (3, .int x3)] → W p l e room_1 s m #[Value.ref b] below meth c H locs (73 + 2 * (i + 1)) (7375 + 62 * (i + 1)) (lw_Z below #[Value.ref b] s) (F0 m 1401 ls [])) : W p l e room_1 s m #[Value.ref b] below meth c H locs (73 + 2 * i) (7375 + 62 * i) (lw_Z below #[Value.ref b] s) (F0 m 1235 ls []) := by
  obtain ⟨hx, hb, hr, hml, hown, hts, hX, hbl, hlocks, hgv⟩ := id C0
  have C : gCx p s m #[Value.ref b] meth c R_law code 4 ret := ⟨hx, hb, hml, hown, g_tbl hts, hr, hlocks⟩
  have hbA : ¬ (fun q : Nat => s.heap.size ≤ q) b := Nat.not_le.mpr hbl
  have h512 : i < 512 := by omega
  have hk1 : vp_in (x3 + 1) L := by rw [ex3]; exact lw_in (k := 1) (by omega) hL
  have hk2 : vp_in (x3 + 2) L := by rw [ex3]; exact lw_in (k := 2) (by omega) hL
  have hk3 : vp_in (x3 + 3) L := by rw [ex3]; exact lw_in (k := 3) (by omega) hL
  obtain ⟨z1, z2, h1, h2, he, hI2⟩ := opB_get hI h512 (xs (x3 + 1).toNatClampNeg) (xs (x3 + 2).toNatClampNeg) (xs (x3 + 3).toNatClampNeg)
  refine lv_aload_n hx hb d_LW_1235 rfl (lv_at hl 1 rfl) ?_
  refine lv_aload_n hx hb d_LW_1236 rfl (lv_at hl 0 rfl) ?_
  refine lv_iload_n hx hb d_LW_1237 rfl (lv_at hl 3 rfl) ?_
  refine lv_iconst (v := 1) hx hb d_LW_1238 (by decide) ?_
  refine lv_iadd hx hb d_LW_1239 ?_
  refine va_sld hx hb hX hbl hbA hG.2.2.2.1 hk1 d_LW_1240 ?_
  refine lv_aload_n hx hb d_LW_1241 rfl (lv_at hl 0 rfl) ?_
  refine lv_iload_n hx hb d_LW_1242 rfl (lv_at hl 3 rfl) ?_
  refine lv_iconst (v := 2) hx hb d_LW_1243 (by decide) ?_
  refine lv_iadd hx hb d_LW_1244 ?_
  refine va_sld hx hb hX hbl hbA hG.2.2.2.1 hk2 d_LW_1245 ?_
  refine lv_aload_n hx hb d_LW_1246 rfl (lv_at hl 0 rfl) ?_
  refine lv_iload_n hx hb d_LW_1247 rfl (lv_at hl 3 rfl) ?_
  refine lv_iconst (v := 3) hx hb d_LW_1248 (by decide) ?_
  refine lv_iadd hx hb d_LW_1249 ?_
  refine va_sld hx hb hX hbl hbA hG.2.2.2.1 hk3 d_LW_1250 ?_
  refine g_goi hG (g_runV (As := [.int (xs (x3 + 1).toNatClampNeg), .int (xs (x3 + 2).toNatClampNeg), .int (xs (x3 + 3).toNatClampNeg)]) (rest := []) C hG (c_X_get l w S (xs (x3 + 1).toNatClampNeg) (xs (x3 + 2).toNatClampNeg) (xs (x3 + 3).toNatClampNeg) h1 _) (hG.lt (Nat.le_of_ble_eq_true rfl)) (ce0 w _) rfl vw_LW_160 rfl rfl ⟨by decide, by decide⟩ rfl hl.1 rfl (Nat.le_of_ble_eq_true rfl) d_LW_1251 (lw_cs h512)) (fun H locs hG => ?_)
  refine lv_aload_n hx hb d_LW_1254 rfl (lv_at hl 2 rfl) ?_
  refine lv_aload_n hx hb d_LW_1255 rfl (lv_at hl 0 rfl) ?_
  refine lv_iload_n hx hb d_LW_1256 rfl (lv_at hl 3 rfl) ?_
  refine lv_iconst (v := 1) hx hb d_LW_1257 (by decide) ?_
  refine lv_iadd hx hb d_LW_1258 ?_
  refine va_sld hx hb hX hbl hbA hG.2.2.2.1 hk1 d_LW_1259 ?_
  refine lv_aload_n hx hb d_LW_1260 rfl (lv_at hl 0 rfl) ?_
  refine lv_iload_n hx hb d_LW_1261 rfl (lv_at hl 3 rfl) ?_
  refine lv_iconst (v := 2) hx hb d_LW_1262 (by decide) ?_
  refine lv_iadd hx hb d_LW_1263 ?_
  refine va_sld hx hb hX hbl hbA hG.2.2.2.1 hk2 d_LW_1264 ?_
  refine lv_aload_n hx hb d_LW_1265 rfl (lv_at hl 0 rfl) ?_
  refine lv_iload_n hx hb d_LW_1266 rfl (lv_at hl 3 rfl) ?_
  refine lv_iconst (v := 3) hx hb d_LW_1267 (by decide) ?_
  refine lv_iadd hx hb d_LW_1268 ?_
  refine va_sld hx hb hX hbl hbA hG.2.2.2.1 hk3 d_LW_1269 ?_
  refine g_goi hG (g_runV (As := [.int (xs (x3 + 1).toNatClampNeg), .int (xs (x3 + 2).toNatClampNeg), .int (xs (x3 + 3).toNatClampNeg)]) (rest := [.int z1.1]) C hG (c_M_get l w z1.2 (xs (x3 + 1).toNatClampNeg) (xs (x3 + 2).toNatClampNeg) (xs (x3 + 3).toNatClampNeg) h2 _) (hG.lt (Nat.le_of_ble_eq_true rfl)) (ce49 w _) rfl vw_LW_163 rfl rfl ⟨by decide, by decide⟩ rfl hl.1 rfl (Nat.le_of_ble_eq_true rfl) d_LW_1270 (lw_cs h512)) (fun H locs hG => ?_)
  refine lv_icmp_eq (tgt := 1401) hx hb d_LW_1273 (by decide) (fun hc => ?_) (fun hc => absurd he hc)
  refine W.widen (k := 73 + 2 * (i + 1)) (n := 7375 + 62 * (i + 1)) (by omega) (by omega) ?_
  exact K _ _ _ _ hI2 hG hl
set_option maxHeartbeats 4000000 in
set_option maxRecDepth 100000 in
theorem lc_36 (l : Launch) {p : Program} {e : Env} {s : State} {m : MethodId} {below : List Frame} {meth : Method} {c : Code} {b L : Nat} {xs : Nat → Int32} (C0 : lw_At p s m meth c b L xs) {i : Nat} {x3 : Int32} (ex3 : x3 = nI (6 * i)) (hi6 : 6 * i + 6 ≤ L) (hL : L ≤ 3072) {w : gw} {S : St} {H : Heap} {locs : List Loc} {ls : Array Slot} (hI : InvB w S i) (hG : GH w s (fun q : Nat => s.heap.size ≤ q) S H locs) (hl : lv_has ls 4 [(0, .ref b), (1, .ref (gad w 0)), (2, .ref (gad w 49)), (3, .int x3)]) (K : ∀ (w : gw) (S : St) (H : Heap) (locs : List Loc), InvB w S (i + 1) → GH w s (fun q : Nat => s.heap.size ≤ q) S H locs → lv_has ls 4 [(0, .ref b), (1, .ref (gad w 0)), (2, .ref (gad w 49)), (3, .int x3)] → W p l e room_1 s m #[Value.ref b] below meth c H locs (73 + 2 * (i + 1)) (7375 + 62 * (i + 1)) (lw_Z below #[Value.ref b] s) (F0 m 1401 ls [])) : W p l e room_1 s m #[Value.ref b] below meth c H locs (73 + 2 * i) (7375 + 62 * i) (lw_Z below #[Value.ref b] s) (F0 m 1278 ls []) := by
  obtain ⟨hx, hb, hr, hml, hown, hts, hX, hbl, hlocks, hgv⟩ := id C0
  have C : gCx p s m #[Value.ref b] meth c R_law code 4 ret := ⟨hx, hb, hml, hown, g_tbl hts, hr, hlocks⟩
  have hbA : ¬ (fun q : Nat => s.heap.size ≤ q) b := Nat.not_le.mpr hbl
  have h512 : i < 512 := by omega
  have hk1 : vp_in (x3 + 1) L := by rw [ex3]; exact lw_in (k := 1) (by omega) hL
  have hk2 : vp_in (x3 + 2) L := by rw [ex3]; exact lw_in (k := 2) (by omega) hL
  have hk3 : vp_in (x3 + 3) L := by rw [ex3]; exact lw_in (k := 3) (by omega) hL
  have hk4 : vp_in (x3 + 4) L := by rw [ex3]; exact lw_in (k := 4) (by omega) hL
  have hk5 : vp_in (x3 + 5) L := by rw [ex3]; exact lw_in (k := 5) (by omega) hL
  obtain ⟨z1, z2, h1, h2, he, hI2⟩ := opB_copy hI h512 (xs (x3 + 1).toNatClampNeg) (xs (x3 + 2).toNatClampNeg) (xs (x3 + 3).toNatClampNeg) (xs (x3 + 4).toNatClampNeg) (xs (x3 + 5).toNatClampNeg)
  refine lv_aload_n hx hb d_LW_1278 rfl (lv_at hl 1 rfl) ?_
  refine lv_aload_n hx hb d_LW_1279 rfl (lv_at hl 0 rfl) ?_
  refine lv_iload_n hx hb d_LW_1280 rfl (lv_at hl 3 rfl) ?_
  refine lv_iconst (v := 1) hx hb d_LW_1281 (by decide) ?_
  refine lv_iadd hx hb d_LW_1282 ?_
  refine va_sld hx hb hX hbl hbA hG.2.2.2.1 hk1 d_LW_1283 ?_
  refine lv_aload_n hx hb d_LW_1284 rfl (lv_at hl 0 rfl) ?_
  refine lv_iload_n hx hb d_LW_1285 rfl (lv_at hl 3 rfl) ?_
  refine lv_iconst (v := 2) hx hb d_LW_1286 (by decide) ?_
  refine lv_iadd hx hb d_LW_1287 ?_
  refine va_sld hx hb hX hbl hbA hG.2.2.2.1 hk2 d_LW_1288 ?_
  refine lv_aload_n hx hb d_LW_1289 rfl (lv_at hl 0 rfl) ?_
  refine lv_iload_n hx hb d_LW_1290 rfl (lv_at hl 3 rfl) ?_
  refine lv_iconst (v := 3) hx hb d_LW_1291 (by decide) ?_
  refine lv_iadd hx hb d_LW_1292 ?_
  refine va_sld hx hb hX hbl hbA hG.2.2.2.1 hk3 d_LW_1293 ?_
  refine lv_aload_n hx hb d_LW_1294 rfl (lv_at hl 0 rfl) ?_
  refine lv_iload_n hx hb d_LW_1295 rfl (lv_at hl 3 rfl) ?_
  refine lv_iconst (v := 4) hx hb d_LW_1296 (by decide) ?_
  refine lv_iadd hx hb d_LW_1297 ?_
  refine va_sld hx hb hX hbl hbA hG.2.2.2.1 hk4 d_LW_1298 ?_
  refine lv_aload_n hx hb d_LW_1299 rfl (lv_at hl 0 rfl) ?_
  refine lv_iload_n hx hb d_LW_1300 rfl (lv_at hl 3 rfl) ?_
  refine lv_iconst (v := 5) hx hb d_LW_1301 (by decide) ?_
  refine lv_iadd hx hb d_LW_1302 ?_
  refine va_sld hx hb hX hbl hbA hG.2.2.2.1 hk5 d_LW_1303 ?_
  refine g_goi hG (g_runV (As := [.int (xs (x3 + 1).toNatClampNeg), .int (xs (x3 + 2).toNatClampNeg), .int (xs (x3 + 3).toNatClampNeg), .int (xs (x3 + 4).toNatClampNeg), .int (xs (x3 + 5).toNatClampNeg)]) (rest := []) C hG (c_X_copy l w S (xs (x3 + 1).toNatClampNeg) (xs (x3 + 2).toNatClampNeg) (xs (x3 + 3).toNatClampNeg) (xs (x3 + 4).toNatClampNeg) (xs (x3 + 5).toNatClampNeg) h1 _) (hG.lt (Nat.le_of_ble_eq_true rfl)) (ce0 w _) rfl vw_LW_164 rfl rfl ⟨by decide, by decide⟩ rfl hl.1 rfl (Nat.le_of_ble_eq_true rfl) d_LW_1304 (lw_cs h512)) (fun H locs hG => ?_)
  refine lv_aload_n hx hb d_LW_1307 rfl (lv_at hl 2 rfl) ?_
  refine lv_aload_n hx hb d_LW_1308 rfl (lv_at hl 0 rfl) ?_
  refine lv_iload_n hx hb d_LW_1309 rfl (lv_at hl 3 rfl) ?_
  refine lv_iconst (v := 1) hx hb d_LW_1310 (by decide) ?_
  refine lv_iadd hx hb d_LW_1311 ?_
  refine va_sld hx hb hX hbl hbA hG.2.2.2.1 hk1 d_LW_1312 ?_
  refine lv_aload_n hx hb d_LW_1313 rfl (lv_at hl 0 rfl) ?_
  refine lv_iload_n hx hb d_LW_1314 rfl (lv_at hl 3 rfl) ?_
  refine lv_iconst (v := 2) hx hb d_LW_1315 (by decide) ?_
  refine lv_iadd hx hb d_LW_1316 ?_
  refine va_sld hx hb hX hbl hbA hG.2.2.2.1 hk2 d_LW_1317 ?_
  refine lv_aload_n hx hb d_LW_1318 rfl (lv_at hl 0 rfl) ?_
  refine lv_iload_n hx hb d_LW_1319 rfl (lv_at hl 3 rfl) ?_
  refine lv_iconst (v := 3) hx hb d_LW_1320 (by decide) ?_
  refine lv_iadd hx hb d_LW_1321 ?_
  refine va_sld hx hb hX hbl hbA hG.2.2.2.1 hk3 d_LW_1322 ?_
  refine lv_aload_n hx hb d_LW_1323 rfl (lv_at hl 0 rfl) ?_
  refine lv_iload_n hx hb d_LW_1324 rfl (lv_at hl 3 rfl) ?_
  refine lv_iconst (v := 4) hx hb d_LW_1325 (by decide) ?_
  refine lv_iadd hx hb d_LW_1326 ?_
  refine va_sld hx hb hX hbl hbA hG.2.2.2.1 hk4 d_LW_1327 ?_
  refine lv_aload_n hx hb d_LW_1328 rfl (lv_at hl 0 rfl) ?_
  refine lv_iload_n hx hb d_LW_1329 rfl (lv_at hl 3 rfl) ?_
  refine lv_iconst (v := 5) hx hb d_LW_1330 (by decide) ?_
  refine lv_iadd hx hb d_LW_1331 ?_
  refine va_sld hx hb hX hbl hbA hG.2.2.2.1 hk5 d_LW_1332 ?_
  refine g_goi hG (g_runV (As := [.int (xs (x3 + 1).toNatClampNeg), .int (xs (x3 + 2).toNatClampNeg), .int (xs (x3 + 3).toNatClampNeg), .int (xs (x3 + 4).toNatClampNeg), .int (xs (x3 + 5).toNatClampNeg)]) (rest := [.int z1.1]) C hG (c_M_copy l w z1.2 (xs (x3 + 1).toNatClampNeg) (xs (x3 + 2).toNatClampNeg) (xs (x3 + 3).toNatClampNeg) (xs (x3 + 4).toNatClampNeg) (xs (x3 + 5).toNatClampNeg) h2 _) (hG.lt (Nat.le_of_ble_eq_true rfl)) (ce49 w _) rfl vw_LW_168 rfl rfl ⟨by decide, by decide⟩ rfl hl.1 rfl (Nat.le_of_ble_eq_true rfl) d_LW_1333 (lw_cs h512)) (fun H locs hG => ?_)
  refine lv_icmp_eq (tgt := 1401) hx hb d_LW_1336 (by decide) (fun hc => ?_) (fun hc => absurd he hc)
  refine W.widen (k := 73 + 2 * (i + 1)) (n := 7375 + 62 * (i + 1)) (by omega) (by omega) ?_
  exact K _ _ _ _ hI2 hG hl
set_option maxHeartbeats 4000000 in
set_option maxRecDepth 100000 in
theorem lc_37 (l : Launch) {p : Program} {e : Env} {s : State} {m : MethodId} {below : List Frame} {meth : Method} {c : Code} {b L : Nat} {xs : Nat → Int32} (C0 : lw_At p s m meth c b L xs) {i : Nat} {x3 : Int32} (ex3 : x3 = nI (6 * i)) (hi6 : 6 * i + 6 ≤ L) (hL : L ≤ 3072) {w : gw} {S : St} {H : Heap} {locs : List Loc} {ls : Array Slot} (hI : InvB w S i) (hG : GH w s (fun q : Nat => s.heap.size ≤ q) S H locs) (hl : lv_has ls 4 [(0, .ref b), (1, .ref (gad w 0)), (2, .ref (gad w 49)), (3, .int x3)]) (K : ∀ (w : gw) (S : St) (H : Heap) (locs : List Loc), InvB w S (i + 1) → GH w s (fun q : Nat => s.heap.size ≤ q) S H locs → lv_has ls 4 [(0, .ref b), (1, .ref (gad w 0)), (2, .ref (gad w 49)), (3, .int x3)] → W p l e room_1 s m #[Value.ref b] below meth c H locs (73 + 2 * (i + 1)) (7375 + 62 * (i + 1)) (lw_Z below #[Value.ref b] s) (F0 m 1401 ls [])) : W p l e room_1 s m #[Value.ref b] below meth c H locs (73 + 2 * i) (7375 + 62 * i) (lw_Z below #[Value.ref b] s) (F0 m 1341 ls []) := by
  obtain ⟨hx, hb, hr, hml, hown, hts, hX, hbl, hlocks, hgv⟩ := id C0
  have C : gCx p s m #[Value.ref b] meth c R_law code 4 ret := ⟨hx, hb, hml, hown, g_tbl hts, hr, hlocks⟩
  have hbA : ¬ (fun q : Nat => s.heap.size ≤ q) b := Nat.not_le.mpr hbl
  have h512 : i < 512 := by omega
  have hk1 : vp_in (x3 + 1) L := by rw [ex3]; exact lw_in (k := 1) (by omega) hL
  obtain ⟨z1, z2, h1, h2, he, hI2⟩ := opB_write hI h512 (xs (x3 + 1).toNatClampNeg)
  refine lv_aload_n hx hb d_LW_1341 rfl (lv_at hl 1 rfl) ?_
  refine lv_aload_n hx hb d_LW_1342 rfl (lv_at hl 0 rfl) ?_
  refine lv_iload_n hx hb d_LW_1343 rfl (lv_at hl 3 rfl) ?_
  refine lv_iconst (v := 1) hx hb d_LW_1344 (by decide) ?_
  refine lv_iadd hx hb d_LW_1345 ?_
  refine va_sld hx hb hX hbl hbA hG.2.2.2.1 hk1 d_LW_1346 ?_
  refine g_goi hG (g_runV (As := [.int (xs (x3 + 1).toNatClampNeg)]) (rest := []) C hG (c_X_write l w S (xs (x3 + 1).toNatClampNeg) h1 _) (hG.lt (Nat.le_of_ble_eq_true rfl)) (ce0 w _) rfl vw_LW_169 rfl rfl ⟨by decide, by decide⟩ rfl hl.1 rfl (Nat.le_of_ble_eq_true rfl) d_LW_1347 (lw_cs h512)) (fun H locs hG => ?_)
  refine lv_aload_n hx hb d_LW_1350 rfl (lv_at hl 2 rfl) ?_
  refine lv_aload_n hx hb d_LW_1351 rfl (lv_at hl 0 rfl) ?_
  refine lv_iload_n hx hb d_LW_1352 rfl (lv_at hl 3 rfl) ?_
  refine lv_iconst (v := 1) hx hb d_LW_1353 (by decide) ?_
  refine lv_iadd hx hb d_LW_1354 ?_
  refine va_sld hx hb hX hbl hbA hG.2.2.2.1 hk1 d_LW_1355 ?_
  refine g_goi hG (g_runV (As := [.int (xs (x3 + 1).toNatClampNeg)]) (rest := [.int z1.1]) C hG (c_M_write l w z1.2 (xs (x3 + 1).toNatClampNeg) h2 _) (hG.lt (Nat.le_of_ble_eq_true rfl)) (ce49 w _) rfl vw_LW_172 rfl rfl ⟨by decide, by decide⟩ rfl hl.1 rfl (Nat.le_of_ble_eq_true rfl) d_LW_1356 (lw_cs h512)) (fun H locs hG => ?_)
  refine lv_icmp_eq (tgt := 1401) hx hb d_LW_1359 (by decide) (fun hc => ?_) (fun hc => absurd he hc)
  refine W.widen (k := 73 + 2 * (i + 1)) (n := 7375 + 62 * (i + 1)) (by omega) (by omega) ?_
  exact K _ _ _ _ hI2 hG hl
set_option maxHeartbeats 4000000 in
set_option maxRecDepth 100000 in
theorem lc_38 (l : Launch) {p : Program} {e : Env} {s : State} {m : MethodId} {below : List Frame} {meth : Method} {c : Code} {b L : Nat} {xs : Nat → Int32} (C0 : lw_At p s m meth c b L xs) {i : Nat} {x3 : Int32} (ex3 : x3 = nI (6 * i)) (hi6 : 6 * i + 6 ≤ L) (hL : L ≤ 3072) {w : gw} {S : St} {H : Heap} {locs : List Loc} {ls : Array Slot} (hI : InvB w S i) (hG : GH w s (fun q : Nat => s.heap.size ≤ q) S H locs) (hl : lv_has ls 4 [(0, .ref b), (1, .ref (gad w 0)), (2, .ref (gad w 49)), (3, .int x3)]) (K : ∀ (w : gw) (S : St) (H : Heap) (locs : List Loc), InvB w S (i + 1) → GH w s (fun q : Nat => s.heap.size ≤ q) S H locs → lv_has ls 4 [(0, .ref b), (1, .ref (gad w 0)), (2, .ref (gad w 49)), (3, .int x3)] → W p l e room_1 s m #[Value.ref b] below meth c H locs (73 + 2 * (i + 1)) (7375 + 62 * (i + 1)) (lw_Z below #[Value.ref b] s) (F0 m 1401 ls [])) : W p l e room_1 s m #[Value.ref b] below meth c H locs (73 + 2 * i) (7375 + 62 * i) (lw_Z below #[Value.ref b] s) (F0 m 1364 ls []) := by
  obtain ⟨hx, hb, hr, hml, hown, hts, hX, hbl, hlocks, hgv⟩ := id C0
  have C : gCx p s m #[Value.ref b] meth c R_law code 4 ret := ⟨hx, hb, hml, hown, g_tbl hts, hr, hlocks⟩
  have hbA : ¬ (fun q : Nat => s.heap.size ≤ q) b := Nat.not_le.mpr hbl
  have h512 : i < 512 := by omega
  have hk1 : vp_in (x3 + 1) L := by rw [ex3]; exact lw_in (k := 1) (by omega) hL
  obtain ⟨z1, z2, h1, h2, he, hI2⟩ := opB_count hI h512 (xs (x3 + 1).toNatClampNeg)
  refine lv_aload_n hx hb d_LW_1364 rfl (lv_at hl 1 rfl) ?_
  refine lv_aload_n hx hb d_LW_1365 rfl (lv_at hl 0 rfl) ?_
  refine lv_iload_n hx hb d_LW_1366 rfl (lv_at hl 3 rfl) ?_
  refine lv_iconst (v := 1) hx hb d_LW_1367 (by decide) ?_
  refine lv_iadd hx hb d_LW_1368 ?_
  refine va_sld hx hb hX hbl hbA hG.2.2.2.1 hk1 d_LW_1369 ?_
  refine g_goi hG (g_runV (As := [.int (xs (x3 + 1).toNatClampNeg)]) (rest := []) C hG (c_X_count l w S (xs (x3 + 1).toNatClampNeg) h1 _) (hG.lt (Nat.le_of_ble_eq_true rfl)) (ce0 w _) rfl vw_LW_173 rfl rfl ⟨by decide, by decide⟩ rfl hl.1 rfl (Nat.le_of_ble_eq_true rfl) d_LW_1370 (lw_cs h512)) (fun H locs hG => ?_)
  refine lv_aload_n hx hb d_LW_1373 rfl (lv_at hl 2 rfl) ?_
  refine lv_aload_n hx hb d_LW_1374 rfl (lv_at hl 0 rfl) ?_
  refine lv_iload_n hx hb d_LW_1375 rfl (lv_at hl 3 rfl) ?_
  refine lv_iconst (v := 1) hx hb d_LW_1376 (by decide) ?_
  refine lv_iadd hx hb d_LW_1377 ?_
  refine va_sld hx hb hX hbl hbA hG.2.2.2.1 hk1 d_LW_1378 ?_
  refine g_goi hG (g_runV (As := [.int (xs (x3 + 1).toNatClampNeg)]) (rest := [.int z1.1]) C hG (c_M_count l w z1.2 (xs (x3 + 1).toNatClampNeg) h2 _) (hG.lt (Nat.le_of_ble_eq_true rfl)) (ce49 w _) rfl vw_LW_176 rfl rfl ⟨by decide, by decide⟩ rfl hl.1 rfl (Nat.le_of_ble_eq_true rfl) d_LW_1379 (lw_cs h512)) (fun H locs hG => ?_)
  refine lv_icmp_eq (tgt := 1401) hx hb d_LW_1382 (by decide) (fun hc => ?_) (fun hc => absurd he hc)
  refine W.widen (k := 73 + 2 * (i + 1)) (n := 7375 + 62 * (i + 1)) (by omega) (by omega) ?_
  exact K _ _ _ _ hI2 hG hl
set_option maxHeartbeats 4000000 in
set_option maxRecDepth 100000 in
theorem lc_39 (l : Launch) {p : Program} {e : Env} {s : State} {m : MethodId} {below : List Frame} {meth : Method} {c : Code} {b L : Nat} {xs : Nat → Int32} (C0 : lw_At p s m meth c b L xs) {i : Nat} {x3 : Int32} (ex3 : x3 = nI (6 * i)) (hi6 : 6 * i + 6 ≤ L) (hL : L ≤ 3072) {w : gw} {S : St} {H : Heap} {locs : List Loc} {ls : Array Slot} (hI : InvB w S i) (hG : GH w s (fun q : Nat => s.heap.size ≤ q) S H locs) (hl : lv_has ls 4 [(0, .ref b), (1, .ref (gad w 0)), (2, .ref (gad w 49)), (3, .int x3)]) (K : ∀ (w : gw) (S : St) (H : Heap) (locs : List Loc), InvB w S (i + 1) → GH w s (fun q : Nat => s.heap.size ≤ q) S H locs → lv_has ls 4 [(0, .ref b), (1, .ref (gad w 0)), (2, .ref (gad w 49)), (3, .int x3)] → W p l e room_1 s m #[Value.ref b] below meth c H locs (73 + 2 * (i + 1)) (7375 + 62 * (i + 1)) (lw_Z below #[Value.ref b] s) (F0 m 1401 ls [])) : W p l e room_1 s m #[Value.ref b] below meth c H locs (73 + 2 * i) (7375 + 62 * i) (lw_Z below #[Value.ref b] s) (F0 m 1387 ls []) := by
  obtain ⟨hx, hb, hr, hml, hown, hts, hX, hbl, hlocks, hgv⟩ := id C0
  have C : gCx p s m #[Value.ref b] meth c R_law code 4 ret := ⟨hx, hb, hml, hown, g_tbl hts, hr, hlocks⟩
  have hbA : ¬ (fun q : Nat => s.heap.size ≤ q) b := Nat.not_le.mpr hbl
  have h512 : i < 512 := by omega
  obtain ⟨z1, z2, h1, h2, he, hI2⟩ := opB_digest hI h512 
  refine lv_aload_n hx hb d_LW_1387 rfl (lv_at hl 1 rfl) ?_
  refine g_gol hG (g_runV (As := []) (rest := []) C hG (c_X_digest l w S  h1 _) (hG.lt (Nat.le_of_ble_eq_true rfl)) (ce0 w _) rfl vw_LW_177 rfl rfl ⟨by decide, by decide⟩ rfl hl.1 rfl (Nat.le_of_ble_eq_true rfl) d_LW_1388 (lw_cs h512)) (fun H locs hG => ?_)
  refine lv_aload_n hx hb d_LW_1391 rfl (lv_at hl 2 rfl) ?_
  refine g_gol hG (g_runV (As := []) (rest := [.long z1.1]) C hG (c_M_digest l w z1.2  h2 _) (hG.lt (Nat.le_of_ble_eq_true rfl)) (ce49 w _) rfl vw_LW_181 rfl rfl ⟨by decide, by decide⟩ rfl hl.1 rfl (Nat.le_of_ble_eq_true rfl) d_LW_1392 (lw_cs h512)) (fun H locs hG => ?_)
  refine W.lcmp hx hb d_LW_1395 ?_
  refine lv_if_eq (tgt := 1401) hx hb d_LW_1396 (by decide) (fun hc => ?_) (fun hc => absurd (lg_cmp_same he) hc)
  refine W.widen (k := 73 + 2 * (i + 1)) (n := 7375 + 62 * (i + 1)) (by omega) (by omega) ?_
  exact K _ _ _ _ hI2 hG hl
