/-! ===== rows of this world, an instruction each ===== -/
section GR
variable {p : Program} {l : Launch} {e : Env} {R : Room} {s : State} {m : MethodId} {args : Array Value} {below : List Frame} {meth : Method} {c : Code} {H : Heap} {locs : List Loc} {cells slots : Nat} {Q : State → Prop}
variable {cc : ByteArray} {pc nL : Nat} {rt : Option FieldType} {own : String} {ls : Array Slot} {rest : List Value} {A : Nat → Prop} {w : gw} {S : St}
theorem g_get (C : gCx p s m args meth c own cc nL rt) (hG : GH w s A S H locs) {k ci n idx : Nat} {Cn : String} {T : u_T} {fs : List Value} {v : Value} (hk : k < gN w) (hc : celr w k (S k) = .inr (ci, fs)) (hcl : vwCl[ci]? = some (Cn, T, n)) (hin : ∀ x ∈ u_ws Cn T n, x ∈ lw_g) (f : Nat) (hf : f < n) (hl : Cond.fieldLink own idx (T f).1 (T f).2.1 (T f).2.2.1 ∈ lw_g) (hv : fs[f]? = some v) (hdg : decode cc pc = .ok (.getfield idx, 3))
    (kk : W p l e R s m args below meth c H locs cells slots Q (F0 m (pc + 3) ls (v :: rest))) : W p l e R s m args below meth c H locs cells slots Q (F0 m pc ls (.ref (gad w k) :: rest)) := by
  obtain ⟨hx, hb, -, hown, hts, -⟩ := C
  obtain ⟨hK, hP, -⟩ := hG
  exact va_get (D := gD w) hx hb hts hin hown hK hP k (by rw [gws_at hk, hc]) hcl f hf (hts _ hl) (fun _ h9 => h9) hv hdg kk
theorem g_put (C : gCx p s m args meth c own cc nL rt) (hG : GH w s A S H locs) {k ci n idx : Nat} {Cn : String} {T : u_T} {fs : List Value} {x : Int32} (hk : k < gN w) (hc : celr w k (S k) = .inr (ci, fs)) (hcl : vwCl[ci]? = some (Cn, T, n)) (hin : ∀ x ∈ u_ws Cn T n, x ∈ lw_g) {ty0 : Nat → FieldType} (hty : ∀ k, k < n → parseFieldDescriptor (T k).2.2.1 = some (ty0 k)) (hnm : ∀ a, a < n → ∀ b, b < n → a ≠ b → (T a).2.1 ≠ (T b).2.1) (f : Nat) (hf : f < n) (hl : Cond.fieldLink own idx (T f).1 (T f).2.1 (T f).2.2.1 ∈ lw_g) (hfin : (T f).2.2.2 = false) (hn : narrow (ty0 f) (.int x) = .int x) (hfit : fits (ty0 f) (.int x) = true) (hlen : f < fs.length) (he : celr w k (upd (S k) f x) = .inr (ci, fs.set f (.int x))) (hdg : decode cc pc = .ok (.putfield idx, 3))
    (kk : ∀ (H1 : Heap) (locs1 : List Loc), GH w s A (up S k f x) H1 locs1 → W p l e R s m args below meth c H1 locs1 cells slots Q (F0 m (pc + 3) ls rest)) : W p l e R s m args below meth c H locs cells slots Q (F0 m pc ls (.int x :: .ref (gad w k) :: rest)) := by
  obtain ⟨hx, hb, -, hown, hts, -⟩ := C
  have hG0 := hG
  obtain ⟨hK, hP, hD, hS, -⟩ := hG
  refine va_put (D := gD w) hx hb hts hin ty0 hty hnm hown hK hP hD hS k (by rw [gws_at hk, hc]) hcl f hf (hts _ hl) (fun _ h9 => h9) hfin (hty f hf) hn hfit hlen hdg (fun H1 locs1 hP1 _ hS1 => kk H1 locs1 ?_)
  rw [gws_set (S' := up S k f x) hk (by rw [up_eq, he]) (fun j hj => up_ne hj)] at hP1
  exact hG0.next hP1 hS1
theorem g_iald (C : gCx p s m args meth c own cc nL rt) (hG : GH w s A S H locs) {k n j : Nat} {i : Int32} (hk : k < gN w) (hc : celr w k (S k) = ar_i w n (S k)) (hin : vp_in i n) (hj : i.toNatClampNeg = j) (hdg : decode cc pc = .ok (.iaload, 1))
    (kk : W p l e R s m args below meth c H locs cells slots Q (F0 m (pc + 1) ls (.int (S k j) :: rest))) : W p l e R s m args below meth c H locs cells slots Q (F0 m pc ls (.int i :: .ref (gad w k) :: rest)) := by
  subst hj
  obtain ⟨hx, hb, -⟩ := C
  obtain ⟨hK, hP, -⟩ := hG
  exact va_iald (D := gD w) hx hb hK hP k 0 (by rw [gws_at hk, hc]; rfl) rfl hin hdg kk
theorem g_zald (C : gCx p s m args meth c own cc nL rt) (hG : GH w s A S H locs) {k n j : Nat} {i : Int32} (hk : k < gN w) (hc : celr w k (S k) = ar_z w n (S k)) (hin : vp_in i n) (hj : i.toNatClampNeg = j) (hdg : decode cc pc = .ok (.baload, 1))
    (kk : W p l e R s m args below meth c H locs cells slots Q (F0 m (pc + 1) ls (.int (S k j) :: rest))) : W p l e R s m args below meth c H locs cells slots Q (F0 m pc ls (.int i :: .ref (gad w k) :: rest)) := by
  subst hj
  obtain ⟨hx, hb, -⟩ := C
  obtain ⟨hK, hP, -⟩ := hG
  exact va_zald (D := gD w) hx hb hK hP k 1 (by rw [gws_at hk, hc]; rfl) rfl hin hdg kk
theorem g_iast (C : gCx p s m args meth c own cc nL rt) (hG : GH w s A S H locs) {k n j : Nat} {i x : Int32} (hk : k < gN w) (hc : ∀ r, celr w k r = ar_i w n r) (hin : vp_in i n) (hj : i.toNatClampNeg = j) (hdg : decode cc pc = .ok (.iastore, 1))
    (kk : ∀ (H1 : Heap) (locs1 : List Loc), GH w s A (up S k j x) H1 locs1 → W p l e R s m args below meth c H1 locs1 cells slots Q (F0 m (pc + 1) ls rest)) : W p l e R s m args below meth c H locs cells slots Q (F0 m pc ls (.int x :: .int i :: .ref (gad w k) :: rest)) := by
  subst hj
  obtain ⟨hx, hb, -⟩ := C
  have hG0 := hG
  obtain ⟨hK, hP, hD, hS, -⟩ := hG
  refine va_iast (D := gD w) hx hb hK hP hD hS k 0 (by rw [gws_at hk, hc]; rfl) rfl hin hdg (fun H1 locs1 hP1 _ hS1 => kk H1 locs1 ?_)
  rw [gws_set (S' := up S k i.toNatClampNeg x) hk (by rw [up_eq, hc]; rfl) (fun j hj => up_ne hj)] at hP1
  exact hG0.next hP1 hS1
theorem vz_nar {x : Int32} (h : x = 0 ∨ x = 1) : vp_nar .boolean x = x := by
  rcases h with rfl | rfl <;> rfl
theorem vz_nar' {x : Int32} (h : x = 0 ∨ x = 1) : narrow .boolean (.int x) = .int x := by
  rcases h with rfl | rfl <;> rfl
theorem g_zast (C : gCx p s m args meth c own cc nL rt) (hG : GH w s A S H locs) {k n j : Nat} {i x : Int32} (hk : k < gN w) (hc : ∀ r, celr w k r = ar_z w n r) (hin : vp_in i n) (hj : i.toNatClampNeg = j) (hz : x = 0 ∨ x = 1) (hdg : decode cc pc = .ok (.bastore, 1))
    (kk : ∀ (H1 : Heap) (locs1 : List Loc), GH w s A (up S k j x) H1 locs1 → W p l e R s m args below meth c H1 locs1 cells slots Q (F0 m (pc + 1) ls rest)) : W p l e R s m args below meth c H locs cells slots Q (F0 m pc ls (.int x :: .int i :: .ref (gad w k) :: rest)) := by
  subst hj
  obtain ⟨hx, hb, -⟩ := C
  have hG0 := hG
  obtain ⟨hK, hP, hD, hS, -⟩ := hG
  refine va_zast (D := gD w) hx hb hK hP hD hS k 1 (by rw [gws_at hk, hc]; rfl) rfl hin hdg (fun H1 locs1 hP1 _ hS1 => kk H1 locs1 ?_)
  rw [vz_nar hz, gws_set (S' := up S k i.toNatClampNeg x) hk (by rw [up_eq, hc]; rfl) (fun j hj => up_ne hj)] at hP1
  exact hG0.next hP1 hS1
theorem g_alen (C : gCx p s m args meth c own cc nL rt) (hG : GH w s A S H locs) {k n : Nat} {v : Int32} (hk : k < gN w) (hc : celr w k (S k) = ar_i w n (S k)) (hv : Int32.ofNat n = v) (hdg : decode cc pc = .ok (.arraylength, 1))
    (kk : W p l e R s m args below meth c H locs cells slots Q (F0 m (pc + 1) ls (.int v :: rest))) : W p l e R s m args below meth c H locs cells slots Q (F0 m pc ls (.ref (gad w k) :: rest)) := by
  obtain ⟨hx, hb, -⟩ := C
  obtain ⟨hK, hP, -⟩ := hG
  exact va_alen (D := gD w) hx hb hK hP k 0 (by rw [gws_at hk, hc]; rfl) (ty := .int) rfl hv hdg kk
theorem g_ald2 (C : gCx p s m args meth c own cc nL rt) (hG : GH w s A S H locs) {k b j : Nat} {i : Int32} (hk : k < gN w) (hc : celr w k (S k) = ar_2 w b) (hin : vp_in i 5) (hj : i.toNatClampNeg = j) (hdg : decode cc pc = .ok (.aaload, 1))
    (kk : W p l e R s m args below meth c H locs cells slots Q (F0 m (pc + 1) ls (.ref (gad w (b + j)) :: rest))) : W p l e R s m args below meth c H locs cells slots Q (F0 m pc ls (.int i :: .ref (gad w k) :: rest)) := by
  subst hj
  obtain ⟨hx, hb, -⟩ := C
  obtain ⟨hK, hP, -⟩ := hG
  have hlt : i.toNatClampNeg < 5 := Nat.not_le.mp fun q => hin (Or.inr q)
  have hcell := hP k _ (gws_at hk)
  rw [hc] at hcell
  refine W.aald (v := .ref (gad w (b + i.toNatClampNeg))) (ty := .array .int) hx hb hcell ((hK.2 3 (gcR w, .array .int) rfl).1 5 (fun j => va_rf (if j < 5 then some (gad w (b + j)) else none))) rfl (fun q => by cases q) (by show ¬ (i < 0 ∨ (arrV _ _ _).slots.size ≤ _); rw [arrV_size]; exact hin) (by show (arrV _ _ _).slots[_]? = _; rw [arrV_read _ _ hlt]; show some (va_rf (if i.toNatClampNeg < 5 then some (gad w (b + i.toNatClampNeg)) else none)) = _; rw [if_pos hlt]; rfl) rfl rfl hdg kk
theorem g_iret (C : gCx p s m args meth c own cc nL (some .int)) (hG : GH w s A S H locs) {v r : Int32} {S' : St} (hv : v = r) (hS' : S = S') (hQ : Q = MQ below (gQi w r S' A) args s cells slots A) (hdg : decode cc pc = .ok (.ireturn, 1)) : W p l e R s m args below meth c H locs cells slots Q (F0 m pc ls [.int v]) := by
  subst hQ
  obtain ⟨hx, hb, -, -, -, hr, hlk⟩ := C
  exact W.iret hx hb hr (fun t ht hW => ⟨⟨v, S, rfl, ⟨hv, hS'⟩, by show va_P _ _ _ t.heap; rw [ht]; exact hG.2.1⟩, hG.2.2.2.1.F ht⟩) hG.2.2.2.1.2.2 hdg hlk
theorem g_zret (C : gCx p s m args meth c own cc nL (some .boolean)) (hG : GH w s A S H locs) {v r : Int32} {S' : St} (hz : v = 0 ∨ v = 1) (hv : v = r) (hS' : S = S') (hQ : Q = MQ below (gQi w r S' A) args s cells slots A) (hdg : decode cc pc = .ok (.ireturn, 1)) : W p l e R s m args below meth c H locs cells slots Q (F0 m pc ls [.int v]) := by
  subst hQ
  obtain ⟨hx, hb, -, -, -, hr, hlk⟩ := C
  exact W.zret hx hb hr (vz_nar' hz) (fun t ht hW => ⟨⟨v, S, rfl, ⟨hv, hS'⟩, by show va_P _ _ _ t.heap; rw [ht]; exact hG.2.1⟩, hG.2.2.2.1.F ht⟩) hG.2.2.2.1.2.2 hdg hlk
theorem g_lret (C : gCx p s m args meth c own cc nL (some .long)) (hG : GH w s A S H locs) {v r : Int64} {S' : St} (hv : v = r) (hS' : S = S') (hQ : Q = MQ below (gQl w r S' A) args s cells slots A) (hdg : decode cc pc = .ok (.lreturn, 1)) : W p l e R s m args below meth c H locs cells slots Q (F0 m pc ls [.long v]) := by
  subst hQ
  obtain ⟨hx, hb, -, -, -, hr, hlk⟩ := C
  exact W.lret hx hb hr (fun t ht hW => ⟨⟨v, S, rfl, ⟨hv, hS'⟩, by show va_P _ _ _ t.heap; rw [ht]; exact hG.2.1⟩, hG.2.2.2.1.F ht⟩) hG.2.2.2.1.2.2 hdg hlk
theorem g_vret (C : gCx p s m args meth c own cc nL none) (hG : GH w s A S H locs) {S' : St} (hS' : S = S') (hQ : Q = MQ below (gQv w S' A) args s cells slots A) (hdg : decode cc pc = .ok (.return_, 1)) : W p l e R s m args below meth c H locs cells slots Q (F0 m pc ls []) := by
  subst hQ
  obtain ⟨hx, hb, -, -, -, hr, hlk⟩ := C
  exact W.vret hx hb hr (fun t ht hW => ⟨⟨S, rfl, hS', by show va_P _ _ _ t.heap; rw [ht]; exact hG.2.1⟩, hG.2.2.2.1.F ht⟩) hG.2.2.2.1.2.2 hdg hlk
theorem g_aret {Cn : String} (C : gCx p s m args meth c own cc nL (some (.object Cn))) (hG : GH w s A S H locs) {k : Nat} {S' : St} (hS' : S = S') (hQ : Q = MQ below (gQr w k S' A) args s cells slots A) (hdg : decode cc pc = .ok (.areturn, 1)) : W p l e R s m args below meth c H locs cells slots Q (F0 m pc ls [.ref (gad w k)]) := by
  subst hQ
  obtain ⟨hx, hb, -, -, -, hr, hlk⟩ := C
  exact W.aret hx hb hr (Or.inl ⟨_, rfl⟩) (Or.inr ⟨_, rfl⟩) (fun t ht hW => ⟨⟨S, _, rfl, hS', rfl, by show va_P _ _ _ t.heap; rw [ht]; exact hG.2.1⟩, hG.2.2.2.1.F ht⟩) hG.2.2.2.1.2.2 hdg hlk
/-! calls -/
def gVw (own : String) (idx : Nat) (Cn : String) (y : MethodName) (b : ByteArray) (nL : Nat) (rt : Option FieldType) (n : Nat) : Prop := GoodIn lw_g (wsV own idx Cn y (.code y b nL rt :: lw_g)) ∧ (y.cls = Cn ∧ y.cls ≠ "java/lang/invoke/MethodHandle" ∧ y.cls ≠ "java/lang/invoke/VarHandle" ∧ (parseMethodDescriptor y.desc).map (fun d => d.parameters.length) = some n)
def gSw (own : String) (idx : Nat) (y : MethodName) (b : ByteArray) (nL : Nat) (rt : Option FieldType) (n : Nat) : Prop := GoodIn lw_g (va_wsS own idx y (.code y b nL rt :: lw_g)) ∧ (y.cls ≠ "java/lang/invoke/MethodHandle" ∧ y.cls ≠ "java/lang/invoke/VarHandle" ∧ (parseMethodDescriptor y.desc).map (fun d => d.parameters.length) = some n)
variable {y : MethodName} {b : ByteArray} {nL' n idx : Nat} {rt' : Option FieldType} {rm : Room} {As st0 : List Value} {S' : St}
theorem g_runV (C : gCx p s m args meth c own cc nL rt) (hG : GH w s A S H locs) {k ci cn : Nat} {Cn : String} {T : u_T} {fs : List Value} {Qc : Array Value → State → Outcome → State → Prop} (hM : Met l y (.code y b nL' rt' :: lw_g) rm (va_Pc (.ref (gad w k) :: As) (GP w H.size S)) Qc 0 0 (gA w H.size)) (hk : k < gN w) (hc : celr w k (S k) = .inr (ci, fs)) (hcl : vwCl[ci]? = some (Cn, T, cn)) (hw : gVw own idx Cn y b nL' rt' n) (hrc : rm.cells = 0) (hrs : rm.slots = 0) (hR : rm.frames + 1 ≤ R.frames ∧ 8 + (nL' + 11) + rm.locals ≤ R.locals) (hn : As.length = n) (hls : ls.size = nL) (hst : st0 = As.reverse ++ .ref (gad w k) :: rest) (hre : (rest.map fun v => v.category).sum ≤ 8) (hdg : decode cc pc = .ok (.invokevirtual idx, 3)) (hcs : cells ≤ R.cells ∧ slots ≤ R.slots) :
    va_Run p l e R s m args below meth c H locs cells slots 0 0 (F0 m pc ls st0) rest (Qc (Value.ref (gad w k) :: As).toArray) (gA w H.size) := by
  obtain ⟨hx, hb, hml, hown, hts, -⟩ := C
  exact va_runV (As := As) (rest := rest) ⟨hx, hb, hml, hown, hts⟩ hM (cwV n hts hw.1 rfl hrc hrs hw.2 hR) ⟨GP_blind, va_recv hG.1 hG.2.1 hcl (by rw [gws_at hk, hc]), fun U hU hW => ⟨rfl, hG.pre hU hW⟩⟩ rfl hn hls hst (lv_room hre) hdg hcs
theorem g_runS (C : gCx p s m args meth c own cc nL rt) (hG : GH w s A S H locs) {Qc : Array Value → State → Outcome → State → Prop} (hM : Met l y (.code y b nL' rt' :: lw_g) rm (va_Pc As (GP w H.size S)) Qc 0 0 (gA w H.size)) (hw : gSw own idx y b nL' rt' n) (hrc : rm.cells = 0) (hrs : rm.slots = 0) (hR : rm.frames + 1 ≤ R.frames ∧ 8 + (nL' + 11) + rm.locals ≤ R.locals) (hn : As.length = n) (hls : ls.size = nL) (hst : st0 = As.reverse ++ rest) (hre : (rest.map fun v => v.category).sum ≤ 8) (hdg : decode cc pc = .ok (.invokestatic idx, 3)) (hcs : cells ≤ R.cells ∧ slots ≤ R.slots) :
    va_Run p l e R s m args below meth c H locs cells slots 0 0 (F0 m pc ls st0) rest (Qc As.toArray) (gA w H.size) := by
  obtain ⟨hx, hb, hml, hown, hts, -⟩ := C
  exact va_runS (As := As) (rest := rest) ⟨hx, hb, hml, hown, hts⟩ hM (va_cwS n hts hw.1 rfl hrc hrs hw.2 hR) ⟨GP_blind, fun U hU hW => ⟨rfl, hG.pre hU hW⟩⟩ rfl hn hls hst (lv_room hre) hdg hcs
theorem g_runSN (C : gCx p s m args meth c own cc nL rt) (hG : GH w s A S H locs) {host : String} {Qc : Array Value → State → Outcome → State → Prop} (hM : Met l y (.code y b nL' rt' :: lw_g) rm (va_Pc As (GP w H.size S)) Qc 0 0 (gA w H.size)) (hnw : va_Nw (.methodLinkNest own idx y host) s) (hw : Cond.static y ∈ lw_g ∧ Cond.initialized y.cls ∈ lw_g ∧ Cond.code y b nL' rt' ∈ lw_g ∧ (y.cls ≠ "java/lang/invoke/MethodHandle" ∧ y.cls ≠ "java/lang/invoke/VarHandle" ∧ (parseMethodDescriptor y.desc).map (fun d => d.parameters.length) = some n)) (hrc : rm.cells = 0) (hrs : rm.slots = 0) (hR : rm.frames + 1 ≤ R.frames ∧ 8 + (nL' + 11) + rm.locals ≤ R.locals) (hn : As.length = n) (hls : ls.size = nL) (hst : st0 = As.reverse ++ rest) (hre : (rest.map fun v => v.category).sum ≤ 8) (hdg : decode cc pc = .ok (.invokestatic idx, 3)) (hcs : cells ≤ R.cells ∧ slots ≤ R.slots) :
    va_Run p l e R s m args below meth c H locs cells slots 0 0 (F0 m pc ls st0) rest (Qc As.toArray) (gA w H.size) := by
  obtain ⟨hx, hb, hml, hown, hts, -⟩ := C
  obtain ⟨w1, w2, w3, w4⟩ := hw
  exact va_runSN (As := As) (rest := rest) ⟨hx, hb, hml, hown, hts⟩ hM ⟨va_cnB n hts (g_good (fun x hx => by rcases List.mem_cons.mp hx with rfl | hx <;> assumption)) rfl hrc hrs hnw (hts _ w2) w4 hR, hts _ w1, trivial⟩ ⟨GP_blind, fun U hU hW => ⟨rfl, hG.pre hU hW⟩⟩ rfl hn hls hst (lv_room hre) hdg hcs
theorem g_goi {r : Int32} {a : Array Value} (hG : GH w s A S H locs) (hr : va_Run p l e R s m args below meth c H locs cells slots 0 0 (F0 m pc ls st0) rest (gQi w r S' (gA w H.size) a) (gA w H.size))
    (kk : ∀ (H1 : Heap) (locs1 : List Loc), GH w s A S' H1 locs1 → W p l e R s m args below meth c H1 locs1 cells slots Q (F0 m (pc + 3) ls (.int r :: rest))) : W p l e R s m args below meth c H locs cells slots Q (F0 m pc ls st0) := by
  refine va_calli hr hG.2.2.2.1 (fun q _ h => hG.free q h) hG.free (fun r2 u t H1 locs1 ht hvm hw hB hz1 hk1 hS1 => ?_)
  obtain ⟨rfl, rfl⟩ := hw
  rw [ht] at hB
  exact kk H1 locs1 (hG.next hB hS1)
theorem g_gol {r : Int64} {a : Array Value} (hG : GH w s A S H locs) (hr : va_Run p l e R s m args below meth c H locs cells slots 0 0 (F0 m pc ls st0) rest (gQl w r S' (gA w H.size) a) (gA w H.size))
    (kk : ∀ (H1 : Heap) (locs1 : List Loc), GH w s A S' H1 locs1 → W p l e R s m args below meth c H1 locs1 cells slots Q (F0 m (pc + 3) ls (.long r :: rest))) : W p l e R s m args below meth c H locs cells slots Q (F0 m pc ls st0) := by
  refine va_calll hr hG.2.2.2.1 (fun q _ h => hG.free q h) hG.free (fun r2 u t H1 locs1 ht hvm hw hB hz1 hk1 hS1 => ?_)
  obtain ⟨rfl, rfl⟩ := hw
  rw [ht] at hB
  exact kk H1 locs1 (hG.next hB hS1)
theorem g_gov {a : Array Value} (hG : GH w s A S H locs) (hr : va_Run p l e R s m args below meth c H locs cells slots 0 0 (F0 m pc ls st0) rest (gQv w S' (gA w H.size) a) (gA w H.size))
    (kk : ∀ (H1 : Heap) (locs1 : List Loc), GH w s A S' H1 locs1 → W p l e R s m args below meth c H1 locs1 cells slots Q (F0 m (pc + 3) ls rest)) : W p l e R s m args below meth c H locs cells slots Q (F0 m pc ls st0) := by
  refine va_callv hr hG.2.2.2.1 (fun q _ h => hG.free q h) hG.free (fun u t H1 locs1 ht hvm hw hB hz1 hk1 hS1 => ?_)
  obtain rfl := hw
  rw [ht] at hB
  exact kk H1 locs1 (hG.next hB hS1)
theorem g_gor {k : Nat} {a : Array Value} (hG : GH w s A S H locs) (hr : va_Run p l e R s m args below meth c H locs cells slots 0 0 (F0 m pc ls st0) rest (gQr w k S' (gA w H.size) a) (gA w H.size))
    (kk : ∀ (H1 : Heap) (locs1 : List Loc), GH w s A S' H1 locs1 → W p l e R s m args below meth c H1 locs1 cells slots Q (F0 m (pc + 3) ls (.ref (gad w k) :: rest))) : W p l e R s m args below meth c H locs cells slots Q (F0 m pc ls st0) := by
  refine va_callr hr hG.2.2.2.1 (fun q _ h => hG.free q h) hG.free (fun u ra t H1 locs1 ht hvm hw hB hz1 hk1 hS1 => ?_)
  obtain rfl := hw
  obtain ⟨rfl, hB⟩ := hB
  rw [ht] at hB
  exact kk H1 locs1 (hG.next hB hS1)
end GR
/-! ===== the pure words of the walks ===== -/
def chk {α : Type} (b : Bool) (o : Option α) : Option α := cond b o none
theorem chk_some {α : Type} {b : Bool} {o : Option α} {x : α} (h : chk b o = some x) : b = true ∧ o = some x := by
  cases b with
  | false => cases h
  | true => exact ⟨rfl, h⟩
def bnd {α β : Type} (o : Option α) (f : α → Option β) : Option β := match o with
  | none => none
  | some a => f a
theorem bnd_some {α β : Type} {o : Option α} {f : α → Option β} {b : β} (h : bnd o f = some b) : ∃ a, o = some a ∧ f a = some b := by
  cases o with
  | none => cases h
  | some a => exact ⟨a, rfl, h⟩
theorem it_t {α : Type} {c : Prop} [Decidable c] {a b x : α} (h : (if c then a else b) = x) (hc : c) : a = x := by rw [if_pos hc] at h; exact h
theorem it_f {α : Type} {c : Prop} [Decidable c] {a b x : α} (h : (if c then a else b) = x) (hc : ¬ c) : b = x := by rw [if_neg hc] at h; exact h
def inb (i : Int32) (n : Nat) : Bool := decide (¬ (i < 0 ∨ n ≤ i.toNatClampNeg))
theorem inb_in {i : Int32} {n : Nat} (h : inb i n = true) : vp_in i n := by
  have h2 : ¬ (i < 0 ∨ n ≤ i.toNatClampNeg) := of_decide_eq_true h
  exact h2
def nz32 (y : Int32) : Bool := decide (¬ y = 0)
theorem nz32_in {y : Int32} (h : nz32 y = true) : ¬ y = 0 := of_decide_eq_true h
def nz64 (y : Int64) : Bool := decide (¬ y = 0)
theorem nz64_in {y : Int64} (h : nz64 y = true) : ¬ y = 0 := of_decide_eq_true h
def isz (y : Int32) : Bool := decide (y = 0 ∨ y = 1)
theorem isz_in {y : Int32} (h : isz y = true) : y = 0 ∨ y = 1 := of_decide_eq_true h
/-- a loop: a pass answers 0 (again) or the number of the way out -/
def lp {σ : Type} (st : σ → Option (σ × Nat)) : Nat → σ → Option (σ × Nat)
  | 0, _ => none
  | n + 1, q => match st q with
    | none => none
    | some (q', 0) => lp st n q'
    | some (q', t + 1) => some (q', t + 1)
def FU : Nat := 10000000
theorem lp_succ {σ : Type} {st : σ → Option (σ × Nat)} {n : Nat} {q : σ} {r : σ × Nat} (h : lp st (n + 1) q = some r) : ∃ z : σ × Nat, st q = some z ∧ ((z.2 = 0 ∧ lp st n z.1 = some r) ∨ (z.2 ≠ 0 ∧ z = r)) := by
  unfold lp at h
  cases hs : st q with
  | none => rw [hs] at h; cases h
  | some z =>
    obtain ⟨q', t⟩ := z
    rw [hs] at h
    cases t with
    | zero => exact ⟨_, rfl, Or.inl ⟨rfl, h⟩⟩
    | succ t => exact ⟨_, rfl, Or.inr ⟨Nat.succ_ne_zero t, Option.some.inj h⟩⟩
theorem lp_back {σ : Type} {st : σ → Option (σ × Nat)} {n : Nat} {a : σ} {z r : σ × Nat} (h : some (a, 0) = some z) (hr : (z.2 = 0 ∧ lp st n z.1 = some r) ∨ (z.2 ≠ 0 ∧ z = r)) : lp st n a = some r := by
  cases h
  rcases hr with ⟨-, h⟩ | ⟨h, -⟩
  · exact h
  · exact absurd rfl h
theorem lp_exit {σ : Type} {st : σ → Option (σ × Nat)} {n t : Nat} {a : σ} {z r : σ × Nat} (h : some (a, t + 1) = some z) (hr : (z.2 = 0 ∧ lp st n z.1 = some r) ∨ (z.2 ≠ 0 ∧ z = r)) : r = (a, t + 1) := by
  cases h
  rcases hr with ⟨h, -⟩ | ⟨-, h⟩
  · cases h
  · exact h.symm
abbrev ix (i : Int32) : Nat := i.toNatClampNeg
theorem row_lt {i : Int32} (h : vp_in i 5) : ix i < 5 := Nat.not_le.mp fun q => h (Or.inr q)
theorem some2 {α β : Type} {a a' : α} {b b' : β} (h : some (a, b) = some (a', b')) : a = a' ∧ b = b' := by
  cases h
  exact ⟨rfl, rfl⟩
