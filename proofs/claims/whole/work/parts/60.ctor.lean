/-! ===== worlds that grow: the constructors; a world is the list of its cells ===== -/
def va_AOA (t : FieldType) (U : State) : Prop := (Cond.arrayOver (.array t)).before #[] U = true
def nOv (U : State) : Prop := va_AOA .int U ∧ va_AO "EveningAuction$Sheet" U ∧
  va_Nw (.methodLinkNest "EveningAuction" 18 ⟨"EveningAuction$BidText", "<init>", "()V"⟩ "EveningAuction") U ∧
  va_Nw (.methodLinkNest "EveningAuction" 25 ⟨"EveningAuction$Outcome", "<init>", "()V"⟩ "EveningAuction") U ∧
  va_Nw (.methodLinkNest "EveningAuction" 35 ⟨"EveningAuction$OneEach", "<init>", "()V"⟩ "EveningAuction") U ∧
  va_Nw (.methodLinkNest "EveningAuction" 42 ⟨"EveningAuction$Clubs", "<init>", "()V"⟩ "EveningAuction") U
theorem va_AOA.to {t : FieldType} {s U : State} (hvm : s.vm.Alike U.vm) (h : va_AOA t s) : va_AOA t U := by
  have h2 : (Cond.arrayOver (.array t)).before #[] (s.setVm U.vm) = true := by rw [Cond.arrayOver_setVmC hvm]; exact h
  exact h2
theorem nOv.to {s U : State} (hW : s.WarmedH U.vm) (h : nOv s) : nOv U := by
  obtain ⟨h1, h2, h3, h4, h5, h6⟩ := h
  exact ⟨h1.to hW.alike, h2.moved hW.alike, va_Nw.warmM hW h3, va_Nw.warmM hW h4, va_Nw.warmM hW h5, va_Nw.warmM hW h6⟩
theorem nOv.same {U V : State} (e : U.vm = V.vm) (h : nOv U) : nOv V := by
  obtain ⟨h1, h2, h3, h4, h5, h6⟩ := h
  exact ⟨h1.to (by rw [e]; exact Vm.Alike.refl _), h2.moved (by rw [e]; exact Vm.Alike.refl _), va_Nw.same rfl e h3, va_Nw.same rfl e h4, va_Nw.same rfl e h5, va_Nw.same rfl e h6⟩
abbrev nT : Type := List (ClassId × FieldType)
def NP (D : va_G) (tys : nT) (sz : Nat) (ws : va_W) (U : State) : Prop := U.heap.size = sz ∧ va_P D vwCl ws U.heap ∧ va_K D vwCl tys U ∧ va_D (fun _ => True) ws ∧ nOv U
theorem NP_blind {D : va_G} {tys : nT} {sz : Nat} {ws : va_W} {av : List Value} : FrameBlind (va_Pc av (NP D tys sz ws)) := by
  intro a U g mk q
  obtain ⟨q0, q1, qP, qK, qD, qO⟩ := q
  exact ⟨q0, q1, qP, va_K.moved (u := U) (U := U.calling g mk a) (Vm.Alike.refl U.vm) qK, qD, nOv.same (V := U.calling g mk a) rfl qO⟩
def NH (D : va_G) (tys : nT) (s : State) (A : Nat → Prop) (ws : va_W) (H : Heap) (locs : List Loc) : Prop := va_K D vwCl tys s ∧ va_P D vwCl ws H ∧ va_D A ws ∧ va_S A s.heap H locs ∧ (∀ q, s.heap.size ≤ q → A q) ∧ nOv s
def nQ {S : Type} (D : va_G) (wo : S → va_W) (tyo : S → nT) (A : Nat → Prop) : Array Value → State → Outcome → State → Prop := va_Qv (fun _ : S => True) (fun u t => va_P D vwCl (wo u) t.heap ∧ va_D A (wo u) ∧ va_K D vwCl (tyo u) t) A
theorem n_met {l : Launch} {D : va_G} {tys : nT} {y : MethodName} {b : ByteArray} {nL : Nat} {rm : Room} {av : List Value} {ws : va_W} {mc ms : Nat} {S : Type} {wo : S → va_W} {tyo : S → nT} (hy : plainName y.cls = true) (hy1 : y.name = "<init>") (hav : (lg_sl av).length ≤ nL)
    (body : ∀ (p : Program) (e : Env) (s : State) (m : MethodId) (args : Array Value) (below : List Frame) (meth : Method) (c : Code) (A : Nat → Prop) (Q : State → Prop) (ls : Array Slot), Q = MQ below (nQ D wo tyo A) args s mc ms A → gCx p s m args meth c y.cls b nL none → meth.name = "<init>" → NH D tys s A ws s.heap [] → lv_has ls nL (lv_args 0 av) → W p l e rm s m args below meth c s.heap [] 0 0 Q (F0 m 0 ls [])) :
    ∀ sz : Nat, Met l y (.code y b nL none :: lw_g) rm (va_Pc av (NP D tys sz ws)) (nQ D wo tyo (va_A ws sz)) mc ms (va_A ws sz) := by
  intro sz
  refine Met.ofW (cc := b) (maxL := nL) (ret := none) hy rfl ?_
  intro p e s m args below meth c s₁ B hml hv
  obtain ⟨rfl, hsz, hP, hK, hD, hO⟩ := hv
  subst hsz
  have hts := atoms_spec (ws := .code y b nL none :: lw_g) B.pre
  have hl := lv_entry av (n := nL) hav
  have hnm : meth.name = "<init>" := (name_of_methodNamed B.named B.method).1.trans hy1
  rw [lg_entry_eq]
  exact body p e s m _ below meth c _ _ _ rfl ⟨B.exec, B.bytes, hml, findClass_of_methodNamed B.named, fun x hx => hts x (List.mem_cons_of_mem _ hx), B.returns, B.notSynchronized⟩ hnm ⟨hK, hP, hD.self, va_S.rf, fun q h => Or.inr h, hO⟩ hl
section NR
variable {p : Program} {l : Launch} {e : Env} {R : Room} {s : State} {m : MethodId} {args : Array Value} {below : List Frame} {meth : Method} {c : Code} {H : Heap} {locs : List Loc} {cells slots : Nat} {Q : State → Prop}
variable {cc : ByteArray} {pc nL : Nat} {rt : Option FieldType} {own : String} {ls : Array Slot} {rest : List Value} {A : Nat → Prop} {D : va_G} {tys : nT} {ws : va_W} {a : Nat}
theorem n_obj (C : gCx p s m args meth c own cc nL rt) {idx : Nat} (hl : Cond.methodLink own idx Lib.objectInit ∈ lw_g) (hi : Cond.instanceMethod Lib.objectInit ∈ lw_g) (hc : Cond.code Lib.objectInit ⟨#[0xb1]⟩ 1 none ∈ lw_g) (hls : ls.size = nL) (hR : 1 ≤ R.frames ∧ 20 ≤ R.locals) (hre : (rest.map fun v => v.category).sum ≤ 8) (hdg : decode cc pc = .ok (.invokespecial idx, 3))
    (kk : W p l e R s m args below meth c H locs cells slots Q (F0 m (pc + 3) ls rest)) : W p l e R s m args below meth c H locs cells slots Q (F0 m pc ls (.ref a :: rest)) := by
  obtain ⟨hx, hb, hml, hown, hts, -⟩ := C
  refine W.objInit hx hb hown (hts _ hl) (hts _ hi) (hts _ hc) rfl (hls.trans hml.symm) rfl hdg hR.1 ?_ (W.eq (g2 := F0 m (pc + 3) ls rest) rfl kk)
  have := lv_room (m := m) (pc := pc) (ls := ls) (rest := rest) hre
  have h2 : 2 * (F0 m pc ls (.ref a :: rest)).monitorRoom + (rest.map fun v => v.category).sum ≤ 8 := this
  omega
theorem n_putF (C : gCx p s m args meth c own cc nL rt) (hnm0 : meth.name = "<init>") (hN : NH D tys s A ws H locs) (q0 : Nat) {ci n idx : Nat} {Cn : String} {T : u_T} {fs : List Value} {v : Value} {ws' : va_W} (he : ws[q0]? = some (a, .inr (ci, fs))) (hcl : vwCl[ci]? = some (Cn, T, n)) (hin : ∀ x ∈ u_ws Cn T n, x ∈ lw_g) {ty0 : Nat → FieldType} (hty : ∀ k, k < n → parseFieldDescriptor (T k).2.2.1 = some (ty0 k)) (hnm : ∀ a, a < n → ∀ b, b < n → a ≠ b → (T a).2.1 ≠ (T b).2.1) (f : Nat) (hf : f < n) (hl : Cond.fieldLink own idx (T f).1 (T f).2.1 (T f).2.2.1 ∈ lw_g) (hfin : (T f).2.2.2 = true) (hdecl : (T f).1 = own) (hn : narrow (ty0 f) v = v) (hfit : fits (ty0 f) v = true) (hlen : f < fs.length) (hws : ws.set q0 (a, .inr (ci, fs.set f v)) = ws') (hdg : decode cc pc = .ok (.putfield idx, 3))
    (kk : ∀ (H1 : Heap) (locs1 : List Loc), NH D tys s A ws' H1 locs1 → W p l e R s m args below meth c H1 locs1 cells slots Q (F0 m (pc + 3) ls rest)) : W p l e R s m args below meth c H locs cells slots Q (F0 m pc ls (v :: .ref a :: rest)) := by
  subst hws
  obtain ⟨hx, hb, -, hown, hts, -⟩ := C
  obtain ⟨hK, hP, hD, hS, hA, hO⟩ := hN
  exact va_putF (D := D) hx hb hts hin ty0 hty hnm hown hK hP hD hS q0 he hcl f hf (hts _ hl) (fun _ h9 => h9) hfin hnm0 hdecl (hty f hf) hn hfit hlen hdg (fun H1 locs1 hP1 hD1 hS1 => kk H1 locs1 ⟨hK, hP1, hD1, hS1, hA, hO⟩)
theorem n_put (C : gCx p s m args meth c own cc nL rt) (hN : NH D tys s A ws H locs) (q0 : Nat) {ci n idx : Nat} {Cn : String} {T : u_T} {fs : List Value} {v : Value} {ws' : va_W} (he : ws[q0]? = some (a, .inr (ci, fs))) (hcl : vwCl[ci]? = some (Cn, T, n)) (hin : ∀ x ∈ u_ws Cn T n, x ∈ lw_g) {ty0 : Nat → FieldType} (hty : ∀ k, k < n → parseFieldDescriptor (T k).2.2.1 = some (ty0 k)) (hnm : ∀ a, a < n → ∀ b, b < n → a ≠ b → (T a).2.1 ≠ (T b).2.1) (f : Nat) (hf : f < n) (hl : Cond.fieldLink own idx (T f).1 (T f).2.1 (T f).2.2.1 ∈ lw_g) (hfin : (T f).2.2.2 = false) (hn : narrow (ty0 f) v = v) (hfit : fits (ty0 f) v = true) (hlen : f < fs.length) (hws : ws.set q0 (a, .inr (ci, fs.set f v)) = ws') (hdg : decode cc pc = .ok (.putfield idx, 3))
    (kk : ∀ (H1 : Heap) (locs1 : List Loc), NH D tys s A ws' H1 locs1 → W p l e R s m args below meth c H1 locs1 cells slots Q (F0 m (pc + 3) ls rest)) : W p l e R s m args below meth c H locs cells slots Q (F0 m pc ls (v :: .ref a :: rest)) := by
  subst hws
  obtain ⟨hx, hb, -, hown, hts, -⟩ := C
  obtain ⟨hK, hP, hD, hS, hA, hO⟩ := hN
  exact va_put (D := D) hx hb hts hin ty0 hty hnm hown hK hP hD hS q0 he hcl f hf (hts _ hl) (fun _ h9 => h9) hfin (hty f hf) hn hfit hlen hdg (fun H1 locs1 hP1 hD1 hS1 => kk H1 locs1 ⟨hK, hP1, hD1, hS1, hA, hO⟩)
theorem n_get (C : gCx p s m args meth c own cc nL rt) (hN : NH D tys s A ws H locs) (q0 : Nat) {ci n idx : Nat} {Cn : String} {T : u_T} {fs : List Value} {v : Value} (he : ws[q0]? = some (a, .inr (ci, fs))) (hcl : vwCl[ci]? = some (Cn, T, n)) (hin : ∀ x ∈ u_ws Cn T n, x ∈ lw_g) (f : Nat) (hf : f < n) (hl : Cond.fieldLink own idx (T f).1 (T f).2.1 (T f).2.2.1 ∈ lw_g) (hv : fs[f]? = some v) (hdg : decode cc pc = .ok (.getfield idx, 3))
    (kk : W p l e R s m args below meth c H locs cells slots Q (F0 m (pc + 3) ls (v :: rest))) : W p l e R s m args below meth c H locs cells slots Q (F0 m pc ls (.ref a :: rest)) := by
  obtain ⟨hx, hb, -, hown, hts, -⟩ := C
  obtain ⟨hK, hP, -⟩ := hN
  exact va_get (D := D) hx hb hts hin hown hK hP q0 he hcl f hf (hts _ hl) (fun _ h9 => h9) hv hdg kk
theorem n_iast (C : gCx p s m args meth c own cc nL rt) (hN : NH D tys s A ws H locs) (q0 t0 : Nat) {cA : ClassId} {n : Nat} {f : Nat → Int32} {ws' : va_W} (ha : ws[q0]? = some (a, .inl (cA, n, .inl f))) (ht : tys[t0]? = some (cA, .int)) {i x : Int32} (j : Nat) (hin : inb i n = true) (hj : i.toNatClampNeg = j) (hws : ws.set q0 (a, .inl (cA, n, .inl (upd f j x))) = ws') (hdg : decode cc pc = .ok (.iastore, 1))
    (kk : ∀ (H1 : Heap) (locs1 : List Loc), NH D tys s A ws' H1 locs1 → W p l e R s m args below meth c H1 locs1 cells slots Q (F0 m (pc + 1) ls rest)) : W p l e R s m args below meth c H locs cells slots Q (F0 m pc ls (.int x :: .int i :: .ref a :: rest)) := by
  subst hws
  subst hj
  obtain ⟨hx, hb, -⟩ := C
  obtain ⟨hK, hP, hD, hS, hA, hO⟩ := hN
  exact va_iast (D := D) hx hb hK hP hD hS q0 t0 ha ht (inb_in hin) hdg (fun H1 locs1 hP1 hD1 hS1 => kk H1 locs1 ⟨hK, hP1, hD1, hS1, hA, hO⟩)
theorem n_ald2 (C : gCx p s m args meth c own cc nL rt) (hN : NH D tys s A ws H locs) (q0 t0 : Nat) {cA : ClassId} {n : Nat} {f : Nat → Option Nat} (ha : ws[q0]? = some (a, .inl (cA, n, .inr (.inr (.inr (.inr f)))))) (ht : tys[t0]? = some (cA, .array .int)) {i : Int32} (j : Nat) {v : Nat} (hin : inb i n = true) (hj : i.toNatClampNeg = j) (hv : f j = some v) (hdg : decode cc pc = .ok (.aaload, 1))
    (kk : W p l e R s m args below meth c H locs cells slots Q (F0 m (pc + 1) ls (.ref v :: rest))) : W p l e R s m args below meth c H locs cells slots Q (F0 m pc ls (.int i :: .ref a :: rest)) := by
  subst hj
  obtain ⟨hx, hb, -⟩ := C
  obtain ⟨hK, hP, -⟩ := hN
  have hin := inb_in hin
  have hlt : i.toNatClampNeg < n := Nat.not_le.mp fun q => hin (Or.inr q)
  refine W.aald (v := .ref v) (ty := .array .int) hx hb (hP q0 _ ha) ((hK.2 t0 _ ht).1 n (fun j => va_rf (f j))) rfl (fun q => by cases q) (by show ¬ (i < 0 ∨ (arrV _ _ _).slots.size ≤ _); rw [arrV_size]; exact hin) (by show (arrV _ _ _).slots[_]? = _; rw [arrV_read _ _ hlt, hv]; rfl) rfl rfl hdg kk
theorem n_newI (C : gCx p s m args meth c own cc nL rt) (hN : NH D tys s A ws H locs) {cI : ClassId} (t0 : Nat) (ht : tys[t0]? = some (cI, .int)) (harr : Cond.arrayClass .int ∈ lw_g) {n : Int32} (N' : Nat) {cells' slots' : Nat} (hn : (decide (¬ n < 0) && decide (n.toNatClampNeg = N') && decide (N' * 4 ≤ 536870912)) = true) (hcells : cells + 1 = cells' ∧ cells' ≤ R.cells) (hslots : slots + N' = slots' ∧ slots' ≤ R.slots) (hdg : decode cc pc = .ok (.newarray .int, 2))
    (kk : ∀ (q : Nat) (H1 : Heap), NH D tys s A (ws ++ [(q, .inl (cI, N', .inl (fun _ => 0)))]) H1 locs → W p l e R s m args below meth c H1 locs cells' slots' Q (F0 m (pc + 2) ls (.ref q :: rest))) : W p l e R s m args below meth c H locs cells slots Q (F0 m pc ls (.int n :: rest)) := by
  obtain ⟨hx, hb, -, -, hts, -⟩ := C
  obtain ⟨hK, hP, hD, hS, hA, hO⟩ := hN
  obtain ⟨rfl, hc⟩ := hcells
  obtain ⟨rfl, hs⟩ := hslots
  simp only [Bool.and_eq_true, decide_eq_true_eq] at hn
  refine va_newa (D := D) (atype := .int) (ty := .int) (a0 := (N', .inl (fun _ => 0))) hx hb (hts _ harr) rfl hK hP hD hS hA (fun cA => rfl) hn.1.1 hn.1.2 hn.2 hc hs hdg (fun q cA H1 hK1 hP1 hD1 hS1 => ?_)
  have e1 := (hK1.2 tys.length (cA, .int) (by rw [List.getElem?_append_right (Nat.le_refl _), Nat.sub_self]; rfl)).2
  have e2 := (hK.2 t0 _ ht).2
  have e : cA = cI := Option.some.inj (e1.symm.trans e2)
  subst e
  exact kk q H1 ⟨hK, hP1, hD1, hS1, hA, hO⟩
theorem n_newZ (C : gCx p s m args meth c own cc nL rt) (hN : NH D tys s A ws H locs) {cI : ClassId} (t0 : Nat) (ht : tys[t0]? = some (cI, .boolean)) (harr : Cond.arrayClass .boolean ∈ lw_g) {n : Int32} (N' : Nat) {cells' slots' : Nat} (hn : (decide (¬ n < 0) && decide (n.toNatClampNeg = N') && decide (N' * 4 ≤ 536870912)) = true) (hcells : cells + 1 = cells' ∧ cells' ≤ R.cells) (hslots : slots + N' = slots' ∧ slots' ≤ R.slots) (hdg : decode cc pc = .ok (.newarray .boolean, 2))
    (kk : ∀ (q : Nat) (H1 : Heap), NH D tys s A (ws ++ [(q, .inl (cI, N', .inl (fun _ => 0)))]) H1 locs → W p l e R s m args below meth c H1 locs cells' slots' Q (F0 m (pc + 2) ls (.ref q :: rest))) : W p l e R s m args below meth c H locs cells slots Q (F0 m pc ls (.int n :: rest)) := by
  obtain ⟨hx, hb, -, -, hts, -⟩ := C
  obtain ⟨hK, hP, hD, hS, hA, hO⟩ := hN
  obtain ⟨rfl, hc⟩ := hcells
  obtain ⟨rfl, hs⟩ := hslots
  simp only [Bool.and_eq_true, decide_eq_true_eq] at hn
  refine va_newa (D := D) (atype := .boolean) (ty := .boolean) (a0 := (N', .inl (fun _ => 0))) hx hb (hts _ harr) rfl hK hP hD hS hA (fun cA => rfl) hn.1.1 hn.1.2 (by show N' * 1 ≤ _; omega) hc hs hdg (fun q cA H1 hK1 hP1 hD1 hS1 => ?_)
  have e1 := (hK1.2 tys.length (cA, .boolean) (by rw [List.getElem?_append_right (Nat.le_refl _), Nat.sub_self]; rfl)).2
  have e2 := (hK.2 t0 _ ht).2
  have e : cA = cI := Option.some.inj (e1.symm.trans e2)
  subst e
  exact kk q H1 ⟨hK, hP1, hD1, hS1, hA, hO⟩
theorem n_newq (C : gCx p s m args meth c own cc nL rt) (hN : NH D tys s A ws H locs) {idx : Nat} (hl : Cond.classLink own idx "EveningAuction$Sheet" ∈ lw_g) {n : Int32} (N' : Nat) {cells' slots' : Nat} (hn : (decide (¬ n < 0) && decide (n.toNatClampNeg = N') && decide (N' * 4 ≤ 536870912)) = true) (hcells : cells + 1 = cells' ∧ cells' ≤ R.cells) (hslots : slots + N' = slots' ∧ slots' ≤ R.slots) (hdg : decode cc pc = .ok (.anewarray idx, 3))
    (kk : ∀ (q : Nat) (cQ : ClassId) (H1 : Heap), NH D (tys ++ [(cQ, .object "EveningAuction$Sheet")]) s A (ws ++ [(q, .inl (cQ, N', .inr (.inr (.inr (.inr (fun _ => none))))))]) H1 locs → W p l e R s m args below meth c H1 locs cells' slots' Q (F0 m (pc + 3) ls (.ref q :: rest))) : W p l e R s m args below meth c H locs cells slots Q (F0 m pc ls (.int n :: rest)) := by
  obtain ⟨hx, hb, -, hown, hts, -⟩ := C
  obtain ⟨hK, hP, hD, hS, hA, hO⟩ := hN
  obtain ⟨rfl, hc⟩ := hcells
  obtain ⟨rfl, hs⟩ := hslots
  simp only [Bool.and_eq_true, decide_eq_true_eq] at hn
  exact va_newq (D := D) hx hb hown (hts _ hl) hO.2.1 hK hP hD hS hA hn.1.1 hn.1.2 hn.2 hc hs hdg (fun q cA H1 hK1 hP1 hD1 hS1 => kk q cA H1 ⟨hK1, hP1, hD1, hS1, hA, hO⟩)
theorem n_new (C : gCx p s m args meth c own cc nL rt) (hN : NH D tys s A ws H locs) {ci n idx : Nat} {Cn : String} {T : u_T} (hcl : vwCl[ci]? = some (Cn, T, n)) (hin : ∀ x ∈ u_ws Cn T n, x ∈ lw_g) {ty0 : Nat → FieldType} (hty : ∀ k, k < n → parseFieldDescriptor (T k).2.2.1 = some (ty0 k)) (hl : Cond.classLink own idx Cn ∈ lw_g) (hinst : Cond.instantiable Cn n ∈ lw_g) (hini : Cond.initialized Cn ∈ lw_g) (fs : List Value) (hfs : ∀ j, j < n → defaultValue (ty0 j) = vp_V fs j) {cells' slots' : Nat} (hcells : cells + 1 = cells' ∧ cells' ≤ R.cells) (hslots : slots + n = slots' ∧ slots' ≤ R.slots) (hdg : decode cc pc = .ok (.new idx, 3))
    (kk : ∀ (q : Nat) (H1 : Heap), NH D tys s A (ws ++ [(q, .inr (ci, fs))]) H1 locs → W p l e R s m args below meth c H1 locs cells' slots' Q (F0 m (pc + 3) ls (.ref q :: rest))) : W p l e R s m args below meth c H locs cells slots Q (F0 m pc ls rest) := by
  obtain ⟨hx, hb, -, hown, hts, -⟩ := C
  obtain ⟨hK, hP, hD, hS, hA, hO⟩ := hN
  obtain ⟨rfl, hc⟩ := hcells
  obtain ⟨rfl, hs⟩ := hslots
  exact va_new (D := D) hx hb hts hin ty0 hty hown (hts _ hl) (hts _ hinst) (hts _ hini) hK hP hD hS hA hcl hfs hc hs hdg (fun q H1 hP1 hD1 hS1 => kk q H1 ⟨hK, hP1, hD1, hS1, hA, hO⟩)
theorem n_vret {S : Type} {wo : S → va_W} {tyo : S → nT} (C : gCx p s m args meth c own cc nL none) (hN : NH D tys s A ws H locs) (u : S) (hw : ws = wo u) (is : List Nat) (ht : is.filterMap (fun i => tys[i]?) = tyo u) (hQ : Q = MQ below (nQ D wo tyo A) args s cells slots A) (hdg : decode cc pc = .ok (.return_, 1)) : W p l e R s m args below meth c H locs cells slots Q (F0 m pc ls []) := by
  subst hQ
  subst hw
  obtain ⟨hx, hb, -, -, -, hr, hlk⟩ := C
  obtain ⟨hK, hP, hD, hS, hA, hO⟩ := hN
  exact W.vret hx hb hr (fun t ht' hW => ⟨⟨u, rfl, trivial, by show va_P _ _ _ t.heap; rw [ht']; exact hP, hD, va_K.moved hW.alike (hK.sub is ht)⟩, hS.F ht'⟩) hS.2.2 hdg hlk
/-- a constructor's call: its cells come back grown, the others stay -/
theorem n_goI {S : Type} {wo : S → va_W} {tyo : S → nT} {wc wr : va_W} {mc ms : Nat} {st0 : List Value} {av : Array Value} (hN : NH D tys s A ws H locs) (hr : va_Run p l e R s m args below meth c H locs cells slots mc ms (F0 m pc ls st0) rest (nQ D wo tyo (va_A wc H.size) av) (va_A wc H.size)) (isC isR : List Nat) (hC : isC.map (fun i => ws[i]?) = wc.map some) (hR : isR.map (fun i => ws[i]?) = wr.map some) (hn : va_nd isR = true) (hdis : ∀ i ∈ isR, i ∉ isC) {cells' slots' : Nat} (hcs : cells + mc = cells' ∧ slots + ms = slots')
    (kk : ∀ (u : S) (H1 : Heap) (locs1 : List Loc), NH D (tys ++ tyo u) s A (wr ++ wo u) H1 locs1 → W p l e R s m args below meth c H1 locs1 cells' slots' Q (F0 m (pc + 3) ls rest)) : W p l e R s m args below meth c H locs cells slots Q (F0 m pc ls st0) := by
  obtain ⟨rfl, rfl⟩ := hcs
  obtain ⟨hK, hP, hD, hS, hA, hO⟩ := hN
  have hF := va_free (wc := wc) hD hS hA isC hC
  refine va_callv hr hS (fun q _ h => hF q h) hF (fun u t H1 locs1 ht hvm _ hB hz1 hk1 hS1 => ?_)
  obtain ⟨hP1, hD1, hK1⟩ := hB
  rw [ht] at hP1
  obtain ⟨hP2, hD2⟩ := va_join (wr := wr) (w1 := wo u) hP hD isC isR hC hR hn hdis hk1 hF hP1 hD1
  exact kk u H1 locs1 ⟨hK.app (va_K.moved hvm.symm hK1), hP2, hD2, hS1, hA, hO⟩
theorem n_pre {wc : va_W} (hN : NH D tys s A ws H locs) (isC : List Nat) (hC : isC.map (fun i => ws[i]?) = wc.map some) (hn : va_nd isC = true) {U : State} (hU : U.heap = H) (hW : s.WarmedH U.vm) : NP D tys H.size wc U := by
  obtain ⟨hK, hP, hD, hS, hA, hO⟩ := hN
  have hs : isC.filterMap (fun i => ws[i]?) = wc := by
    have : ∀ (is : List Nat) (w : va_W), is.map (fun i => ws[i]?) = w.map some → is.filterMap (fun i => ws[i]?) = w := by
      intro is
      induction is with
      | nil => intro w h; cases w with
        | nil => rfl
        | cons x w => cases h
      | cons i is ih => intro w h; cases w with
        | nil => cases h
        | cons x w =>
          simp only [List.map_cons, List.cons.injEq] at h
          rw [List.filterMap_cons, h.1, ih w h.2]
    exact this isC wc hC
  exact ⟨by rw [hU], by rw [hU]; exact hP.sub isC hs, va_K.moved hW.alike hK, (hD.sub isC hn hC).weaken (fun _ _ _ _ => trivial), hO.to hW⟩
variable {y : MethodName} {b : ByteArray} {nL' n idx mc ms : Nat} {rm : Room} {As st0 : List Value}
def gIw (own : String) (idx : Nat) (y : MethodName) (b : ByteArray) (nL : Nat) (n : Nat) : Prop := Cond.methodLink own idx y ∈ lw_g ∧ Cond.instanceMethod y ∈ lw_g ∧ Cond.initialized y.cls ∈ lw_g ∧ Cond.code y b nL none ∈ lw_g ∧ y.name = "<init>" ∧ (y.cls ≠ "java/lang/invoke/MethodHandle" ∧ y.cls ≠ "java/lang/invoke/VarHandle" ∧ (parseMethodDescriptor y.desc).map (fun d => d.parameters.length) = some n)
theorem n_runI (C : gCx p s m args meth c own cc nL rt) (hN : NH D tys s A ws H locs) {wc : va_W} {Qc : Array Value → State → Outcome → State → Prop} (hM : Met l y (.code y b nL' none :: lw_g) rm (va_Pc (.ref a :: As) (NP D tys H.size wc)) Qc mc ms (va_A wc H.size)) (isC : List Nat) (hC : isC.map (fun i => ws[i]?) = wc.map some) (hnd : va_nd isC = true) (hw : gIw own idx y b nL' n) (hrc : rm.cells = mc) (hrs : rm.slots = ms) (hR : rm.frames + 1 ≤ R.frames ∧ 8 + (nL' + 11) + rm.locals ≤ R.locals) (hn : As.length = n) (hls : ls.size = nL) (hst : st0 = As.reverse ++ .ref a :: rest) (hre : (rest.map fun v => v.category).sum ≤ 8) (hdg : decode cc pc = .ok (.invokespecial idx, 3)) (hcs : cells + mc ≤ R.cells ∧ slots + ms ≤ R.slots) :
    va_Run p l e R s m args below meth c H locs cells slots mc ms (F0 m pc ls st0) rest (Qc (Value.ref a :: As).toArray) (va_A wc H.size) := by
  obtain ⟨hx, hb, hml, hown, hts, -⟩ := C
  obtain ⟨w1, w2, w3, w4, w5, w6⟩ := hw
  exact va_runI (As := As) (rest := rest) ⟨hx, hb, hml, hown, hts⟩ hM (cwI n hts (g_good (fun x hx => by rcases List.mem_cons.mp hx with rfl | hx <;> assumption)) rfl hrc hrs (hts _ w3) (hts _ w1) (hts _ w2) w5 w6 hR) ⟨NP_blind, fun U hU hW => ⟨rfl, n_pre hN isC hC hnd hU hW⟩⟩ rfl hn hls hst (lv_room hre) hdg hcs
theorem n_runIN (C : gCx p s m args meth c own cc nL rt) (hN : NH D tys s A ws H locs) {host : String} {wc : va_W} {Qc : Array Value → State → Outcome → State → Prop} (hM : Met l y (.code y b nL' none :: lw_g) rm (va_Pc (.ref a :: As) (NP D tys H.size wc)) Qc mc ms (va_A wc H.size)) (isC : List Nat) (hC : isC.map (fun i => ws[i]?) = wc.map some) (hnd : va_nd isC = true) (hnw : va_Nw (.methodLinkNest own idx y host) s) (hw : Cond.instanceMethod y ∈ lw_g ∧ Cond.initialized y.cls ∈ lw_g ∧ Cond.code y b nL' none ∈ lw_g ∧ y.name = "<init>" ∧ (y.cls ≠ "java/lang/invoke/MethodHandle" ∧ y.cls ≠ "java/lang/invoke/VarHandle" ∧ (parseMethodDescriptor y.desc).map (fun d => d.parameters.length) = some n)) (hrc : rm.cells = mc) (hrs : rm.slots = ms) (hR : rm.frames + 1 ≤ R.frames ∧ 8 + (nL' + 11) + rm.locals ≤ R.locals) (hn : As.length = n) (hls : ls.size = nL) (hst : st0 = As.reverse ++ .ref a :: rest) (hre : (rest.map fun v => v.category).sum ≤ 8) (hdg : decode cc pc = .ok (.invokespecial idx, 3)) (hcs : cells + mc ≤ R.cells ∧ slots + ms ≤ R.slots) :
    va_Run p l e R s m args below meth c H locs cells slots mc ms (F0 m pc ls st0) rest (Qc (Value.ref a :: As).toArray) (va_A wc H.size) := by
  obtain ⟨hx, hb, hml, hown, hts, -⟩ := C
  obtain ⟨w2, w3, w4, w5, w6⟩ := hw
  exact va_runIN (As := As) (rest := rest) ⟨hx, hb, hml, hown, hts⟩ hM ⟨va_cnB n hts (g_good (fun x hx => by rcases List.mem_cons.mp hx with rfl | hx <;> assumption)) rfl hrc hrs hnw (hts _ w3) w6 hR, w5, hts _ w2⟩ ⟨NP_blind, fun U hU hW => ⟨rfl, n_pre hN isC hC hnd hU hW⟩⟩ rfl hn hls hst (lv_room hre) hdg hcs
end NR
