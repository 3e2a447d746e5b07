/-! ===== the one world of class and reference: cells 0..72 are made once, from 73 on sheets come in pairs (object, items) ===== -/
abbrev St : Type := Nat → Nat → Int32
def up (S : St) (k i : Nat) (v : Int32) : St := fun j => cond (Nat.beq j k) (upd (S j) i v) (S j)
theorem up_ne {S : St} {k i : Nat} {v : Int32} {j : Nat} (h : j ≠ k) : up S k i v j = S j := by
  have e : Nat.beq j k = false := by
    cases hb : Nat.beq j k with
    | false => rfl
    | true => exact absurd (Nat.eq_of_beq_eq_true hb) h
  simp [up, e]
theorem up_eq {S : St} {k i : Nat} {v : Int32} : up S k i v k = upd (S k) i v := by
  simp [up, Nat.beq_refl]
abbrev gw : Type := va_G × (ClassId × ClassId × ClassId × ClassId) × Nat × (Nat → Nat) × (Nat → Nat) × (Nat × Nat × Nat)
def gD (w : gw) : va_G := w.1
def gcI (w : gw) : ClassId := w.2.1.1
def gcZ (w : gw) : ClassId := w.2.1.2.1
def gcQ (w : gw) : ClassId := w.2.1.2.2.1
def gcR (w : gw) : ClassId := w.2.1.2.2.2
def gN (w : gw) : Nat := w.2.2.1
def gad (w : gw) : Nat → Nat := w.2.2.2.1
def gln (w : gw) : Nat → Nat := w.2.2.2.2.1
def gt1 (w : gw) : Nat := w.2.2.2.2.2.1
def gt2 (w : gw) : Nat := w.2.2.2.2.2.2.1
def gt3 (w : gw) : Nat := w.2.2.2.2.2.2.2
def gty (w : gw) : List (ClassId × FieldType) := [(gcI w, .int), (gcZ w, .boolean), (gcQ w, .object "EveningAuction$Sheet"), (gcR w, .array .int)]
def ar_i (w : gw) (n : Nat) (r : Nat → Int32) : va_E := .inl (gcI w, n, .inl r)
def ar_z (w : gw) (n : Nat) (r : Nat → Int32) : va_E := .inl (gcZ w, n, .inl r)
def ar_2 (w : gw) (k : Nat) : va_E := .inl (gcR w, 5, .inr (.inr (.inr (.inr (fun i => if i < 5 then some (gad w (k + i)) else none)))))
def sh_r (w : gw) (x : Int32) : Option Nat := if x < 0 then none else some (gad w x.toNatClampNeg)
def ar_s (w : gw) (r : Nat → Int32) : va_E := .inl (gcQ w, 4, .inr (.inr (.inr (.inr (fun i => sh_r w (r i))))))
def fxr (w : gw) (r : Nat → Int32) : List va_E := [
  .inr (7, [.ref (gad w 1), .ref (gad w 25), .ref (gad w 27), .ref (gad w 33), .ref (gad w 39), .ref (gad w 43), .ref (gad w 45), .ref (gad w 48), .int (r 8), .int (r 9)]),
  .inr (6, [.ref (gad w 2), .ref (gad w 3), .ref (gad w 4), .ref (gad w 10), .ref (gad w 16), .ref (gad w 22), .ref (gad w 23), .ref (gad w 24)]),
  ar_i w 5 r,
  ar_i w 5 r,
  ar_2 w 5,
  ar_i w 10 r,
  ar_i w 10 r,
  ar_i w 10 r,
  ar_i w 10 r,
  ar_i w 10 r,
  ar_2 w 11,
  ar_i w 5 r,
  ar_i w 5 r,
  ar_i w 5 r,
  ar_i w 5 r,
  ar_i w 5 r,
  ar_2 w 17,
  ar_i w 10 r,
  ar_i w 10 r,
  ar_i w 10 r,
  ar_i w 10 r,
  ar_i w 10 r,
  ar_i w 10 r,
  ar_i w 10 r,
  ar_i w 3 r,
  .inr (0, [.ref (gad w 26), .int (r 1), .int (r 2), .int (r 3)]),
  ar_i w 100 r,
  .inr (3, [.ref (gad w 28), .ref (gad w 29), .ref (gad w 30), .ref (gad w 31), .ref (gad w 32), .int (r 5), .int (r 6), .int (r 7)]),
  ar_z w 20 r,
  ar_i w 10 r,
  ar_i w 10 r,
  ar_i w 10 r,
  ar_i w 5 r,
  .inr (3, [.ref (gad w 34), .ref (gad w 35), .ref (gad w 36), .ref (gad w 37), .ref (gad w 38), .int (r 5), .int (r 6), .int (r 7)]),
  ar_z w 20 r,
  ar_i w 10 r,
  ar_i w 10 r,
  ar_i w 10 r,
  ar_i w 5 r,
  .inr (2, [.ref (gad w 40), .ref (gad w 41), .ref (gad w 42), .int (r 3), .int (r 4)]),
  ar_i w 32 r,
  ar_i w 5 r,
  ar_i w 5 r,
  .inr (1, [.ref (gad w 44), .int (r 1)]),
  ar_i w 32 r,
  .inr (5, [.ref (gad w 46), .ref (gad w 47), .int (r 2), .int (r 3)]),
  ar_i w 10 r,
  ar_i w 9 r,
  ar_s w r,
  .inr (8, [.ref (gad w 50), .ref (gad w 51), .ref (gad w 52), .ref (gad w 53), .int (r 4), .ref (gad w 54), .int (r 6), .int (r 7), .int (r 8), .ref (gad w 55), .ref (gad w 56), .ref (gad w 57), .ref (gad w 58), .ref (gad w 59), .ref (gad w 60), .ref (gad w 61), .ref (gad w 62), .ref (gad w 63), .ref (gad w 64), .ref (gad w 65), .int (r 20), .ref (gad w 66), .int (r 22), .ref (gad w 67), .ref (gad w 68), .ref (gad w 69), .ref (gad w 70), .ref (gad w 71), .ref (gad w 72)]),
  ar_i w 4 r,
  ar_i w 4 r,
  ar_i w 240 r,
  ar_i w 60 r,
  ar_i w 100 r,
  ar_i w 60 r,
  ar_i w 5 r,
  ar_i w 5 r,
  ar_i w 50 r,
  ar_i w 25 r,
  ar_i w 10 r,
  ar_i w 10 r,
  ar_i w 3 r,
  ar_i w 5 r,
  ar_i w 10 r,
  ar_z w 20 r,
  ar_i w 6144 r,
  ar_i w 16 r,
  ar_i w 10 r,
  ar_i w 10 r,
  ar_i w 5 r,
  ar_i w 10 r,
  ar_i w 11 r]
def dyr (w : gw) (k : Nat) (r : Nat → Int32) : va_E := if (k - 73) % 2 = 0 then .inr (4, [.int (r 0), .ref (gad w (k + 1))]) else .inl (gcI w, gln w k, .inl r)
def celr (w : gw) (k : Nat) (r : Nat → Int32) : va_E := (fxr w r).getD k (dyr w k r)
def gws (w : gw) (S : St) : va_W := (List.range (gN w)).map (fun k => (gad w k, celr w k (S k)))
theorem gws_at {w : gw} {S : St} {k : Nat} (h : k < gN w) : (gws w S)[k]? = some (gad w k, celr w k (S k)) := by
  unfold gws
  rw [List.getElem?_map, List.getElem?_range h]
  rfl
theorem gws_lt {w : gw} {S : St} {k : Nat} {q : Nat × va_E} (h : (gws w S)[k]? = some q) : k < gN w ∧ q = (gad w k, celr w k (S k)) := by
  have hl := (List.getElem?_eq_some_iff.mp h).1
  have hk : k < gN w := by
    unfold gws at hl
    rw [List.length_map, List.length_range] at hl
    exact hl
  rw [gws_at hk] at h
  exact ⟨hk, (Option.some.inj h).symm⟩
theorem gws_set {w : gw} {S S' : St} {k : Nat} {e : va_E} (hk : k < gN w) (he : celr w k (S' k) = e) (ho : ∀ j, j ≠ k → S' j = S j) : (gws w S).set k (gad w k, e) = gws w S' := by
  apply List.ext_getElem?
  intro j
  by_cases hj : j = k
  · subst hj
    have hl : j < (gws w S).length := by
      unfold gws
      rw [List.length_map, List.length_range]
      exact hk
    rw [List.getElem?_set_self hl, gws_at hk, he]
  · rw [List.getElem?_set_ne (Ne.symm hj)]
    by_cases hjN : j < gN w
    · rw [gws_at hjN, gws_at hjN, ho j hj]
    · have h1 : (gws w S)[j]? = none := by
        apply List.getElem?_eq_none
        unfold gws
        rw [List.length_map, List.length_range]
        omega
      have h2 : (gws w S')[j]? = none := by
        apply List.getElem?_eq_none
        unfold gws
        rw [List.length_map, List.length_range]
        omega
      rw [h1, h2]
theorem gws_D {w : gw} {S S' : St} {A : Nat → Prop} (hD : va_D A (gws w S)) : va_D A (gws w S') := by
  refine ⟨fun i j x y hi hj hxy => ?_, fun k q hk => ?_⟩
  · obtain ⟨h1, e1⟩ := gws_lt hi
    obtain ⟨h2, e2⟩ := gws_lt hj
    subst e1 e2
    exact hD.1 i j _ _ (gws_at h1) (gws_at h2) hxy
  · obtain ⟨h1, e1⟩ := gws_lt hk
    subst e1
    exact hD.2 k (gad w k, celr w k (S k)) (gws_at h1)
def gA (w : gw) (sz : Nat) : Nat → Prop := fun q => (∃ k, k < gN w ∧ q = gad w k) ∨ sz ≤ q
theorem gws_DA {w : gw} {S : St} {A : Nat → Prop} {sz : Nat} (hD : va_D A (gws w S)) : va_D (gA w sz) (gws w S) := by
  refine ⟨hD.1, fun k q hk => ?_⟩
  obtain ⟨h1, e1⟩ := gws_lt hk
  subst e1
  exact Or.inl ⟨k, h1, rfl⟩
/-- the tables, and links across the nest -/
def tb1 (j : Nat) : Int32 := [1, 0, 1].getD j 0
def tb2 (j : Nat) : Int32 := [20, 1, 10].getD j 0
def tb3 (j : Nat) : Int32 := [24, 6, 4, 6, 24].getD j 0
def gST (w : gw) (A : Nat → Prop) (U : State) (H : Heap) : Prop :=
  va_Z "EveningAuction" "LEAST_RULE" "[I" (.ref (gt1 w)) A U H ∧ va_T .int (gt1 w) 3 (fun j => .int (tb1 j)) A U H ∧
  va_Z "EveningAuction" "GREATEST_RULE" "[I" (.ref (gt2 w)) A U H ∧ va_T .int (gt2 w) 3 (fun j => .int (tb2 j)) A U H ∧
  va_Z "EveningAuction" "ORDERS" "[I" (.ref (gt3 w)) A U H ∧ va_T .int (gt3 w) 5 (fun j => .int (tb3 j)) A U H ∧
  va_Nw (.methodLinkNest "EveningAuction$BidText" 29 ⟨"EveningAuction", "within", "(III)Z"⟩ "EveningAuction") U ∧
  va_Nw (.methodLinkNest "EveningAuction$Town" 38 ⟨"EveningAuction", "isBidder", "(I)Z"⟩ "EveningAuction") U ∧
  va_Nw (.fieldLinkNest "EveningAuction$Clubs" 38 "EveningAuction" "ORDERS" "[I" "EveningAuction") U
theorem gST.to {w : gw} {A B : Nat → Prop} {s U : State} {H H1 : Heap} (h : gST w A s H) (hW : s.WarmedH U.vm) (hq : ∀ a : Nat, a < H.size → ¬ A a → H1[a]? = H[a]?) (hAB : ∀ q, B q → A q) : gST w B U H1 := by
  obtain ⟨h1, h2, h3, h4, h5, h6, h7, h8, h9⟩ := h
  exact ⟨((h1.kept hq).moved hW.alike).narrow hAB, ((h2.kept hq).moved hW.alike).narrow hAB, ((h3.kept hq).moved hW.alike).narrow hAB, ((h4.kept hq).moved hW.alike).narrow hAB, ((h5.kept hq).moved hW.alike).narrow hAB, ((h6.kept hq).moved hW.alike).narrow hAB, va_Nw.warmM hW h7, va_Nw.warmM hW h8, va_Nw.warmF hW h9⟩
/-- a method's start -/
def GP (w : gw) (sz : Nat) (S : St) (U : State) : Prop := U.heap.size = sz ∧ va_P (gD w) vwCl (gws w S) U.heap ∧ va_K (gD w) vwCl (gty w) U ∧ va_D (gA w sz) (gws w S) ∧ gST w (gA w sz) U U.heap ∧ 73 ≤ gN w
theorem GP_blind {w : gw} {sz : Nat} {S : St} {av : List Value} : FrameBlind (va_Pc av (GP w sz S)) := by
  intro a U g mk q
  obtain ⟨q0, q1, qP, qK, qD, ⟨h1, h2, h3, h4, h5, h6, h7, h8, h9⟩, qN⟩ := q
  refine ⟨q0, q1, qP, va_K.moved (u := U) (U := U.calling g mk a) (Vm.Alike.refl U.vm) qK, qD, ⟨va_Z.moved (U := U.calling g mk a) (Vm.Alike.refl U.vm) h1, va_T.moved (U := U.calling g mk a) (Vm.Alike.refl U.vm) h2, va_Z.moved (U := U.calling g mk a) (Vm.Alike.refl U.vm) h3, va_T.moved (U := U.calling g mk a) (Vm.Alike.refl U.vm) h4, va_Z.moved (U := U.calling g mk a) (Vm.Alike.refl U.vm) h5, va_T.moved (U := U.calling g mk a) (Vm.Alike.refl U.vm) h6, va_Nw.same rfl rfl h7, va_Nw.same rfl rfl h8, va_Nw.same rfl rfl h9⟩, qN⟩
/-- the world within a walk -/
def GH (w : gw) (s : State) (A : Nat → Prop) (S : St) (H : Heap) (locs : List Loc) : Prop := va_K (gD w) vwCl (gty w) s ∧ va_P (gD w) vwCl (gws w S) H ∧ va_D A (gws w S) ∧ va_S A s.heap H locs ∧ (∀ q, s.heap.size ≤ q → A q) ∧ gST w A s s.heap ∧ 73 ≤ gN w
theorem GH.lt {w : gw} {s : State} {A : Nat → Prop} {S : St} {H : Heap} {locs : List Loc} (h : GH w s A S H locs) {k : Nat} (hk : k < 73) : k < gN w := Nat.lt_of_lt_of_le hk h.2.2.2.2.2.2
theorem GH.free {w : gw} {s : State} {A : Nat → Prop} {S : St} {H : Heap} {locs : List Loc} (h : GH w s A S H locs) : ∀ q, gA w H.size q → A q := by
  intro q hq
  rcases hq with ⟨k, hk, rfl⟩ | hq
  · exact h.2.2.1.2 k _ (gws_at hk)
  · exact h.2.2.2.2.1 q (Nat.le_trans h.2.2.2.1.1 hq)
theorem GH.pre {w : gw} {s : State} {A : Nat → Prop} {S : St} {H : Heap} {locs : List Loc} (h : GH w s A S H locs) {U : State} (hU : U.heap = H) (hW : s.WarmedH U.vm) : GP w H.size S U := by
  have hf := h.free
  obtain ⟨hK, hP, hD, hS, hA, hT, hN⟩ := h
  refine ⟨by rw [hU], by rw [hU]; exact hP, va_K.moved hW.alike hK, gws_DA hD, ?_, hN⟩
  rw [hU]
  exact gST.to hT hW hS.2.1 hf
theorem GH.next {w : gw} {s : State} {A : Nat → Prop} {S S' : St} {H H1 : Heap} {locs locs1 : List Loc} (h : GH w s A S H locs) (hP : va_P (gD w) vwCl (gws w S') H1) (hS : va_S A s.heap H1 locs1) : GH w s A S' H1 locs1 := by
  obtain ⟨hK, -, hD, -, hA, hT, hN⟩ := h
  exact ⟨hK, hP, gws_D hD, hS, hA, hT, hN⟩
/-- what stays through a method's walk -/
def gCx (p : Program) (s : State) (m : MethodId) (args : Array Value) (meth : Method) (c : Code) (own : String) (cc : ByteArray) (nL : Nat) (rt : Option FieldType) : Prop :=
  p.tables.exec = Jvm.exec ∧ c.code = cc ∧ c.maxLocals = nL ∧ s.vm.findClass own = some m.cls ∧ (∀ w ∈ lw_g, w.before args s = true) ∧ meth.sig.returnType = rt ∧ meth.locks = false
/-- contracts: from the world S, with these arguments, the method answers r, and the world is S' -/
def gQi (w : gw) (r : Int32) (S' : St) (A : Nat → Prop) : Array Value → State → Outcome → State → Prop := va_Qi (fun r2 (S2 : St) => r2 = r ∧ S2 = S') (fun S2 t => va_P (gD w) vwCl (gws w S2) t.heap) A
def gQl (w : gw) (r : Int64) (S' : St) (A : Nat → Prop) : Array Value → State → Outcome → State → Prop := va_Ql (fun r2 (S2 : St) => r2 = r ∧ S2 = S') (fun S2 t => va_P (gD w) vwCl (gws w S2) t.heap) A
def gQv (w : gw) (S' : St) (A : Nat → Prop) : Array Value → State → Outcome → State → Prop := va_Qv (fun (S2 : St) => S2 = S') (fun S2 t => va_P (gD w) vwCl (gws w S2) t.heap) A
def gQr (w : gw) (k : Nat) (S' : St) (A : Nat → Prop) : Array Value → State → Outcome → State → Prop := va_Qr (fun (S2 : St) => S2 = S') (fun S2 a t => a = gad w k ∧ va_P (gD w) vwCl (gws w S2) t.heap) A
def gMi (l : Launch) (w : gw) (y : MethodName) (b : ByteArray) (nL : Nat) (rt : Option FieldType) (rm : Room) (av : List Value) (S : St) (r : Int32) (S' : St) : Prop := ∀ sz : Nat, Met l y (.code y b nL rt :: lw_g) rm (va_Pc av (GP w sz S)) (gQi w r S' (gA w sz)) 0 0 (gA w sz)
def gMl (l : Launch) (w : gw) (y : MethodName) (b : ByteArray) (nL : Nat) (rt : Option FieldType) (rm : Room) (av : List Value) (S : St) (r : Int64) (S' : St) : Prop := ∀ sz : Nat, Met l y (.code y b nL rt :: lw_g) rm (va_Pc av (GP w sz S)) (gQl w r S' (gA w sz)) 0 0 (gA w sz)
def gMv (l : Launch) (w : gw) (y : MethodName) (b : ByteArray) (nL : Nat) (rt : Option FieldType) (rm : Room) (av : List Value) (S : St) (S' : St) : Prop := ∀ sz : Nat, Met l y (.code y b nL rt :: lw_g) rm (va_Pc av (GP w sz S)) (gQv w S' (gA w sz)) 0 0 (gA w sz)
def gMr (l : Launch) (w : gw) (y : MethodName) (b : ByteArray) (nL : Nat) (rt : Option FieldType) (rm : Room) (av : List Value) (S : St) (k : Nat) (S' : St) : Prop := ∀ sz : Nat, Met l y (.code y b nL rt :: lw_g) rm (va_Pc av (GP w sz S)) (gQr w k S' (gA w sz)) 0 0 (gA w sz)
/-- rooms -/
def rmm (f n : Nat) : Room := { frames := f, cells := 0, slots := 0, locals := n }
theorem g_met {l : Launch} {w : gw} {y : MethodName} {b : ByteArray} {nL : Nat} {rt : Option FieldType} {rm : Room} {av : List Value} {S : St} {Qc : (Nat → Prop) → Array Value → State → Outcome → State → Prop} (hy : plainName y.cls = true) (hav : (lg_sl av).length ≤ nL)
    (body : ∀ (p : Program) (e : Env) (s : State) (m : MethodId) (args : Array Value) (below : List Frame) (meth : Method) (c : Code) (A : Nat → Prop) (Q : State → Prop) (ls : Array Slot), Q = MQ below (Qc A) args s 0 0 A → gCx p s m args meth c y.cls b nL rt → GH w s A S s.heap [] → lv_has ls nL (lv_args 0 av) → W p l e rm s m args below meth c s.heap [] 0 0 Q (F0 m 0 ls [])) :
    ∀ sz : Nat, Met l y (.code y b nL rt :: lw_g) rm (va_Pc av (GP w sz S)) (Qc (gA w sz)) 0 0 (gA w sz) := by
  intro sz
  refine Met.ofW (cc := b) (maxL := nL) (ret := rt) hy rfl ?_
  intro p e s m args below meth c s₁ B hml hv
  obtain ⟨rfl, hsz, hP, hK, hD, hT, hN⟩ := hv
  subst hsz
  have hts := atoms_spec (ws := .code y b nL rt :: lw_g) B.pre
  have hl := lv_entry av (n := nL) hav
  rw [lg_entry_eq]
  exact body p e s m _ below meth c _ _ _ rfl ⟨B.exec, B.bytes, hml, findClass_of_methodNamed B.named, fun x hx => hts x (List.mem_cons_of_mem _ hx), B.returns, B.notSynchronized⟩ ⟨hK, hP, hD, va_S.rf, fun q h => Or.inr h, hT, hN⟩ hl
theorem ce0 (w : gw) (r : Nat → Int32) : celr w 0 r = .inr (7, [.ref (gad w 1), .ref (gad w 25), .ref (gad w 27), .ref (gad w 33), .ref (gad w 39), .ref (gad w 43), .ref (gad w 45), .ref (gad w 48), .int (r 8), .int (r 9)]) := rfl
theorem ce1 (w : gw) (r : Nat → Int32) : celr w 1 r = .inr (6, [.ref (gad w 2), .ref (gad w 3), .ref (gad w 4), .ref (gad w 10), .ref (gad w 16), .ref (gad w 22), .ref (gad w 23), .ref (gad w 24)]) := rfl
theorem ce2 (w : gw) (r : Nat → Int32) : celr w 2 r = ar_i w 5 r := rfl
theorem ce3 (w : gw) (r : Nat → Int32) : celr w 3 r = ar_i w 5 r := rfl
theorem ce4 (w : gw) (r : Nat → Int32) : celr w 4 r = ar_2 w 5 := rfl
theorem ce5 (w : gw) (r : Nat → Int32) : celr w 5 r = ar_i w 10 r := rfl
theorem ce6 (w : gw) (r : Nat → Int32) : celr w 6 r = ar_i w 10 r := rfl
theorem ce7 (w : gw) (r : Nat → Int32) : celr w 7 r = ar_i w 10 r := rfl
theorem ce8 (w : gw) (r : Nat → Int32) : celr w 8 r = ar_i w 10 r := rfl
theorem ce9 (w : gw) (r : Nat → Int32) : celr w 9 r = ar_i w 10 r := rfl
theorem ce10 (w : gw) (r : Nat → Int32) : celr w 10 r = ar_2 w 11 := rfl
theorem ce11 (w : gw) (r : Nat → Int32) : celr w 11 r = ar_i w 5 r := rfl
theorem ce12 (w : gw) (r : Nat → Int32) : celr w 12 r = ar_i w 5 r := rfl
theorem ce13 (w : gw) (r : Nat → Int32) : celr w 13 r = ar_i w 5 r := rfl
theorem ce14 (w : gw) (r : Nat → Int32) : celr w 14 r = ar_i w 5 r := rfl
theorem ce15 (w : gw) (r : Nat → Int32) : celr w 15 r = ar_i w 5 r := rfl
theorem ce16 (w : gw) (r : Nat → Int32) : celr w 16 r = ar_2 w 17 := rfl
theorem ce17 (w : gw) (r : Nat → Int32) : celr w 17 r = ar_i w 10 r := rfl
theorem ce18 (w : gw) (r : Nat → Int32) : celr w 18 r = ar_i w 10 r := rfl
theorem ce19 (w : gw) (r : Nat → Int32) : celr w 19 r = ar_i w 10 r := rfl
theorem ce20 (w : gw) (r : Nat → Int32) : celr w 20 r = ar_i w 10 r := rfl
theorem ce21 (w : gw) (r : Nat → Int32) : celr w 21 r = ar_i w 10 r := rfl
theorem ce22 (w : gw) (r : Nat → Int32) : celr w 22 r = ar_i w 10 r := rfl
theorem ce23 (w : gw) (r : Nat → Int32) : celr w 23 r = ar_i w 10 r := rfl
theorem ce24 (w : gw) (r : Nat → Int32) : celr w 24 r = ar_i w 3 r := rfl
theorem ce25 (w : gw) (r : Nat → Int32) : celr w 25 r = .inr (0, [.ref (gad w 26), .int (r 1), .int (r 2), .int (r 3)]) := rfl
theorem ce26 (w : gw) (r : Nat → Int32) : celr w 26 r = ar_i w 100 r := rfl
theorem ce27 (w : gw) (r : Nat → Int32) : celr w 27 r = .inr (3, [.ref (gad w 28), .ref (gad w 29), .ref (gad w 30), .ref (gad w 31), .ref (gad w 32), .int (r 5), .int (r 6), .int (r 7)]) := rfl
theorem ce28 (w : gw) (r : Nat → Int32) : celr w 28 r = ar_z w 20 r := rfl
theorem ce29 (w : gw) (r : Nat → Int32) : celr w 29 r = ar_i w 10 r := rfl
theorem ce30 (w : gw) (r : Nat → Int32) : celr w 30 r = ar_i w 10 r := rfl
theorem ce31 (w : gw) (r : Nat → Int32) : celr w 31 r = ar_i w 10 r := rfl
theorem ce32 (w : gw) (r : Nat → Int32) : celr w 32 r = ar_i w 5 r := rfl
theorem ce33 (w : gw) (r : Nat → Int32) : celr w 33 r = .inr (3, [.ref (gad w 34), .ref (gad w 35), .ref (gad w 36), .ref (gad w 37), .ref (gad w 38), .int (r 5), .int (r 6), .int (r 7)]) := rfl
theorem ce34 (w : gw) (r : Nat → Int32) : celr w 34 r = ar_z w 20 r := rfl
theorem ce35 (w : gw) (r : Nat → Int32) : celr w 35 r = ar_i w 10 r := rfl
theorem ce36 (w : gw) (r : Nat → Int32) : celr w 36 r = ar_i w 10 r := rfl
theorem ce37 (w : gw) (r : Nat → Int32) : celr w 37 r = ar_i w 10 r := rfl
theorem ce38 (w : gw) (r : Nat → Int32) : celr w 38 r = ar_i w 5 r := rfl
theorem ce39 (w : gw) (r : Nat → Int32) : celr w 39 r = .inr (2, [.ref (gad w 40), .ref (gad w 41), .ref (gad w 42), .int (r 3), .int (r 4)]) := rfl
theorem ce40 (w : gw) (r : Nat → Int32) : celr w 40 r = ar_i w 32 r := rfl
theorem ce41 (w : gw) (r : Nat → Int32) : celr w 41 r = ar_i w 5 r := rfl
theorem ce42 (w : gw) (r : Nat → Int32) : celr w 42 r = ar_i w 5 r := rfl
theorem ce43 (w : gw) (r : Nat → Int32) : celr w 43 r = .inr (1, [.ref (gad w 44), .int (r 1)]) := rfl
theorem ce44 (w : gw) (r : Nat → Int32) : celr w 44 r = ar_i w 32 r := rfl
theorem ce45 (w : gw) (r : Nat → Int32) : celr w 45 r = .inr (5, [.ref (gad w 46), .ref (gad w 47), .int (r 2), .int (r 3)]) := rfl
theorem ce46 (w : gw) (r : Nat → Int32) : celr w 46 r = ar_i w 10 r := rfl
theorem ce47 (w : gw) (r : Nat → Int32) : celr w 47 r = ar_i w 9 r := rfl
theorem ce48 (w : gw) (r : Nat → Int32) : celr w 48 r = ar_s w r := rfl
theorem ce49 (w : gw) (r : Nat → Int32) : celr w 49 r = .inr (8, [.ref (gad w 50), .ref (gad w 51), .ref (gad w 52), .ref (gad w 53), .int (r 4), .ref (gad w 54), .int (r 6), .int (r 7), .int (r 8), .ref (gad w 55), .ref (gad w 56), .ref (gad w 57), .ref (gad w 58), .ref (gad w 59), .ref (gad w 60), .ref (gad w 61), .ref (gad w 62), .ref (gad w 63), .ref (gad w 64), .ref (gad w 65), .int (r 20), .ref (gad w 66), .int (r 22), .ref (gad w 67), .ref (gad w 68), .ref (gad w 69), .ref (gad w 70), .ref (gad w 71), .ref (gad w 72)]) := rfl
theorem ce50 (w : gw) (r : Nat → Int32) : celr w 50 r = ar_i w 4 r := rfl
theorem ce51 (w : gw) (r : Nat → Int32) : celr w 51 r = ar_i w 4 r := rfl
theorem ce52 (w : gw) (r : Nat → Int32) : celr w 52 r = ar_i w 240 r := rfl
theorem ce53 (w : gw) (r : Nat → Int32) : celr w 53 r = ar_i w 60 r := rfl
theorem ce54 (w : gw) (r : Nat → Int32) : celr w 54 r = ar_i w 100 r := rfl
theorem ce55 (w : gw) (r : Nat → Int32) : celr w 55 r = ar_i w 60 r := rfl
theorem ce56 (w : gw) (r : Nat → Int32) : celr w 56 r = ar_i w 5 r := rfl
theorem ce57 (w : gw) (r : Nat → Int32) : celr w 57 r = ar_i w 5 r := rfl
theorem ce58 (w : gw) (r : Nat → Int32) : celr w 58 r = ar_i w 50 r := rfl
theorem ce59 (w : gw) (r : Nat → Int32) : celr w 59 r = ar_i w 25 r := rfl
theorem ce60 (w : gw) (r : Nat → Int32) : celr w 60 r = ar_i w 10 r := rfl
theorem ce61 (w : gw) (r : Nat → Int32) : celr w 61 r = ar_i w 10 r := rfl
theorem ce62 (w : gw) (r : Nat → Int32) : celr w 62 r = ar_i w 3 r := rfl
theorem ce63 (w : gw) (r : Nat → Int32) : celr w 63 r = ar_i w 5 r := rfl
theorem ce64 (w : gw) (r : Nat → Int32) : celr w 64 r = ar_i w 10 r := rfl
theorem ce65 (w : gw) (r : Nat → Int32) : celr w 65 r = ar_z w 20 r := rfl
theorem ce66 (w : gw) (r : Nat → Int32) : celr w 66 r = ar_i w 6144 r := rfl
theorem ce67 (w : gw) (r : Nat → Int32) : celr w 67 r = ar_i w 16 r := rfl
theorem ce68 (w : gw) (r : Nat → Int32) : celr w 68 r = ar_i w 10 r := rfl
theorem ce69 (w : gw) (r : Nat → Int32) : celr w 69 r = ar_i w 10 r := rfl
theorem ce70 (w : gw) (r : Nat → Int32) : celr w 70 r = ar_i w 5 r := rfl
theorem ce71 (w : gw) (r : Nat → Int32) : celr w 71 r = ar_i w 10 r := rfl
theorem ce72 (w : gw) (r : Nat → Int32) : celr w 72 r = ar_i w 11 r := rfl
theorem cr4 (w : gw) (r : Nat → Int32) {j : Nat} (h : j < 5) : celr w (5 + j) r = ar_i w 10 r := by
  match j, h with
  | 0, _ => rfl
  | 1, _ => rfl
  | 2, _ => rfl
  | 3, _ => rfl
  | 4, _ => rfl
  | j + 5, h => exact absurd h (by omega)
theorem cr10 (w : gw) (r : Nat → Int32) {j : Nat} (h : j < 5) : celr w (11 + j) r = ar_i w 5 r := by
  match j, h with
  | 0, _ => rfl
  | 1, _ => rfl
  | 2, _ => rfl
  | 3, _ => rfl
  | 4, _ => rfl
  | j + 5, h => exact absurd h (by omega)
theorem cr16 (w : gw) (r : Nat → Int32) {j : Nat} (h : j < 5) : celr w (17 + j) r = ar_i w 10 r := by
  match j, h with
  | 0, _ => rfl
  | 1, _ => rfl
  | 2, _ => rfl
  | 3, _ => rfl
  | 4, _ => rfl
  | j + 5, h => exact absurd h (by omega)
