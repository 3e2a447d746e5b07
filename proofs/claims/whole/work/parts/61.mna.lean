/-! new int[n][m]: the outer row, and behind it its inner ones, one after the other -/
theorem nm_outer (c : ClassId) (N h0 : Nat) : ∀ i : Nat, Jvm.Free.Multi.outerC c N h0 i = arrV c N (fun j => va_rf (if j < i then some (h0 + 1 + j) else none))
  | 0 => by
    show ({ cls := c, slots := Array.replicate N .null, vm := .none } : Cell) = _
    rw [arrV_new]
    refine congrArg (arrV c N) (funext fun j => ?_)
    simp [va_rf]
  | i + 1 => by
    show (Jvm.Free.Multi.outerC c N h0 i).setSlot i (.ref (h0 + 1 + i)) = _
    rw [nm_outer c N h0 i, arrV_store]
    refine congrArg (arrV c N) (funext fun j => ?_)
    by_cases e : j = i
    · subst e
      simp [updV, va_rf]
    · by_cases h : j < i
      · simp [updV, e, h, Nat.lt_succ_of_lt h]
      · simp [updV, e, h, show ¬ j < i + 1 by omega]
section NM
variable {p : Program} {l : Launch} {e : Env} {R : Room} {s : State} {m : MethodId} {args : Array Value} {below : List Frame} {meth : Method} {c : Code} {H : Heap} {locs : List Loc} {cells slots : Nat} {Q : State → Prop}
variable {cc : ByteArray} {pc nL : Nat} {rt : Option FieldType} {own : String} {ls : Array Slot} {rest : List Value} {A : Nat → Prop} {D : va_G} {tys : nT} {ws : va_W} {a : Nat}
theorem n_rows {ws : va_W} {q N : Nat} {e0 e1 : va_E} {H H1 : Heap} (hP : va_P D vwCl ws H) (hD : va_D A ws) (hq : q = H.size) (hA : ∀ x, q ≤ x → A x) (hold : ∀ x, x < q → H1[x]? = H[x]?) (h0 : va_at D vwCl (q, e0) H1) (h1 : ∀ j, j < N → va_at D vwCl (q + 1 + j, e1) H1) :
    va_P D vwCl ((ws ++ [(q, e0)]) ++ (List.range N).map (fun j => (q + 1 + j, e1))) H1 ∧ va_D A ((ws ++ [(q, e0)]) ++ (List.range N).map (fun j => (q + 1 + j, e1))) := by
  subst hq
  have hr : ∀ (k : Nat) (x : Nat × va_E), ((List.range N).map (fun j => ((H.size + 1 + j, e1) : Nat × va_E)))[k]? = some x → k < N ∧ x = (H.size + 1 + k, e1) := by
    intro k x hx
    rw [List.getElem?_map] at hx
    by_cases hk : k < N
    · rw [List.getElem?_range hk] at hx
      exact ⟨hk, (Option.some.inj hx).symm⟩
    · rw [List.getElem?_eq_none (by rw [List.length_range]; omega)] at hx
      cases hx
  have h1s : ∀ (k : Nat) (x : Nat × va_E), ([(H.size, e0)] : va_W)[k]? = some x → k = 0 ∧ x = (H.size, e0) := by
    intro k x hx
    have hk : k < 1 := (List.getElem?_eq_some_iff.mp hx).1
    have hk0 : k = 0 := by omega
    subst hk0
    cases hx
    exact ⟨rfl, rfl⟩
  have hP0 : va_P D vwCl ws H1 := hP.kept (fun k x hx => hold x.1 ((hP k x hx).lt))
  refine ⟨(hP0.app (fun k x hx => ?_)).app (fun k x hx => ?_), ?_⟩
  · obtain ⟨-, rfl⟩ := h1s k x hx
    exact h0
  · obtain ⟨hk, rfl⟩ := hr k x hx
    exact h1 k hk
  · refine va_D.app (va_D.app hD ⟨fun i j x y hi hj _ => ?_, fun k x hx => ?_⟩ (fun i j x y hx hy hxy => ?_)) ⟨fun i j x y hi hj hxy => ?_, fun k x hx => ?_⟩ (fun i j x y hx hy hxy => ?_)
    · rw [(h1s i x hi).1, (h1s j y hj).1]
    · rw [(h1s k x hx).2]
      exact hA _ (Nat.le_refl _)
    · have := (hP i x hx).lt
      rw [(h1s j y hy).2] at hxy
      have e : x.1 = H.size := hxy
      omega
    · rw [(hr i x hi).2, (hr j y hj).2] at hxy
      have e : H.size + 1 + i = H.size + 1 + j := hxy
      omega
    · rw [(hr k x hx).2]
      exact hA _ (by show H.size ≤ H.size + 1 + k; omega)
    · rw [(hr j y hy).2] at hxy
      have e : x.1 = H.size + 1 + j := hxy
      have hle : x.1 ≤ H.size := by
        by_cases hi : i < ws.length
        · rw [List.getElem?_append_left hi] at hx
          exact Nat.le_of_lt ((hP i x hx).lt)
        · rw [List.getElem?_append_right (by omega)] at hx
          rw [(h1s _ x hx).2]
          exact Nat.le_refl _
      omega
theorem n_mna (C : gCx p s m args meth c own cc nL rt) (hN : NH D tys s A ws H locs) {cI : ClassId} (t0 : Nat) (ht : tys[t0]? = some (cI, .int)) {idx : Nat} (hl : Cond.classLink own idx "[[I" ∈ lw_g) (harr : Cond.arrayClass .int ∈ lw_g) {n k : Int32} (N' K' : Nat) {cells' slots' : Nat} (hn : (decide (¬ n < 0) && decide (¬ k < 0) && decide (n.toNatClampNeg = N') && decide (k.toNatClampNeg = K') && decide (N' * 4 ≤ 536870912) && decide (K' * 4 ≤ 536870912)) = true) (hcells : cells + (1 + N') = cells' ∧ cells' ≤ R.cells) (hslots : slots + (N' + N' * K') = slots' ∧ slots' ≤ R.slots) (hdg : decode cc pc = .ok (.multianewarray idx 2, 4))
    (kk : ∀ (q : Nat) (cR : ClassId) (H1 : Heap), NH D (tys ++ [(cR, .array .int)]) s A ((ws ++ [(q, .inl (cR, N', .inr (.inr (.inr (.inr (fun i => if i < N' then some (q + 1 + i) else none))))))]) ++ (List.range N').map (fun j => (q + 1 + j, .inl (cI, K', .inl (fun _ => 0))))) H1 locs → W p l e R s m args below meth c H1 locs cells' slots' Q (F0 m (pc + 4) ls (.ref q :: rest))) : W p l e R s m args below meth c H locs cells slots Q (F0 m pc ls (.int k :: .int n :: rest)) := by
  obtain ⟨hx, hb, -, hown, hts, -⟩ := C
  obtain ⟨hK, hP, hD, hS, hA, hO⟩ := hN
  obtain ⟨rfl, hc⟩ := hcells
  obtain ⟨rfl, hs⟩ := hslots
  simp only [Bool.and_eq_true, decide_eq_true_eq] at hn
  obtain ⟨⟨⟨⟨⟨h1, h2⟩, h3⟩, h4⟩, h5⟩, h6⟩ := hn
  subst h3 h4
  intro T hT Xs
  have hov : (Cond.arrayOver (.array .int)).before args s = true := hO.1
  obtain ⟨vm₁, cA, comp, -, fA, fC, hOu, -, X', step⟩ := Xs.multianewarray2F hx hown (ty := .int) (index := idx) (hts _ hl) hov (hts _ harr) (g := F0 m pc ls (.int k :: .int n :: rest)) rfl (by rw [hb]; exact hdg) rfl h1 h2 h5 h6 (by have : k.toNatClampNeg * 4 ≤ 536870912 := h6; omega) rfl rfl hc hs
  have e2 := (hK.2 t0 _ ht).2
  have e : comp = cI := Option.some.inj (fC.symm.trans e2)
  subst e
  generalize hF : Jvm.Free.Multi.fill (T.setVm vm₁) cA comp n.toNatClampNeg k.toNatClampNeg (defaultValue .int) n.toNatClampNeg = F at X' step
  have hTh : (T.setVm vm₁).heap = H := hT
  obtain ⟨f1, f2, -, -⟩ := Jvm.Free.Multi.fill_facts (T.setVm vm₁) cA comp n.toNatClampNeg k.toNatClampNeg (defaultValue .int) n.toNatClampNeg
  rw [hF, hTh] at f1 f2
  have hold : ∀ x : Nat, x < H.size → F.heap[x]? = H[x]? := fun x hx => by
    have := Jvm.Free.Multi.fill_old (T.setVm vm₁) cA comp n.toNatClampNeg k.toNatClampNeg (defaultValue .int) (a := x) (by rw [hTh]; exact hx) n.toNatClampNeg
    rw [hF, hTh] at this
    exact this
  have hrow : ∀ j : Nat, j < n.toNatClampNeg → F.heap[H.size + 1 + j]? = some (vp_cell comp (k.toNatClampNeg, .inl (fun _ => 0))) := fun j hj => by
    have := Jvm.Free.Multi.fill_inner (T.setVm vm₁) cA comp n.toNatClampNeg k.toNatClampNeg (defaultValue .int) n.toNatClampNeg j hj
    rw [hF, hTh] at this
    rw [this, vp_cell_i]
    show some ({ cls := comp, slots := Array.replicate k.toNatClampNeg (.int 0), vm := .none } : Cell) = _
    rw [arrV_new]
  rw [nm_outer] at f2
  have hsz := hS.1
  obtain ⟨hP1, hD1⟩ := n_rows (D := D) (A := A) (q := H.size) (N := n.toNatClampNeg) (e0 := .inl (cA, n.toNatClampNeg, .inr (.inr (.inr (.inr (fun i => if i < n.toNatClampNeg then some (H.size + 1 + i) else none)))))) (e1 := .inl (comp, k.toNatClampNeg, .inl (fun _ => 0))) (H1 := F.heap) hP hD rfl (fun x hx => hA x (by omega)) hold f2 hrow
  have hAr : ArrOfT s cA (.array .int) := fun N9 z9 => by
    obtain ⟨-, k9, hk9, cm9, hkk9⟩ := (hOu 0 0 0).1
    exact ⟨(fun q hq => by cases hq), k9, hk9, cm9, hkk9⟩
  have hK2 : va_K D vwCl [(cA, .array .int)] s := ⟨hK.1, fun k9 x hx => by
    have h0 : k9 < 1 := (List.getElem?_eq_some_iff.mp hx).1
    rw [show k9 = 0 by omega] at hx
    cases hx
    exact ⟨hAr, fA⟩⟩
  obtain ⟨t, a1, b1⟩ := kk H.size cA F.heap ⟨hK.app hK2, hP1, hD1, ⟨by rw [f1]; omega, fun x h1 h2 => (hold x (Nat.lt_of_lt_of_le h1 hS.1)).trans (hS.2.1 x h1 h2), hS.2.2⟩, hA, hO⟩ F rfl (by rw [← Nat.add_assoc, ← Nat.add_assoc]; exact X')
  refine ⟨t, step t ?_, b1⟩
  have e3 : T.heap.size = H.size := by rw [hT]
  rw [e3]
  exact a1
end NM
section NV
variable {p : Program} {l : Launch} {e : Env} {R : Room} {s : State} {m : MethodId} {args : Array Value} {below : List Frame} {meth : Method} {c : Code} {H : Heap} {locs : List Loc} {cells slots : Nat} {Q : State → Prop}
variable {cc : ByteArray} {pc nL : Nat} {rt : Option FieldType} {own : String} {ls : Array Slot} {rest : List Value} {A : Nat → Prop} {D : va_G} {tys : nT} {ws : va_W} {a : Nat}
theorem n_lit {x : Int32} (v : Int32) (h : x = v) (k : W p l e R s m args below meth c H locs cells slots Q (F0 m pc ls (.int v :: rest))) : W p l e R s m args below meth c H locs cells slots Q (F0 m pc ls (.int x :: rest)) := h ▸ k
theorem n_metV {D : va_G} {tys : nT} {y : MethodName} {b : ByteArray} {nL : Nat} {rm : Room} {av : List Value} {ws : va_W} {mc ms : Nat} {S : Type} {wo : S → va_W} {tyo : S → nT} (hy : plainName y.cls = true) (hav : (lg_sl av).length ≤ nL)
    (body : ∀ (p : Program) (e : Env) (s : State) (m : MethodId) (args : Array Value) (below : List Frame) (meth : Method) (c : Code) (A : Nat → Prop) (Q : State → Prop) (ls : Array Slot), Q = MQ below (nQ D wo tyo A) args s mc ms A → gCx p s m args meth c y.cls b nL none → NH D tys s A ws s.heap [] → lv_has ls nL (lv_args 0 av) → W p l e rm s m args below meth c s.heap [] 0 0 Q (F0 m 0 ls [])) :
    ∀ sz : Nat, Met l y (.code y b nL none :: lw_g) rm (va_Pc av (NP D tys sz ws)) (nQ D wo tyo (va_A ws sz)) mc ms (va_A ws sz) := by
  intro sz
  refine Met.ofW (cc := b) (maxL := nL) (ret := none) hy rfl ?_
  intro p e s m args below meth c s₁ B hml hv
  obtain ⟨rfl, hsz, hP, hK, hD, hO⟩ := hv
  subst hsz
  have hts := atoms_spec (ws := .code y b nL none :: lw_g) B.pre
  have hl := lv_entry av (n := nL) hav
  rw [lg_entry_eq]
  exact body p e s m _ below meth c _ _ _ rfl ⟨B.exec, B.bytes, hml, findClass_of_methodNamed B.named, fun x hx => hts x (List.mem_cons_of_mem _ hx), B.returns, B.notSynchronized⟩ ⟨hK, hP, hD.self, va_S.rf, fun q h => Or.inr h, hO⟩ hl
variable {y : MethodName} {b : ByteArray} {nL' n idx mc ms : Nat} {rt' : Option FieldType} {rm : Room} {As st0 : List Value}
theorem n_runV (C : gCx p s m args meth c own cc nL rt) (hN : NH D tys s A ws H locs) {wc : va_W} {ci cn q0 : Nat} {Cn : String} {T : u_T} {fs : List Value} {Qc : Array Value → State → Outcome → State → Prop} (hM : Met l y (.code y b nL' rt' :: lw_g) rm (va_Pc (.ref a :: As) (NP D tys H.size wc)) Qc mc ms (va_A wc H.size)) (isC : List Nat) (hC : isC.map (fun i => ws[i]?) = wc.map some) (hnd : va_nd isC = true) (he : ws[q0]? = some (a, .inr (ci, fs))) (hcl : vwCl[ci]? = some (Cn, T, cn)) (hw : gVw own idx Cn y b nL' rt' n) (hrc : rm.cells = mc) (hrs : rm.slots = ms) (hR : rm.frames + 1 ≤ R.frames ∧ 8 + (nL' + 11) + rm.locals ≤ R.locals) (hn : As.length = n) (hls : ls.size = nL) (hst : st0 = As.reverse ++ .ref a :: rest) (hre : (rest.map fun v => v.category).sum ≤ 8) (hdg : decode cc pc = .ok (.invokevirtual idx, 3)) (hcs : cells + mc ≤ R.cells ∧ slots + ms ≤ R.slots) :
    va_Run p l e R s m args below meth c H locs cells slots mc ms (F0 m pc ls st0) rest (Qc (Value.ref a :: As).toArray) (va_A wc H.size) := by
  obtain ⟨hx, hb, hml, hown, hts, -⟩ := C
  exact va_runV (As := As) (rest := rest) ⟨hx, hb, hml, hown, hts⟩ hM (cwV n hts hw.1 rfl hrc hrs hw.2 hR) ⟨NP_blind, va_recv hN.1 hN.2.1 hcl he, fun U hU hW => ⟨rfl, n_pre hN isC hC hnd hU hW⟩⟩ rfl hn hls hst (lv_room hre) hdg hcs
theorem n_same {U : State} {t : FieldType} {c1 c2 : ClassId} (hK : va_K D vwCl tys U) (i j : Nat) (h1 : tys[i]? = some (c1, .array t)) (h2 : tys[j]? = some (c2, .array t)) : c1 = c2 := Option.some.inj ((hK.2 i _ h1).2.symm.trans (hK.2 j _ h2).2)
end NV
