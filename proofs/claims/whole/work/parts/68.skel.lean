/-! THE CLAIM OUT OF ONE WALK OF THE LAW'S BODY. Your part is whole_start (and what it stands on); all else here is the same for every law, but numbers. -/
def R_law : String := "EveningAuctionLaw"
def lw_P (b : Addr) (xs : List Int32) (args : Array Value) (s : State) : Prop := args = #[.ref b] ∧ s.IntsAt b xs ∧ xs.length ≤ 3072 ∧ (Jvm.Cond.and given_1 narrow_1).before args s = true
def lw_Q (_ : Array Value) (s : State) (o : Outcome) (t : State) : Prop := o = .returned (some (.int 1)) ∧ Framed s o t [] 600000 7302250
def lw_Z (below : List Frame) (a : Array Value) (s : State) : State → Prop := fun t => ∃ o, t.status = .running ∧ Ended t below o ∧ lw_Q a s o t
/-- the law's own end, with 1 on the stack, nothing written that was there before, its room as the claim has it -/
theorem lw_ret {p : Program} {l : Launch} {e : Env} {s : State} {m : MethodId} {below : List Frame} {meth : Method} {c : Code} {b : Nat} (hx : p.tables.exec = Jvm.exec) (hb : c.code = code) (hr : meth.sig.returnType = ret) (hlocks : meth.locks = false) {pc : Nat} {H : Heap} {ls : Array Slot} (hdg : decode code pc = .ok (.ireturn, 1)) : W p l e room_1 s m #[Value.ref b] below meth c H [] 600000 7302250 (lw_Z below #[Value.ref b] s) (F0 m pc ls [.int 1]) := by
  intro T hT X
  obtain ⟨fs, hret, hrun, hended, hW, hframe⟩ := X.leave (v := some (.int 1)) (hlocks := hlocks) (fun h => by rw [hr] at h; cases h)
  have hmeth' : T.vm.method? m = some meth := X.method'
  refine ⟨T.setFrames fs, ?_, .returned (some (.int 1)), hrun, hended, rfl, ⟨_, rfl⟩, hW, hframe⟩
  jvm_step X.here [X.here.top, hx, hb, hdg, hmeth', hr, ret, narrow_b1]
  (try refine ⟨rfl, ?_⟩); (try refine ⟨rfl, ?_⟩)
  first | (intro acts; rw [hret _ acts rfl rfl rfl]) | rw [hret _ _ rfl rfl rfl]
  exact Steps.refl _
/-- what holds at the law's entry: the machine, the code, the tables' words (any of lw_tbl by 'hts w (by decide +kernel)'), the script of L ints xs at the cell b, what the Statement gives of the start (any of its parts by flat_of_before) -/
def lw_At (p : Program) (s : State) (m : MethodId) (meth : Method) (c : Code) (b L : Nat) (xs : Nat → Int32) : Prop :=
  p.tables.exec = Jvm.exec ∧ c.code = code ∧ meth.sig.returnType = ret ∧ c.maxLocals = 4 ∧ s.vm.findClass R_law = some m.cls ∧ (∀ w ∈ lw_tbl, w.before #[Value.ref b] s = true) ∧ va_X b L xs s s.heap ∧ b < s.heap.size ∧ meth.locks = false ∧ (Jvm.Cond.and given_1 narrow_1).before #[Value.ref b] s = true
theorem lw_in {i L k : Nat} (h : 6 * i + k < L) (hL : L ≤ 3072) : vp_in (nI (6 * i) + OfNat.ofNat k) L := by
  have e : (OfNat.ofNat k : Int32) = nI k := rfl
  rw [e, nI_add]
  exact vp_in_nI h (by omega)
theorem lw_cs {i : Nat} (h : i < 512) : 73 + 2 * i ≤ room_1.cells ∧ 7375 + 62 * i ≤ room_1.slots := ⟨by show _ ≤ 600000; omega, by show _ ≤ 7302250; omega⟩
theorem lw_cs2 {i : Nat} (h : i < 512) : 73 + 2 * i + 2 ≤ room_1.cells ∧ 7375 + 62 * i + 62 ≤ room_1.slots := ⟨by show _ ≤ 600000; omega, by show _ ≤ 7302250; omega⟩
theorem lg_cmp_same {x y : Int64} (h : x = y) : lg_cmp x y = 0 := by
  subst h
  unfold lg_cmp
  rw [if_neg (by intro g; rw [gt_iff_lt, Int64.lt_iff_toInt_lt] at g; omega), if_pos rfl]
theorem shR_ad {w : gw} {S : St} {x1 x2 x3 r : Int32} {u : gw × St} (h48 : w48 w S) (h : shR w S x1 x2 x3 r u) {k : Nat} (hk : k < 73) : gad u.1 k = gad w k := by
  rcases h with ⟨-, -, rfl⟩ | ⟨-, -, -, rfl⟩ | ⟨-, -, -, q1, q2, rfl⟩
  · rfl
  · rfl
  · exact wext_ad (by have := h48.1; omega)
section GSH
variable {p : Program} {l : Launch} {e : Env} {R : Room} {s : State} {m : MethodId} {args : Array Value} {below : List Frame} {meth : Method} {c : Code} {H : Heap} {locs : List Loc} {cells slots : Nat} {Q : State → Prop}
variable {cc : ByteArray} {pc nL : Nat} {rt : Option FieldType} {own : String} {ls : Array Slot} {rest : List Value} {A : Nat → Prop} {w : gw} {S : St}
theorem g_sheet (C : gCx p s m args meth c own cc nL rt) (hG : GH w s A S H locs) (h48 : w48 w S) {idx : Nat} {x1 x2 x3 : Int32} (hls : ls.size = nL) (hw : gVw own idx "EveningAuction" y_X_sheet b_X_sheet 4 (some .int) 3) (hcs : cells + 2 ≤ room_1.cells ∧ slots + 62 ≤ room_1.slots) (hdg : decode cc pc = .ok (.invokevirtual idx, 3))
    (kk : ∀ (r : Int32) (u : gw × St) (H1 : Heap) (locs1 : List Loc), shR w S x1 x2 x3 r u → GH u.1 s A u.2 H1 locs1 → W p l e room_1 s m args below meth c H1 locs1 (cells + 2) (slots + 62) Q (F0 m (pc + 3) ls [.int r])) : W p l e room_1 s m args below meth c H locs cells slots Q (F0 m pc ls [.int x3, .int x2, .int x1, .ref (gad w 0)]) := by
  obtain ⟨hx, hb, hml, hown, hts, -⟩ := C
  have hf := hG.free
  refine va_calli (va_runV (As := [.int x1, .int x2, .int x3]) (rest := []) ⟨hx, hb, hml, hown, hts⟩ (c_X_sheet l w S x1 x2 x3 h48 H.size) (cwV 3 hts hw.1 rfl rfl rfl hw.2 ⟨by decide, by decide⟩) ⟨GP_blind, va_recv (ci := 7) (q0 := 0) hG.1 hG.2.1 rfl (by rw [gws_at (k := 0) (hG.lt (Nat.le_of_ble_eq_true rfl)), ce0]), fun U hU hW => ⟨rfl, hG.pre hU hW⟩⟩ rfl rfl hls rfl (lv_room (Nat.le_of_ble_eq_true rfl)) hdg hcs) hG.2.2.2.1 (fun q _ h => hf q h) hf (fun r u t H1 locs1 ht hvm hw2 hB hz1 hk1 hS1 => ?_)
  obtain ⟨hP1, hD1⟩ := hB
  rw [ht] at hP1
  refine kk r u H1 locs1 hw2 ?_
  obtain ⟨hK, -, -, -, hA, hT, hN⟩ := hG
  have hD2 : va_D A (gws u.1 u.2) := hD1.weaken (fun k q _ h => hf q.1 h)
  rcases hw2 with ⟨-, -, rfl⟩ | ⟨-, -, -, rfl⟩ | ⟨-, -, -, q1, q2, rfl⟩
  · exact ⟨hK, hP1, hD2, hS1, hA, hT, hN⟩
  · exact ⟨hK, hP1, hD2, hS1, hA, hT, hN⟩
  · exact ⟨hK, hP1, hD2, hS1, hA, hT, by show 73 ≤ gN w + 2; omega⟩
end GSH
