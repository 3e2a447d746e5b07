/-- an int array of n places at the place k of the world -/
def arF (w : gw) (k n : Nat) : Prop := k < gN w ∧ ∀ r, celr w k r = ar_i w n r
theorem sm_fst {α β : Type} {a : α} {b : β} {z : α × β} (h : some (a, b) = some z) : a = z.1 := by cases h; rfl
theorem sm_snd {α β : Type} {a : α} {b : β} {z : α × β} (h : some (a, b) = some z) : b = z.2 := by cases h; rfl
def mx (x y : Int32) : Int32 := if x < y then y else x
def mn (x y : Int32) : Int32 := if y < x then y else x
theorem mx_code : Cond.code Lib.Math.max.name Lib.Math.max.code 2 (some .int) ∈ lw_g := g_mem 378 (by decide +kernel) (by decide +kernel)
theorem mn_code : Cond.code Lib.Math.min.name Lib.Math.min.code 2 (some .int) ∈ lw_g := g_mem 355 (by decide +kernel) (by decide +kernel)
section GM
variable {p : Program} {l : Launch} {e : Env} {R : Room} {s : State} {m : MethodId} {args : Array Value} {below : List Frame} {meth : Method} {c : Code} {H : Heap} {locs : List Loc} {cells slots : Nat} {Q : State → Prop}
variable {cc : ByteArray} {pc nL : Nat} {rt : Option FieldType} {own : String} {ls : Array Slot} {rest : List Value} {idx : Nat} {x y : Int32}
theorem g_max (C : gCx p s m args meth c own cc nL rt) (hls : ls.size = nL) (hl : Cond.methodLink own idx ⟨"java/lang/Math", "max", "(II)I"⟩ ∈ lw_g) (hR : 1 ≤ R.frames ∧ 21 ≤ R.locals) (hre : (rest.map fun v => v.category).sum ≤ 8) (hcs : cells ≤ R.cells ∧ slots ≤ R.slots) (hdg : decode cc pc = .ok (.invokestatic idx, 3))
    (kk : W p l e R s m args below meth c H locs cells slots Q (F0 m (pc + 3) ls (.int (mx x y) :: rest))) : W p l e R s m args below meth c H locs cells slots Q (F0 m pc ls (.int y :: .int x :: rest)) := by
  obtain ⟨hx, hb, hml, hown, hts, -⟩ := C
  exact va_mmax hx hb (hml.trans hls.symm) hown (hts _ hl) (hts _ qw377) (hts _ qw9) (hts _ mx_code) hR.1 (by omega) hcs.1 hcs.2 hdg kk
theorem g_min (C : gCx p s m args meth c own cc nL rt) (hls : ls.size = nL) (hl : Cond.methodLink own idx ⟨"java/lang/Math", "min", "(II)I"⟩ ∈ lw_g) (hR : 1 ≤ R.frames ∧ 21 ≤ R.locals) (hre : (rest.map fun v => v.category).sum ≤ 8) (hcs : cells ≤ R.cells ∧ slots ≤ R.slots) (hdg : decode cc pc = .ok (.invokestatic idx, 3))
    (kk : W p l e R s m args below meth c H locs cells slots Q (F0 m (pc + 3) ls (.int (mn x y) :: rest))) : W p l e R s m args below meth c H locs cells slots Q (F0 m pc ls (.int y :: .int x :: rest)) := by
  obtain ⟨hx, hb, hml, hown, hts, -⟩ := C
  exact va_mmin hx hb (hml.trans hls.symm) hown (hts _ hl) (hts _ qw354) (hts _ qw9) (hts _ mn_code) hR.1 (by omega) hcs.1 hcs.2 hdg kk
end GM
/-- how often a loop may go round: a number that no reduction opens -/
noncomputable def FZ : Nat := Classical.choose (⟨10000000, rfl⟩ : ∃ n : Nat, n = 10000000)
theorem FZ_eq : FZ = 10000000 := Classical.choose_spec (⟨10000000, rfl⟩ : ∃ n : Nat, n = 10000000)
