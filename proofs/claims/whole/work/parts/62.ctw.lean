theorem qx21 : Cond.classLink "EveningAuction" 7 "EveningAuction$Town" ∈ lw_g := g_mem 21 (by decide +kernel) (by decide +kernel)
theorem qx22 : Cond.instantiable "EveningAuction$Town" 8 ∈ lw_g := g_mem 22 (by decide +kernel) (by decide +kernel)
theorem qx27 : Cond.classLink "EveningAuction$Town" 18 "[[I" ∈ lw_g := g_mem 27 (by decide +kernel) (by decide +kernel)
theorem qx69 : Cond.arrayClass .int ∈ lw_g := g_mem 69 (by decide +kernel) (by decide +kernel)
theorem qx70 : Cond.classLink "EveningAuction" 16 "EveningAuction$BidText" ∈ lw_g := g_mem 70 (by decide +kernel) (by decide +kernel)
theorem qx71 : Cond.instantiable "EveningAuction$BidText" 4 ∈ lw_g := g_mem 71 (by decide +kernel) (by decide +kernel)
theorem qx93 : Cond.classLink "EveningAuction" 23 "EveningAuction$Outcome" ∈ lw_g := g_mem 93 (by decide +kernel) (by decide +kernel)
theorem qx94 : Cond.instantiable "EveningAuction$Outcome" 8 ∈ lw_g := g_mem 94 (by decide +kernel) (by decide +kernel)
theorem qx130 : Cond.arrayClass .boolean ∈ lw_g := g_mem 130 (by decide +kernel) (by decide +kernel)
theorem qx131 : Cond.classLink "EveningAuction" 33 "EveningAuction$OneEach" ∈ lw_g := g_mem 131 (by decide +kernel) (by decide +kernel)
theorem qx132 : Cond.instantiable "EveningAuction$OneEach" 5 ∈ lw_g := g_mem 132 (by decide +kernel) (by decide +kernel)
theorem qx157 : Cond.classLink "EveningAuction" 40 "EveningAuction$Clubs" ∈ lw_g := g_mem 157 (by decide +kernel) (by decide +kernel)
theorem qx158 : Cond.instantiable "EveningAuction$Clubs" 2 ∈ lw_g := g_mem 158 (by decide +kernel) (by decide +kernel)
theorem qx172 : Cond.classLink "EveningAuction" 47 "EveningAuction$Sightings" ∈ lw_g := g_mem 172 (by decide +kernel) (by decide +kernel)
theorem qx173 : Cond.instantiable "EveningAuction$Sightings" 4 ∈ lw_g := g_mem 173 (by decide +kernel) (by decide +kernel)
theorem qx197 : Cond.classLink "EveningAuction" 54 "EveningAuction$Sheet" ∈ lw_g := g_mem 197 (by decide +kernel) (by decide +kernel)
theorem qobj : Cond.code Lib.objectInit ⟨#[0xb1]⟩ 1 none ∈ lw_g := g_mem 20 (by decide +kernel) (by decide +kernel)
theorem dfC0 : ∀ j, j < 4 → defaultValue (tyC0 j) = vp_V [.null, .int 0, .int 0, .int 0] j := by decide +kernel
theorem dfC1 : ∀ j, j < 2 → defaultValue (tyC1 j) = vp_V [.null, .int 0] j := by decide +kernel
theorem dfC2 : ∀ j, j < 5 → defaultValue (tyC2 j) = vp_V [.null, .null, .null, .int 0, .int 0] j := by decide +kernel
theorem dfC3 : ∀ j, j < 8 → defaultValue (tyC3 j) = vp_V [.null, .null, .null, .null, .null, .int 0, .int 0, .int 0] j := by decide +kernel
theorem dfC4 : ∀ j, j < 2 → defaultValue (tyC4 j) = vp_V [.int 0, .null] j := by decide +kernel
theorem dfC5 : ∀ j, j < 4 → defaultValue (tyC5 j) = vp_V [.null, .null, .int 0, .int 0] j := by decide +kernel
theorem dfC6 : ∀ j, j < 8 → defaultValue (tyC6 j) = vp_V [.null, .null, .null, .null, .null, .null, .null, .null] j := by decide +kernel
theorem dfC7 : ∀ j, j < 10 → defaultValue (tyC7 j) = vp_V [.null, .null, .null, .null, .null, .null, .null, .null, .int 0, .int 0] j := by decide +kernel
theorem dfC8 : ∀ j, j < 29 → defaultValue (tyC8 j) = vp_V [.null, .null, .null, .null, .int 0, .null, .int 0, .int 0, .int 0, .null, .null, .null, .null, .null, .null, .null, .null, .null, .null, .null, .int 0, .null, .int 0, .null, .null, .null, .null, .null, .null] j := by decide +kernel
theorem n_tys {l : Launch} {D : va_G} {tys tys' : nT} {y : MethodName} {ws : List Cond} {rm : Room} {av : List Value} {wc : va_W} {sz : Nat} {Qc : Array Value → State → Outcome → State → Prop} {mc ms : Nat} {free : Addr → Prop} (h : Met l y ws rm (va_Pc av (NP D tys sz wc)) Qc mc ms free) (is : List Nat) (ht : is.filterMap (fun i => tys'[i]?) = tys) : Met l y ws rm (va_Pc av (NP D tys' sz wc)) Qc mc ms free := by
  intro p e a1 a2 a3 s m args below f1 f2 hP
  obtain ⟨q0, q1, qP, qK, qD, qO⟩ := hP
  exact h p e a1 a2 a3 s m args below f1 f2 ⟨q0, q1, qP, qK.sub is ht, qD, qO⟩
