/-! ===== the relation, and how many cells there are ===== -/
def InvB (w : gw) (S : St) (i : Nat) : Prop := Inv w S i ∧ gN w ≤ 73 + 2 * i
theorem InvB_48 {w : gw} {S : St} {i : Nat} (h : InvB w S i) : w48 w S := Inv_48 h.1
theorem InvB_next {w : gw} {S : St} {i : Nat} (h : InvB w S i) : InvB w S (i + 1) := ⟨Inv_next h.1, by have := h.2; omega⟩
theorem InvB_start {w : gw} (h : gN w = 73) : InvB w S0 0 := ⟨Inv_start h, by omega⟩
theorem opB_type {w : gw} {S : St} {i : Nat} (h : InvB w S i) (hi : i < 512) (a1 : Int32) : ∃ z1 z2, X_type S a1 = some z1 ∧ M_type z1.2 a1 = some z2 ∧ z1.1 = z2.1 ∧ InvB w z2.2 (i + 1) := by
  obtain ⟨z1, z2, h1, h2, h3, h4⟩ := op_type h.1 hi a1
  exact ⟨z1, z2, h1, h2, h3, h4, by have := h.2; omega⟩
theorem opB_wipe {w : gw} {S : St} {i : Nat} (h : InvB w S i) (hi : i < 512)  : ∃ z1 z2, X_wipe S = some z1 ∧ M_wipe z1.2 = some z2 ∧ z1.1 = z2.1 ∧ InvB w z2.2 (i + 1) := by
  obtain ⟨z1, z2, h1, h2, h3, h4⟩ := op_wipe h.1 hi
  exact ⟨z1, z2, h1, h2, h3, h4, by have := h.2; omega⟩
theorem opB_fault {w : gw} {S : St} {i : Nat} (h : InvB w S i) (hi : i < 512)  : ∃ z1 z2, X_fault S = some z1 ∧ M_fault z1.2 = some z2 ∧ z1.1 = z2.1 ∧ InvB w z2.2 (i + 1) := by
  obtain ⟨z1, z2, h1, h2, h3, h4⟩ := op_fault h.1 hi
  exact ⟨z1, z2, h1, h2, h3, h4, by have := h.2; omega⟩
theorem opB_undo {w : gw} {S : St} {i : Nat} (h : InvB w S i) (hi : i < 512)  : ∃ z1 z2, X_undo S = some z1 ∧ M_undo z1.2 = some z2 ∧ z1.1 = z2.1 ∧ InvB w z2.2 (i + 1) := by
  obtain ⟨z1, z2, h1, h2, h3, h4⟩ := op_undo h.1 hi
  exact ⟨z1, z2, h1, h2, h3, h4, by have := h.2; omega⟩
theorem opB_bidder {w : gw} {S : St} {i : Nat} (h : InvB w S i) (hi : i < 512) (a1 : Int32) (a2 : Int32) (a3 : Int32) : ∃ z1 z2, X_bidder S a1 a2 a3 = some z1 ∧ M_bidder z1.2 a1 a2 a3 = some z2 ∧ z1.1 = z2.1 ∧ InvB w z2.2 (i + 1) := by
  obtain ⟨z1, z2, h1, h2, h3, h4⟩ := op_bidder h.1 hi a1 a2 a3
  exact ⟨z1, z2, h1, h2, h3, h4, by have := h.2; omega⟩
theorem opB_value {w : gw} {S : St} {i : Nat} (h : InvB w S i) (hi : i < 512) (a1 : Int32) (a2 : Int32) (a3 : Int32) : ∃ z1 z2, X_value S a1 a2 a3 = some z1 ∧ M_value z1.2 a1 a2 a3 = some z2 ∧ z1.1 = z2.1 ∧ InvB w z2.2 (i + 1) := by
  obtain ⟨z1, z2, h1, h2, h3, h4⟩ := op_value h.1 hi a1 a2 a3
  exact ⟨z1, z2, h1, h2, h3, h4, by have := h.2; omega⟩
theorem opB_joy {w : gw} {S : St} {i : Nat} (h : InvB w S i) (hi : i < 512) (a1 : Int32) (a2 : Int32) (a3 : Int32) : ∃ z1 z2, X_joy S a1 a2 a3 = some z1 ∧ M_joy z1.2 a1 a2 a3 = some z2 ∧ z1.1 = z2.1 ∧ InvB w z2.2 (i + 1) := by
  obtain ⟨z1, z2, h1, h2, h3, h4⟩ := op_joy h.1 hi a1 a2 a3
  exact ⟨z1, z2, h1, h2, h3, h4, by have := h.2; omega⟩
theorem opB_evening {w : gw} {S : St} {i : Nat} (h : InvB w S i) (hi : i < 512) (a1 : Int32) (a2 : Int32) (a3 : Int32) : ∃ z1 z2, X_evening S a1 a2 a3 = some z1 ∧ M_evening z1.2 a1 a2 a3 = some z2 ∧ z1.1 = z2.1 ∧ InvB w z2.2 (i + 1) := by
  obtain ⟨z1, z2, h1, h2, h3, h4⟩ := op_evening h.1 hi a1 a2 a3
  exact ⟨z1, z2, h1, h2, h3, h4, by have := h.2; omega⟩
theorem opB_set {w : gw} {S : St} {i : Nat} (h : InvB w S i) (hi : i < 512) (a1 : Int32) (a2 : Int32) : ∃ z1 z2, X_set S a1 a2 = some z1 ∧ M_set z1.2 a1 a2 = some z2 ∧ z1.1 = z2.1 ∧ InvB w z2.2 (i + 1) := by
  obtain ⟨z1, z2, h1, h2, h3, h4⟩ := op_set h.1 hi a1 a2
  exact ⟨z1, z2, h1, h2, h3, h4, by have := h.2; omega⟩
theorem opB_busy {w : gw} {S : St} {i : Nat} (h : InvB w S i) (hi : i < 512) (a1 : Int32) (a2 : Int32) (a3 : Int32) : ∃ z1 z2, X_busy S a1 a2 a3 = some z1 ∧ M_busy z1.2 a1 a2 a3 = some z2 ∧ z1.1 = z2.1 ∧ InvB w z2.2 (i + 1) := by
  obtain ⟨z1, z2, h1, h2, h3, h4⟩ := op_busy h.1 hi a1 a2 a3
  exact ⟨z1, z2, h1, h2, h3, h4, by have := h.2; omega⟩
theorem opB_read {w : gw} {S : St} {i : Nat} (h : InvB w S i) (hi : i < 512) (a1 : Int32) (a2 : Int32) : ∃ z1 z2, X_read w S a1 a2 = some z1 ∧ M_read z1.2 a1 a2 = some z2 ∧ z1.1 = z2.1 ∧ InvB w z2.2 (i + 1) := by
  obtain ⟨z1, z2, h1, h2, h3, h4⟩ := op_read h.1 hi a1 a2
  exact ⟨z1, z2, h1, h2, h3, h4, by have := h.2; omega⟩
theorem opB_holds {w : gw} {S : St} {i : Nat} (h : InvB w S i) (hi : i < 512) (a1 : Int32) : ∃ z1 z2, X_holds S a1 = some z1 ∧ M_holds z1.2 a1 = some z2 ∧ z1.1 = z2.1 ∧ InvB w z2.2 (i + 1) := by
  obtain ⟨z1, z2, h1, h2, h3, h4⟩ := op_holds h.1 hi a1
  exact ⟨z1, z2, h1, h2, h3, h4, by have := h.2; omega⟩
theorem opB_judged {w : gw} {S : St} {i : Nat} (h : InvB w S i) (hi : i < 512)  : ∃ z1 z2, X_judged S = some z1 ∧ M_judged z1.2 = some z2 ∧ z1.1 = z2.1 ∧ InvB w z2.2 (i + 1) := by
  obtain ⟨z1, z2, h1, h2, h3, h4⟩ := op_judged h.1 hi
  exact ⟨z1, z2, h1, h2, h3, h4, by have := h.2; omega⟩
theorem opB_owner {w : gw} {S : St} {i : Nat} (h : InvB w S i) (hi : i < 512) (a1 : Int32) : ∃ z1 z2, X_owner S a1 = some z1 ∧ M_owner z1.2 a1 = some z2 ∧ z1.1 = z2.1 ∧ InvB w z2.2 (i + 1) := by
  obtain ⟨z1, z2, h1, h2, h3, h4⟩ := op_owner h.1 hi a1
  exact ⟨z1, z2, h1, h2, h3, h4, by have := h.2; omega⟩
theorem opB_price {w : gw} {S : St} {i : Nat} (h : InvB w S i) (hi : i < 512) (a1 : Int32) : ∃ z1 z2, X_price S a1 = some z1 ∧ M_price z1.2 a1 = some z2 ∧ z1.1 = z2.1 ∧ InvB w z2.2 (i + 1) := by
  obtain ⟨z1, z2, h1, h2, h3, h4⟩ := op_price h.1 hi a1
  exact ⟨z1, z2, h1, h2, h3, h4, by have := h.2; omega⟩
theorem opB_has {w : gw} {S : St} {i : Nat} (h : InvB w S i) (hi : i < 512) (a1 : Int32) (a2 : Int32) : ∃ z1 z2, X_has S a1 a2 = some z1 ∧ M_has z1.2 a1 a2 = some z2 ∧ z1.1 = z2.1 ∧ InvB w z2.2 (i + 1) := by
  obtain ⟨z1, z2, h1, h2, h3, h4⟩ := op_has h.1 hi a1 a2
  exact ⟨z1, z2, h1, h2, h3, h4, by have := h.2; omega⟩
theorem opB_happy {w : gw} {S : St} {i : Nat} (h : InvB w S i) (hi : i < 512) (a1 : Int32) : ∃ z1 z2, X_happy S a1 = some z1 ∧ M_happy z1.2 a1 = some z2 ∧ z1.1 = z2.1 ∧ InvB w z2.2 (i + 1) := by
  obtain ⟨z1, z2, h1, h2, h3, h4⟩ := op_happy h.1 hi a1
  exact ⟨z1, z2, h1, h2, h3, h4, by have := h.2; omega⟩
theorem opB_wet {w : gw} {S : St} {i : Nat} (h : InvB w S i) (hi : i < 512) (a1 : Int32) (a2 : Int32) : ∃ z1 z2, X_wet S a1 a2 = some z1 ∧ M_wet z1.2 a1 a2 = some z2 ∧ z1.1 = z2.1 ∧ InvB w z2.2 (i + 1) := by
  obtain ⟨z1, z2, h1, h2, h3, h4⟩ := op_wet h.1 hi a1 a2
  exact ⟨z1, z2, h1, h2, h3, h4, by have := h.2; omega⟩
theorem opB_harm {w : gw} {S : St} {i : Nat} (h : InvB w S i) (hi : i < 512) (a1 : Int32) : ∃ z1 z2, X_harm S a1 = some z1 ∧ M_harm z1.2 a1 = some z2 ∧ z1.1 = z2.1 ∧ InvB w z2.2 (i + 1) := by
  obtain ⟨z1, z2, h1, h2, h3, h4⟩ := op_harm h.1 hi a1
  exact ⟨z1, z2, h1, h2, h3, h4, by have := h.2; omega⟩
theorem opB_gain {w : gw} {S : St} {i : Nat} (h : InvB w S i) (hi : i < 512) (a1 : Int32) : ∃ z1 z2, X_gain S a1 = some z1 ∧ M_gain z1.2 a1 = some z2 ∧ z1.1 = z2.1 ∧ InvB w z2.2 (i + 1) := by
  obtain ⟨z1, z2, h1, h2, h3, h4⟩ := op_gain h.1 hi a1
  exact ⟨z1, z2, h1, h2, h3, h4, by have := h.2; omega⟩
theorem opB_without {w : gw} {S : St} {i : Nat} (h : InvB w S i) (hi : i < 512) (a1 : Int32) (a2 : Int32) : ∃ z1 z2, X_without S a1 a2 = some z1 ∧ M_without z1.2 a1 a2 = some z2 ∧ z1.1 = z2.1 ∧ InvB w z2.2 (i + 1) := by
  obtain ⟨z1, z2, h1, h2, h3, h4⟩ := op_without h.1 hi a1 a2
  exact ⟨z1, z2, h1, h2, h3, h4, by have := h.2; omega⟩
theorem opB_meet {w : gw} {S : St} {i : Nat} (h : InvB w S i) (hi : i < 512) (a1 : Int32) (a2 : Int32) (a3 : Int32) : ∃ z1 z2, X_meet S a1 a2 a3 = some z1 ∧ M_meet z1.2 a1 a2 a3 = some z2 ∧ z1.1 = z2.1 ∧ InvB w z2.2 (i + 1) := by
  obtain ⟨z1, z2, h1, h2, h3, h4⟩ := op_meet h.1 hi a1 a2 a3
  exact ⟨z1, z2, h1, h2, h3, h4, by have := h.2; omega⟩
theorem opB_each {w : gw} {S : St} {i : Nat} (h : InvB w S i) (hi : i < 512) (a1 : Int32) : ∃ z1 z2, X_each S a1 = some z1 ∧ M_each z1.2 a1 = some z2 ∧ z1.1 = z2.1 ∧ InvB w z2.2 (i + 1) := by
  obtain ⟨z1, z2, h1, h2, h3, h4⟩ := op_each h.1 hi a1
  exact ⟨z1, z2, h1, h2, h3, h4, by have := h.2; omega⟩
theorem opB_pays {w : gw} {S : St} {i : Nat} (h : InvB w S i) (hi : i < 512) (a1 : Int32) : ∃ z1 z2, X_pays S a1 = some z1 ∧ M_pays z1.2 a1 = some z2 ∧ z1.1 = z2.1 ∧ InvB w z2.2 (i + 1) := by
  obtain ⟨z1, z2, h1, h2, h3, h4⟩ := op_pays h.1 hi a1
  exact ⟨z1, z2, h1, h2, h3, h4, by have := h.2; omega⟩
theorem opB_club {w : gw} {S : St} {i : Nat} (h : InvB w S i) (hi : i < 512) (a1 : Int32) : ∃ z1 z2, X_club S a1 = some z1 ∧ M_club z1.2 a1 = some z2 ∧ z1.1 = z2 ∧ InvB w z1.2 (i + 1) := by
  obtain ⟨z1, z2, h1, h2, h3, h4⟩ := op_club h.1 hi a1
  exact ⟨z1, z2, h1, h2, h3, h4, by have := h.2; omega⟩
theorem opB_share {w : gw} {S : St} {i : Nat} (h : InvB w S i) (hi : i < 512) (a1 : Int32) (a2 : Int32) : ∃ z1 z2, X_share S a1 a2 = some z1 ∧ M_share z1.2 a1 a2 = some z2 ∧ z1.1 = z2 ∧ InvB w z1.2 (i + 1) := by
  obtain ⟨z1, z2, h1, h2, h3, h4⟩ := op_share h.1 hi a1 a2
  exact ⟨z1, z2, h1, h2, h3, h4, by have := h.2; omega⟩
theorem opB_rather {w : gw} {S : St} {i : Nat} (h : InvB w S i) (hi : i < 512) (a1 : Int32) : ∃ z1 z2, X_rather w S a1 = some z1 ∧ M_rather z1.2 a1 = some z2 ∧ z1.1 = z2.1 ∧ InvB w z2.2 (i + 1) := by
  obtain ⟨z1, z2, h1, h2, h3, h4⟩ := op_rather h.1 hi a1
  exact ⟨z1, z2, h1, h2, h3, h4, by have := h.2; omega⟩
theorem opB_seen {w : gw} {S : St} {i : Nat} (h : InvB w S i) (hi : i < 512) (a1 : Int32) (a2 : Int32) : ∃ z1 z2, X_seen S a1 a2 = some z1 ∧ M_seen z1.2 a1 a2 = some z2 ∧ z1.1 = z2.1 ∧ InvB w z2.2 (i + 1) := by
  obtain ⟨z1, z2, h1, h2, h3, h4⟩ := op_seen h.1 hi a1 a2
  exact ⟨z1, z2, h1, h2, h3, h4, by have := h.2; omega⟩
theorem opB_forget {w : gw} {S : St} {i : Nat} (h : InvB w S i) (hi : i < 512)  : ∃ z1 z2, X_forget S = some z1 ∧ M_forget z1.2 = some z2 ∧ z1.1 = z2.1 ∧ InvB w z2.2 (i + 1) := by
  obtain ⟨z1, z2, h1, h2, h3, h4⟩ := op_forget h.1 hi
  exact ⟨z1, z2, h1, h2, h3, h4, by have := h.2; omega⟩
theorem opB_owners {w : gw} {S : St} {i : Nat} (h : InvB w S i) (hi : i < 512) (a1 : Int32) : ∃ z1 z2, X_owners S a1 = some z1 ∧ M_owners z1.2 a1 = some z2 ∧ z1.1 = z2.1 ∧ InvB w z2.2 (i + 1) := by
  obtain ⟨z1, z2, h1, h2, h3, h4⟩ := op_owners h.1 hi a1
  exact ⟨z1, z2, h1, h2, h3, h4, by have := h.2; omega⟩
theorem opB_worth {w : gw} {S : St} {i : Nat} (h : InvB w S i) (hi : i < 512) (a1 : Int32) (a2 : Int32) (a3 : Int32) : ∃ z1 z2, X_worth S a1 a2 a3 = some z1 ∧ M_worth S a1 a2 a3 = some z2 ∧ z1 = z2 ∧ InvB w S (i + 1) := by
  obtain ⟨z1, z2, h1, h2, h3, h4⟩ := op_worth h.1 hi a1 a2 a3
  exact ⟨z1, z2, h1, h2, h3, h4, by have := h.2; omega⟩
theorem opB_swap {w : gw} {S : St} {i : Nat} (h : InvB w S i) (hi : i < 512) (a1 : Int32) (a2 : Int32) : ∃ z1 z2, X_swap S a1 a2 = some z1 ∧ M_swap z1.2 a1 a2 = some z2 ∧ z1.1 = z2.1 ∧ InvB w z2.2 (i + 1) := by
  obtain ⟨z1, z2, h1, h2, h3, h4⟩ := op_swap h.1 hi a1 a2
  exact ⟨z1, z2, h1, h2, h3, h4, by have := h.2; omega⟩
theorem opB_sheet {w : gw} {S : St} {i : Nat} (h : InvB w S i) (hi : i < 512) (a1 a2 a3 r : Int32) (u : gw × St) (hu : shR w S a1 a2 a3 r u) : ∃ z2, M_sheet u.2 a1 a2 a3 = some z2 ∧ r = z2.1 ∧ InvB u.1 z2.2 (i + 1) := by
  obtain ⟨z2, h1, h2, h3⟩ := op_sheet h.1 h.2 hi a1 a2 a3 r u hu
  refine ⟨z2, h1, h2, h3, ?_⟩
  have := h.2
  rcases hu with ⟨-, -, rfl⟩ | ⟨-, -, -, rfl⟩ | ⟨-, -, -, q1, q2, rfl⟩
  · show gN w ≤ _; omega
  · show gN w ≤ _; omega
  · show gN w + 2 ≤ _; omega
theorem opB_lose {w : gw} {S : St} {i : Nat} (h : InvB w S i) (hi : i < 512) (a1 : Int32) : ∃ z1 z2, X_lose w S a1 = some z1 ∧ M_lose z1.2 a1 = some z2 ∧ z1.1 = z2.1 ∧ InvB w z2.2 (i + 1) := by
  obtain ⟨z1, z2, h1, h2, h3, h4⟩ := op_lose h.1 hi a1
  exact ⟨z1, z2, h1, h2, h3, h4, by have := h.2; omega⟩
theorem opB_lay {w : gw} {S : St} {i : Nat} (h : InvB w S i) (hi : i < 512) (a1 : Int32) (a2 : Int32) (a3 : Int32) (a4 : Int32) : ∃ z1 z2, X_lay w S a1 a2 a3 a4 = some z1 ∧ M_lay z1.2 a1 a2 a3 a4 = some z2 ∧ z1.1 = z2.1 ∧ InvB w z2.2 (i + 1) := by
  obtain ⟨z1, z2, h1, h2, h3, h4⟩ := op_lay h.1 hi a1 a2 a3 a4
  exact ⟨z1, z2, h1, h2, h3, h4, by have := h.2; omega⟩
theorem opB_get {w : gw} {S : St} {i : Nat} (h : InvB w S i) (hi : i < 512) (a1 : Int32) (a2 : Int32) (a3 : Int32) : ∃ z1 z2, X_get w S a1 a2 a3 = some z1 ∧ M_get z1.2 a1 a2 a3 = some z2 ∧ z1.1 = z2.1 ∧ InvB w z2.2 (i + 1) := by
  obtain ⟨z1, z2, h1, h2, h3, h4⟩ := op_get h.1 hi a1 a2 a3
  exact ⟨z1, z2, h1, h2, h3, h4, by have := h.2; omega⟩
theorem opB_copy {w : gw} {S : St} {i : Nat} (h : InvB w S i) (hi : i < 512) (a1 : Int32) (a2 : Int32) (a3 : Int32) (a4 : Int32) (a5 : Int32) : ∃ z1 z2, X_copy w S a1 a2 a3 a4 a5 = some z1 ∧ M_copy z1.2 a1 a2 a3 a4 a5 = some z2 ∧ z1.1 = z2.1 ∧ InvB w z2.2 (i + 1) := by
  obtain ⟨z1, z2, h1, h2, h3, h4⟩ := op_copy h.1 hi a1 a2 a3 a4 a5
  exact ⟨z1, z2, h1, h2, h3, h4, by have := h.2; omega⟩
theorem opB_write {w : gw} {S : St} {i : Nat} (h : InvB w S i) (hi : i < 512) (a1 : Int32) : ∃ z1 z2, X_write w S a1 = some z1 ∧ M_write z1.2 a1 = some z2 ∧ z1.1 = z2.1 ∧ InvB w z2.2 (i + 1) := by
  obtain ⟨z1, z2, h1, h2, h3, h4⟩ := op_write h.1 hi a1
  exact ⟨z1, z2, h1, h2, h3, h4, by have := h.2; omega⟩
theorem opB_count {w : gw} {S : St} {i : Nat} (h : InvB w S i) (hi : i < 512) (a1 : Int32) : ∃ z1 z2, X_count S a1 = some z1 ∧ M_count z1.2 a1 = some z2 ∧ z1.1 = z2.1 ∧ InvB w z2.2 (i + 1) := by
  obtain ⟨z1, z2, h1, h2, h3, h4⟩ := op_count h.1 hi a1
  exact ⟨z1, z2, h1, h2, h3, h4, by have := h.2; omega⟩
theorem opB_digest {w : gw} {S : St} {i : Nat} (h : InvB w S i) (hi : i < 512)  : ∃ z1 z2, X_digest S = some z1 ∧ M_digest z1.2 = some z2 ∧ z1.1 = z2.1 ∧ InvB w z2.2 (i + 1) := by
  obtain ⟨z1, z2, h1, h2, h3, h4⟩ := op_digest h.1 hi
  exact ⟨z1, z2, h1, h2, h3, h4, by have := h.2; omega⟩
