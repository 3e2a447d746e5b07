def Inv (w : gw) (S : St) (i : Nat) : Prop := w48 w S ∧ i = i
theorem Inv_next {w : gw} {S : St} {i : Nat} (h : Inv w S i) : Inv w S (i + 1) := sorry
theorem Inv_start {w : gw} (h : gN w = 73) : Inv w S0 0 := sorry
theorem op_type {w : gw} {S : St} {i : Nat} (h : Inv w S i) (hi : i < 512) (a1 : Int32) : ∃ z1 z2, X_type S a1 = some z1 ∧ M_type z1.2 a1 = some z2 ∧ z1.1 = z2.1 ∧ Inv w z2.2 (i + 1) := sorry
theorem op_wipe {w : gw} {S : St} {i : Nat} (h : Inv w S i) (hi : i < 512)  : ∃ z1 z2, X_wipe S = some z1 ∧ M_wipe z1.2 = some z2 ∧ z1.1 = z2.1 ∧ Inv w z2.2 (i + 1) := sorry
theorem op_fault {w : gw} {S : St} {i : Nat} (h : Inv w S i) (hi : i < 512)  : ∃ z1 z2, X_fault S = some z1 ∧ M_fault z1.2 = some z2 ∧ z1.1 = z2.1 ∧ Inv w z2.2 (i + 1) := sorry
theorem op_undo {w : gw} {S : St} {i : Nat} (h : Inv w S i) (hi : i < 512)  : ∃ z1 z2, X_undo S = some z1 ∧ M_undo z1.2 = some z2 ∧ z1.1 = z2.1 ∧ Inv w z2.2 (i + 1) := sorry
theorem op_bidder {w : gw} {S : St} {i : Nat} (h : Inv w S i) (hi : i < 512) (a1 : Int32) (a2 : Int32) (a3 : Int32) : ∃ z1 z2, X_bidder S a1 a2 a3 = some z1 ∧ M_bidder z1.2 a1 a2 a3 = some z2 ∧ z1.1 = z2.1 ∧ Inv w z2.2 (i + 1) := sorry
theorem op_value {w : gw} {S : St} {i : Nat} (h : Inv w S i) (hi : i < 512) (a1 : Int32) (a2 : Int32) (a3 : Int32) : ∃ z1 z2, X_value S a1 a2 a3 = some z1 ∧ M_value z1.2 a1 a2 a3 = some z2 ∧ z1.1 = z2.1 ∧ Inv w z2.2 (i + 1) := sorry
theorem op_joy {w : gw} {S : St} {i : Nat} (h : Inv w S i) (hi : i < 512) (a1 : Int32) (a2 : Int32) (a3 : Int32) : ∃ z1 z2, X_joy S a1 a2 a3 = some z1 ∧ M_joy z1.2 a1 a2 a3 = some z2 ∧ z1.1 = z2.1 ∧ Inv w z2.2 (i + 1) := sorry
theorem op_evening {w : gw} {S : St} {i : Nat} (h : Inv w S i) (hi : i < 512) (a1 : Int32) (a2 : Int32) (a3 : Int32) : ∃ z1 z2, X_evening S a1 a2 a3 = some z1 ∧ M_evening z1.2 a1 a2 a3 = some z2 ∧ z1.1 = z2.1 ∧ Inv w z2.2 (i + 1) := sorry
theorem op_set {w : gw} {S : St} {i : Nat} (h : Inv w S i) (hi : i < 512) (a1 : Int32) (a2 : Int32) : ∃ z1 z2, X_set S a1 a2 = some z1 ∧ M_set z1.2 a1 a2 = some z2 ∧ z1.1 = z2.1 ∧ Inv w z2.2 (i + 1) := sorry
theorem op_busy {w : gw} {S : St} {i : Nat} (h : Inv w S i) (hi : i < 512) (a1 : Int32) (a2 : Int32) (a3 : Int32) : ∃ z1 z2, X_busy S a1 a2 a3 = some z1 ∧ M_busy z1.2 a1 a2 a3 = some z2 ∧ z1.1 = z2.1 ∧ Inv w z2.2 (i + 1) := sorry
theorem op_read {w : gw} {S : St} {i : Nat} (h : Inv w S i) (hi : i < 512) (a1 : Int32) (a2 : Int32) : ∃ z1 z2, X_read w S a1 a2 = some z1 ∧ M_read z1.2 a1 a2 = some z2 ∧ z1.1 = z2.1 ∧ Inv w z2.2 (i + 1) := sorry
theorem op_holds {w : gw} {S : St} {i : Nat} (h : Inv w S i) (hi : i < 512) (a1 : Int32) : ∃ z1 z2, X_holds S a1 = some z1 ∧ M_holds z1.2 a1 = some z2 ∧ z1.1 = z2.1 ∧ Inv w z2.2 (i + 1) := sorry
theorem op_judged {w : gw} {S : St} {i : Nat} (h : Inv w S i) (hi : i < 512)  : ∃ z1 z2, X_judged S = some z1 ∧ M_judged z1.2 = some z2 ∧ z1.1 = z2.1 ∧ Inv w z2.2 (i + 1) := sorry
theorem op_owner {w : gw} {S : St} {i : Nat} (h : Inv w S i) (hi : i < 512) (a1 : Int32) : ∃ z1 z2, X_owner S a1 = some z1 ∧ M_owner z1.2 a1 = some z2 ∧ z1.1 = z2.1 ∧ Inv w z2.2 (i + 1) := sorry
theorem op_price {w : gw} {S : St} {i : Nat} (h : Inv w S i) (hi : i < 512) (a1 : Int32) : ∃ z1 z2, X_price S a1 = some z1 ∧ M_price z1.2 a1 = some z2 ∧ z1.1 = z2.1 ∧ Inv w z2.2 (i + 1) := sorry
theorem op_has {w : gw} {S : St} {i : Nat} (h : Inv w S i) (hi : i < 512) (a1 : Int32) (a2 : Int32) : ∃ z1 z2, X_has S a1 a2 = some z1 ∧ M_has z1.2 a1 a2 = some z2 ∧ z1.1 = z2.1 ∧ Inv w z2.2 (i + 1) := sorry
theorem op_happy {w : gw} {S : St} {i : Nat} (h : Inv w S i) (hi : i < 512) (a1 : Int32) : ∃ z1 z2, X_happy S a1 = some z1 ∧ M_happy z1.2 a1 = some z2 ∧ z1.1 = z2.1 ∧ Inv w z2.2 (i + 1) := sorry
theorem op_wet {w : gw} {S : St} {i : Nat} (h : Inv w S i) (hi : i < 512) (a1 : Int32) (a2 : Int32) : ∃ z1 z2, X_wet S a1 a2 = some z1 ∧ M_wet z1.2 a1 a2 = some z2 ∧ z1.1 = z2.1 ∧ Inv w z2.2 (i + 1) := sorry
theorem op_harm {w : gw} {S : St} {i : Nat} (h : Inv w S i) (hi : i < 512) (a1 : Int32) : ∃ z1 z2, X_harm S a1 = some z1 ∧ M_harm z1.2 a1 = some z2 ∧ z1.1 = z2.1 ∧ Inv w z2.2 (i + 1) := sorry
theorem op_gain {w : gw} {S : St} {i : Nat} (h : Inv w S i) (hi : i < 512) (a1 : Int32) : ∃ z1 z2, X_gain S a1 = some z1 ∧ M_gain z1.2 a1 = some z2 ∧ z1.1 = z2.1 ∧ Inv w z2.2 (i + 1) := sorry
theorem op_without {w : gw} {S : St} {i : Nat} (h : Inv w S i) (hi : i < 512) (a1 : Int32) (a2 : Int32) : ∃ z1 z2, X_without S a1 a2 = some z1 ∧ M_without z1.2 a1 a2 = some z2 ∧ z1.1 = z2.1 ∧ Inv w z2.2 (i + 1) := sorry
theorem op_meet {w : gw} {S : St} {i : Nat} (h : Inv w S i) (hi : i < 512) (a1 : Int32) (a2 : Int32) (a3 : Int32) : ∃ z1 z2, X_meet S a1 a2 a3 = some z1 ∧ M_meet z1.2 a1 a2 a3 = some z2 ∧ z1.1 = z2.1 ∧ Inv w z2.2 (i + 1) := sorry
theorem op_each {w : gw} {S : St} {i : Nat} (h : Inv w S i) (hi : i < 512) (a1 : Int32) : ∃ z1 z2, X_each S a1 = some z1 ∧ M_each z1.2 a1 = some z2 ∧ z1.1 = z2.1 ∧ Inv w z2.2 (i + 1) := sorry
theorem op_pays {w : gw} {S : St} {i : Nat} (h : Inv w S i) (hi : i < 512) (a1 : Int32) : ∃ z1 z2, X_pays S a1 = some z1 ∧ M_pays z1.2 a1 = some z2 ∧ z1.1 = z2.1 ∧ Inv w z2.2 (i + 1) := sorry
theorem op_club {w : gw} {S : St} {i : Nat} (h : Inv w S i) (hi : i < 512) (a1 : Int32) : ∃ z1 z2, X_club S a1 = some z1 ∧ M_club z1.2 a1 = some z2 ∧ z1.1 = z2 ∧ Inv w z1.2 (i + 1) := sorry
theorem op_share {w : gw} {S : St} {i : Nat} (h : Inv w S i) (hi : i < 512) (a1 : Int32) (a2 : Int32) : ∃ z1 z2, X_share S a1 a2 = some z1 ∧ M_share z1.2 a1 a2 = some z2 ∧ z1.1 = z2 ∧ Inv w z1.2 (i + 1) := sorry
theorem op_rather {w : gw} {S : St} {i : Nat} (h : Inv w S i) (hi : i < 512) (a1 : Int32) : ∃ z1 z2, X_rather w S a1 = some z1 ∧ M_rather z1.2 a1 = some z2 ∧ z1.1 = z2.1 ∧ Inv w z2.2 (i + 1) := sorry
theorem op_seen {w : gw} {S : St} {i : Nat} (h : Inv w S i) (hi : i < 512) (a1 : Int32) (a2 : Int32) : ∃ z1 z2, X_seen S a1 a2 = some z1 ∧ M_seen z1.2 a1 a2 = some z2 ∧ z1.1 = z2.1 ∧ Inv w z2.2 (i + 1) := sorry
theorem op_forget {w : gw} {S : St} {i : Nat} (h : Inv w S i) (hi : i < 512)  : ∃ z1 z2, X_forget S = some z1 ∧ M_forget z1.2 = some z2 ∧ z1.1 = z2.1 ∧ Inv w z2.2 (i + 1) := sorry
theorem op_owners {w : gw} {S : St} {i : Nat} (h : Inv w S i) (hi : i < 512) (a1 : Int32) : ∃ z1 z2, X_owners S a1 = some z1 ∧ M_owners z1.2 a1 = some z2 ∧ z1.1 = z2.1 ∧ Inv w z2.2 (i + 1) := sorry
theorem op_worth {w : gw} {S : St} {i : Nat} (h : Inv w S i) (hi : i < 512) (a1 : Int32) (a2 : Int32) (a3 : Int32) : ∃ z1 z2, X_worth S a1 a2 a3 = some z1 ∧ M_worth S a1 a2 a3 = some z2 ∧ z1 = z2 ∧ Inv w S (i + 1) := sorry
theorem op_swap {w : gw} {S : St} {i : Nat} (h : Inv w S i) (hi : i < 512) (a1 : Int32) (a2 : Int32) : ∃ z1 z2, X_swap S a1 a2 = some z1 ∧ M_swap z1.2 a1 a2 = some z2 ∧ z1.1 = z2.1 ∧ Inv w z2.2 (i + 1) := sorry
theorem op_sheet {w : gw} {S : St} {i : Nat} (h : Inv w S i) (hi : i < 512) (a1 a2 a3 r : Int32) (u : gw × St) (hu : shR w S a1 a2 a3 r u) : ∃ z2, M_sheet u.2 a1 a2 a3 = some z2 ∧ r = z2.1 ∧ Inv u.1 z2.2 (i + 1) := sorry
theorem op_lose {w : gw} {S : St} {i : Nat} (h : Inv w S i) (hi : i < 512) (a1 : Int32) : ∃ z1 z2, X_lose w S a1 = some z1 ∧ M_lose z1.2 a1 = some z2 ∧ z1.1 = z2.1 ∧ Inv w z2.2 (i + 1) := sorry
theorem op_lay {w : gw} {S : St} {i : Nat} (h : Inv w S i) (hi : i < 512) (a1 : Int32) (a2 : Int32) (a3 : Int32) (a4 : Int32) : ∃ z1 z2, X_lay w S a1 a2 a3 a4 = some z1 ∧ M_lay z1.2 a1 a2 a3 a4 = some z2 ∧ z1.1 = z2.1 ∧ Inv w z2.2 (i + 1) := sorry
theorem op_get {w : gw} {S : St} {i : Nat} (h : Inv w S i) (hi : i < 512) (a1 : Int32) (a2 : Int32) (a3 : Int32) : ∃ z1 z2, X_get w S a1 a2 a3 = some z1 ∧ M_get z1.2 a1 a2 a3 = some z2 ∧ z1.1 = z2.1 ∧ Inv w z2.2 (i + 1) := sorry
theorem op_copy {w : gw} {S : St} {i : Nat} (h : Inv w S i) (hi : i < 512) (a1 : Int32) (a2 : Int32) (a3 : Int32) (a4 : Int32) (a5 : Int32) : ∃ z1 z2, X_copy w S a1 a2 a3 a4 a5 = some z1 ∧ M_copy z1.2 a1 a2 a3 a4 a5 = some z2 ∧ z1.1 = z2.1 ∧ Inv w z2.2 (i + 1) := sorry
theorem op_write {w : gw} {S : St} {i : Nat} (h : Inv w S i) (hi : i < 512) (a1 : Int32) : ∃ z1 z2, X_write w S a1 = some z1 ∧ M_write z1.2 a1 = some z2 ∧ z1.1 = z2.1 ∧ Inv w z2.2 (i + 1) := sorry
theorem op_count {w : gw} {S : St} {i : Nat} (h : Inv w S i) (hi : i < 512) (a1 : Int32) : ∃ z1 z2, X_count S a1 = some z1 ∧ M_count z1.2 a1 = some z2 ∧ z1.1 = z2.1 ∧ Inv w z2.2 (i + 1) := sorry
theorem op_digest {w : gw} {S : St} {i : Nat} (h : Inv w S i) (hi : i < 512)  : ∃ z1 z2, X_digest S = some z1 ∧ M_digest z1.2 = some z2 ∧ z1.1 = z2.1 ∧ Inv w z2.2 (i + 1) := sorry
