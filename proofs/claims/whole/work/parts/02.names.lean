def RC0 : String := "EveningAuction$BidText"
def TC0 : u_T := fun k => match k with
  | 0 => ("EveningAuction$BidText", "bytes", "[I", true)
  | 1 => ("EveningAuction$BidText", "length", "I", false)
  | 2 => ("EveningAuction$BidText", "faultAt", "I", false)
  | _ => ("EveningAuction$BidText", "number", "I", false)
def tyC0 : Nat → FieldType := fun k => match k with
  | 0 => .array .int
  | 1 => .int
  | 2 => .int
  | _ => .int
theorem nmC0 : ∀ a, a < 4 → ∀ b, b < 4 → a ≠ b → (TC0 a).2.1 ≠ (TC0 b).2.1 := by decide +kernel
theorem okC0 : ∀ k, k < 4 → parseFieldDescriptor (TC0 k).2.2.1 = some (tyC0 k) := by decide +kernel
theorem inC0 : ∀ x ∈ u_ws RC0 TC0 4, x ∈ lw_g := by
  intro x hx
  obtain ⟨k, hk, rfl⟩ := List.mem_map.mp hx
  have hk := List.mem_range.mp hk
  match k, hk with
  | 0, _ => exact g_mem 84 (by decide +kernel) (by decide +kernel)
  | 1, _ => exact g_mem 86 (by decide +kernel) (by decide +kernel)
  | 2, _ => exact g_mem 88 (by decide +kernel) (by decide +kernel)
  | 3, _ => exact g_mem 90 (by decide +kernel) (by decide +kernel)
  | k + 4, h => exact absurd h (by omega)
def RC1 : String := "EveningAuction$Clubs"
def TC1 : u_T := fun k => match k with
  | 0 => ("EveningAuction$Clubs", "worths", "[I", true)
  | _ => ("EveningAuction$Clubs", "edition", "I", false)
def tyC1 : Nat → FieldType := fun k => match k with
  | 0 => .array .int
  | _ => .int
theorem nmC1 : ∀ a, a < 2 → ∀ b, b < 2 → a ≠ b → (TC1 a).2.1 ≠ (TC1 b).2.1 := by decide +kernel
theorem okC1 : ∀ k, k < 2 → parseFieldDescriptor (TC1 k).2.2.1 = some (tyC1 k) := by decide +kernel
theorem inC1 : ∀ x ∈ u_ws RC1 TC1 2, x ∈ lw_g := by
  intro x hx
  obtain ⟨k, hk, rfl⟩ := List.mem_map.mp hx
  have hk := List.mem_range.mp hk
  match k, hk with
  | 0, _ => exact g_mem 167 (by decide +kernel) (by decide +kernel)
  | 1, _ => exact g_mem 169 (by decide +kernel) (by decide +kernel)
  | k + 2, h => exact absurd h (by omega)
def RC2 : String := "EveningAuction$OneEach"
def TC2 : u_T := fun k => match k with
  | 0 => ("EveningAuction$OneEach", "mostOfSet", "[I", true)
  | 1 => ("EveningAuction$OneEach", "row", "[I", true)
  | 2 => ("EveningAuction$OneEach", "totalWithout", "[I", true)
  | 3 => ("EveningAuction$OneEach", "total", "I", false)
  | _ => ("EveningAuction$OneEach", "edition", "I", false)
def tyC2 : Nat → FieldType := fun k => match k with
  | 0 => .array .int
  | 1 => .array .int
  | 2 => .array .int
  | 3 => .int
  | _ => .int
theorem nmC2 : ∀ a, a < 5 → ∀ b, b < 5 → a ≠ b → (TC2 a).2.1 ≠ (TC2 b).2.1 := by decide +kernel
theorem okC2 : ∀ k, k < 5 → parseFieldDescriptor (TC2 k).2.2.1 = some (tyC2 k) := by decide +kernel
theorem inC2 : ∀ x ∈ u_ws RC2 TC2 5, x ∈ lw_g := by
  intro x hx
  obtain ⟨k, hk, rfl⟩ := List.mem_map.mp hx
  have hk := List.mem_range.mp hk
  match k, hk with
  | 0, _ => exact g_mem 146 (by decide +kernel) (by decide +kernel)
  | 1, _ => exact g_mem 148 (by decide +kernel) (by decide +kernel)
  | 2, _ => exact g_mem 150 (by decide +kernel) (by decide +kernel)
  | 3, _ => exact g_mem 152 (by decide +kernel) (by decide +kernel)
  | 4, _ => exact g_mem 154 (by decide +kernel) (by decide +kernel)
  | k + 5, h => exact absurd h (by omega)
def RC3 : String := "EveningAuction$Outcome"
def TC3 : u_T := fun k => match k with
  | 0 => ("EveningAuction$Outcome", "held", "[Z", true)
  | 1 => ("EveningAuction$Outcome", "leaders", "[I", true)
  | 2 => ("EveningAuction$Outcome", "amounts", "[I", true)
  | 3 => ("EveningAuction$Outcome", "seconds", "[I", true)
  | 4 => ("EveningAuction$Outcome", "bound", "[I", true)
  | 5 => ("EveningAuction$Outcome", "numberHeld", "I", false)
  | 6 => ("EveningAuction$Outcome", "firstNotHeld", "I", false)
  | _ => ("EveningAuction$Outcome", "edition", "I", false)
def tyC3 : Nat → FieldType := fun k => match k with
  | 0 => .array .boolean
  | 1 => .array .int
  | 2 => .array .int
  | 3 => .array .int
  | 4 => .array .int
  | 5 => .int
  | 6 => .int
  | _ => .int
theorem nmC3 : ∀ a, a < 8 → ∀ b, b < 8 → a ≠ b → (TC3 a).2.1 ≠ (TC3 b).2.1 := by decide +kernel
theorem okC3 : ∀ k, k < 8 → parseFieldDescriptor (TC3 k).2.2.1 = some (tyC3 k) := by decide +kernel
theorem inC3 : ∀ x ∈ u_ws RC3 TC3 8, x ∈ lw_g := by
  intro x hx
  obtain ⟨k, hk, rfl⟩ := List.mem_map.mp hx
  have hk := List.mem_range.mp hk
  match k, hk with
  | 0, _ => exact g_mem 113 (by decide +kernel) (by decide +kernel)
  | 1, _ => exact g_mem 115 (by decide +kernel) (by decide +kernel)
  | 2, _ => exact g_mem 117 (by decide +kernel) (by decide +kernel)
  | 3, _ => exact g_mem 119 (by decide +kernel) (by decide +kernel)
  | 4, _ => exact g_mem 121 (by decide +kernel) (by decide +kernel)
  | 5, _ => exact g_mem 123 (by decide +kernel) (by decide +kernel)
  | 6, _ => exact g_mem 125 (by decide +kernel) (by decide +kernel)
  | 7, _ => exact g_mem 127 (by decide +kernel) (by decide +kernel)
  | k + 8, h => exact absurd h (by omega)
def RC4 : String := "EveningAuction$Sheet"
def TC4 : u_T := fun k => match k with
  | 0 => ("EveningAuction$Sheet", "form", "I", true)
  | _ => ("EveningAuction$Sheet", "items", "[I", true)
def tyC4 : Nat → FieldType := fun k => match k with
  | 0 => .int
  | _ => .array .int
theorem nmC4 : ∀ a, a < 2 → ∀ b, b < 2 → a ≠ b → (TC4 a).2.1 ≠ (TC4 b).2.1 := by decide +kernel
theorem okC4 : ∀ k, k < 2 → parseFieldDescriptor (TC4 k).2.2.1 = some (tyC4 k) := by decide +kernel
theorem inC4 : ∀ x ∈ u_ws RC4 TC4 2, x ∈ lw_g := by
  intro x hx
  obtain ⟨k, hk, rfl⟩ := List.mem_map.mp hx
  have hk := List.mem_range.mp hk
  match k, hk with
  | 0, _ => exact g_mem 579 (by decide +kernel) (by decide +kernel)
  | 1, _ => exact g_mem 581 (by decide +kernel) (by decide +kernel)
  | k + 2, h => exact absurd h (by omega)
def RC5 : String := "EveningAuction$Sightings"
def TC5 : u_T := fun k => match k with
  | 0 => ("EveningAuction$Sightings", "programmes", "[I", true)
  | 1 => ("EveningAuction$Sightings", "waysOf", "[I", true)
  | 2 => ("EveningAuction$Sightings", "oneWithTwo", "Z", false)
  | _ => ("EveningAuction$Sightings", "number", "I", false)
def tyC5 : Nat → FieldType := fun k => match k with
  | 0 => .array .int
  | 1 => .array .int
  | 2 => .boolean
  | _ => .int
theorem nmC5 : ∀ a, a < 4 → ∀ b, b < 4 → a ≠ b → (TC5 a).2.1 ≠ (TC5 b).2.1 := by decide +kernel
theorem okC5 : ∀ k, k < 4 → parseFieldDescriptor (TC5 k).2.2.1 = some (tyC5 k) := by decide +kernel
theorem inC5 : ∀ x ∈ u_ws RC5 TC5 4, x ∈ lw_g := by
  intro x hx
  obtain ⟨k, hk, rfl⟩ := List.mem_map.mp hx
  have hk := List.mem_range.mp hk
  match k, hk with
  | 0, _ => exact g_mem 188 (by decide +kernel) (by decide +kernel)
  | 1, _ => exact g_mem 190 (by decide +kernel) (by decide +kernel)
  | 2, _ => exact g_mem 192 (by decide +kernel) (by decide +kernel)
  | 3, _ => exact g_mem 194 (by decide +kernel) (by decide +kernel)
  | k + 4, h => exact absurd h (by omega)
def RC6 : String := "EveningAuction$Town"
def TC6 : u_T := fun k => match k with
  | 0 => ("EveningAuction$Town", "purses", "[I", true)
  | 1 => ("EveningAuction$Town", "programmes", "[I", true)
  | 2 => ("EveningAuction$Town", "values", "[[I", true)
  | 3 => ("EveningAuction$Town", "joys", "[[I", true)
  | 4 => ("EveningAuction$Town", "busyness", "[[I", true)
  | 5 => ("EveningAuction$Town", "reserves", "[I", true)
  | 6 => ("EveningAuction$Town", "clouds", "[I", true)
  | _ => ("EveningAuction$Town", "rules", "[I", true)
def tyC6 : Nat → FieldType := fun k => match k with
  | 0 => .array .int
  | 1 => .array .int
  | 2 => .array (.array .int)
  | 3 => .array (.array .int)
  | 4 => .array (.array .int)
  | 5 => .array .int
  | 6 => .array .int
  | _ => .array .int
theorem nmC6 : ∀ a, a < 8 → ∀ b, b < 8 → a ≠ b → (TC6 a).2.1 ≠ (TC6 b).2.1 := by decide +kernel
theorem okC6 : ∀ k, k < 8 → parseFieldDescriptor (TC6 k).2.2.1 = some (tyC6 k) := by decide +kernel
theorem inC6 : ∀ x ∈ u_ws RC6 TC6 8, x ∈ lw_g := by
  intro x hx
  obtain ⟨k, hk, rfl⟩ := List.mem_map.mp hx
  have hk := List.mem_range.mp hk
  match k, hk with
  | 0, _ => exact g_mem 52 (by decide +kernel) (by decide +kernel)
  | 1, _ => exact g_mem 54 (by decide +kernel) (by decide +kernel)
  | 2, _ => exact g_mem 56 (by decide +kernel) (by decide +kernel)
  | 3, _ => exact g_mem 58 (by decide +kernel) (by decide +kernel)
  | 4, _ => exact g_mem 60 (by decide +kernel) (by decide +kernel)
  | 5, _ => exact g_mem 62 (by decide +kernel) (by decide +kernel)
  | 6, _ => exact g_mem 64 (by decide +kernel) (by decide +kernel)
  | 7, _ => exact g_mem 66 (by decide +kernel) (by decide +kernel)
  | k + 8, h => exact absurd h (by omega)
def RC7 : String := "EveningAuction"
def TC7 : u_T := fun k => match k with
  | 0 => ("EveningAuction", "town", "LEveningAuction$Town;", true)
  | 1 => ("EveningAuction", "bids", "LEveningAuction$BidText;", true)
  | 2 => ("EveningAuction", "outcome", "LEveningAuction$Outcome;", true)
  | 3 => ("EveningAuction", "otherOutcome", "LEveningAuction$Outcome;", true)
  | 4 => ("EveningAuction", "oneEach", "LEveningAuction$OneEach;", true)
  | 5 => ("EveningAuction", "clubs", "LEveningAuction$Clubs;", true)
  | 6 => ("EveningAuction", "sightings", "LEveningAuction$Sightings;", true)
  | 7 => ("EveningAuction", "sheets", "[LEveningAuction$Sheet;", true)
  | 8 => ("EveningAuction", "latestFinding", "I", false)
  | _ => ("EveningAuction", "edition", "I", false)
def tyC7 : Nat → FieldType := fun k => match k with
  | 0 => .object "EveningAuction$Town"
  | 1 => .object "EveningAuction$BidText"
  | 2 => .object "EveningAuction$Outcome"
  | 3 => .object "EveningAuction$Outcome"
  | 4 => .object "EveningAuction$OneEach"
  | 5 => .object "EveningAuction$Clubs"
  | 6 => .object "EveningAuction$Sightings"
  | 7 => .array (.object "EveningAuction$Sheet")
  | 8 => .int
  | _ => .int
theorem nmC7 : ∀ a, a < 10 → ∀ b, b < 10 → a ≠ b → (TC7 a).2.1 ≠ (TC7 b).2.1 := by decide +kernel
theorem okC7 : ∀ k, k < 10 → parseFieldDescriptor (TC7 k).2.2.1 = some (tyC7 k) := by decide +kernel
theorem inC7 : ∀ x ∈ u_ws RC7 TC7 10, x ∈ lw_g := by
  intro x hx
  obtain ⟨k, hk, rfl⟩ := List.mem_map.mp hx
  have hk := List.mem_range.mp hk
  match k, hk with
  | 0, _ => exact g_mem 209 (by decide +kernel) (by decide +kernel)
  | 1, _ => exact g_mem 211 (by decide +kernel) (by decide +kernel)
  | 2, _ => exact g_mem 213 (by decide +kernel) (by decide +kernel)
  | 3, _ => exact g_mem 215 (by decide +kernel) (by decide +kernel)
  | 4, _ => exact g_mem 217 (by decide +kernel) (by decide +kernel)
  | 5, _ => exact g_mem 219 (by decide +kernel) (by decide +kernel)
  | 6, _ => exact g_mem 221 (by decide +kernel) (by decide +kernel)
  | 7, _ => exact g_mem 223 (by decide +kernel) (by decide +kernel)
  | 8, _ => exact g_mem 225 (by decide +kernel) (by decide +kernel)
  | 9, _ => exact g_mem 227 (by decide +kernel) (by decide +kernel)
  | k + 10, h => exact absurd h (by omega)
def RC8 : String := "EveningAuctionModel"
def TC8 : u_T := fun k => match k with
  | 0 => ("EveningAuctionModel", "forms", "[I", true)
  | 1 => ("EveningAuctionModel", "sizes", "[I", true)
  | 2 => ("EveningAuctionModel", "items", "[I", true)
  | 3 => ("EveningAuctionModel", "moved", "[I", true)
  | 4 => ("EveningAuctionModel", "latest", "I", false)
  | 5 => ("EveningAuctionModel", "text", "[I", true)
  | 6 => ("EveningAuctionModel", "typed", "I", false)
  | 7 => ("EveningAuctionModel", "at", "I", false)
  | 8 => ("EveningAuctionModel", "bids", "I", false)
  | 9 => ("EveningAuctionModel", "bid", "[I", true)
  | 10 => ("EveningAuctionModel", "purses", "[I", true)
  | 11 => ("EveningAuctionModel", "programmes", "[I", true)
  | 12 => ("EveningAuctionModel", "values", "[I", true)
  | 13 => ("EveningAuctionModel", "joys", "[I", true)
  | 14 => ("EveningAuctionModel", "reserves", "[I", true)
  | 15 => ("EveningAuctionModel", "clouds", "[I", true)
  | 16 => ("EveningAuctionModel", "settings", "[I", true)
  | 17 => ("EveningAuctionModel", "busies", "[I", true)
  | 18 => ("EveningAuctionModel", "leads", "[I", true)
  | 19 => ("EveningAuctionModel", "holds", "[Z", true)
  | 20 => ("EveningAuctionModel", "firstNot", "I", false)
  | 21 => ("EveningAuctionModel", "most", "[I", true)
  | 22 => ("EveningAuctionModel", "sights", "I", false)
  | 23 => ("EveningAuctionModel", "seen", "[I", true)
  | 24 => ("EveningAuctionModel", "asSeen", "[I", true)
  | 25 => ("EveningAuctionModel", "whose", "[I", true)
  | 26 => ("EveningAuctionModel", "held", "[I", true)
  | 27 => ("EveningAuctionModel", "asked", "[I", true)
  | _ => ("EveningAuctionModel", "pick", "[I", true)
def tyC8 : Nat → FieldType := fun k => match k with
  | 0 => .array .int
  | 1 => .array .int
  | 2 => .array .int
  | 3 => .array .int
  | 4 => .int
  | 5 => .array .int
  | 6 => .int
  | 7 => .int
  | 8 => .int
  | 9 => .array .int
  | 10 => .array .int
  | 11 => .array .int
  | 12 => .array .int
  | 13 => .array .int
  | 14 => .array .int
  | 15 => .array .int
  | 16 => .array .int
  | 17 => .array .int
  | 18 => .array .int
  | 19 => .array .boolean
  | 20 => .int
  | 21 => .array .int
  | 22 => .int
  | 23 => .array .int
  | 24 => .array .int
  | 25 => .array .int
  | 26 => .array .int
  | 27 => .array .int
  | _ => .array .int
theorem nmC8 : ∀ a, a < 29 → ∀ b, b < 29 → a ≠ b → (TC8 a).2.1 ≠ (TC8 b).2.1 := by decide +kernel
theorem okC8 : ∀ k, k < 29 → parseFieldDescriptor (TC8 k).2.2.1 = some (tyC8 k) := by decide +kernel
theorem inC8 : ∀ x ∈ u_ws RC8 TC8 29, x ∈ lw_g := by
  intro x hx
  obtain ⟨k, hk, rfl⟩ := List.mem_map.mp hx
  have hk := List.mem_range.mp hk
  match k, hk with
  | 0, _ => exact g_mem 705 (by decide +kernel) (by decide +kernel)
  | 1, _ => exact g_mem 707 (by decide +kernel) (by decide +kernel)
  | 2, _ => exact g_mem 709 (by decide +kernel) (by decide +kernel)
  | 3, _ => exact g_mem 711 (by decide +kernel) (by decide +kernel)
  | 4, _ => exact g_mem 713 (by decide +kernel) (by decide +kernel)
  | 5, _ => exact g_mem 715 (by decide +kernel) (by decide +kernel)
  | 6, _ => exact g_mem 717 (by decide +kernel) (by decide +kernel)
  | 7, _ => exact g_mem 719 (by decide +kernel) (by decide +kernel)
  | 8, _ => exact g_mem 721 (by decide +kernel) (by decide +kernel)
  | 9, _ => exact g_mem 723 (by decide +kernel) (by decide +kernel)
  | 10, _ => exact g_mem 725 (by decide +kernel) (by decide +kernel)
  | 11, _ => exact g_mem 727 (by decide +kernel) (by decide +kernel)
  | 12, _ => exact g_mem 729 (by decide +kernel) (by decide +kernel)
  | 13, _ => exact g_mem 731 (by decide +kernel) (by decide +kernel)
  | 14, _ => exact g_mem 733 (by decide +kernel) (by decide +kernel)
  | 15, _ => exact g_mem 735 (by decide +kernel) (by decide +kernel)
  | 16, _ => exact g_mem 737 (by decide +kernel) (by decide +kernel)
  | 17, _ => exact g_mem 739 (by decide +kernel) (by decide +kernel)
  | 18, _ => exact g_mem 741 (by decide +kernel) (by decide +kernel)
  | 19, _ => exact g_mem 743 (by decide +kernel) (by decide +kernel)
  | 20, _ => exact g_mem 745 (by decide +kernel) (by decide +kernel)
  | 21, _ => exact g_mem 747 (by decide +kernel) (by decide +kernel)
  | 22, _ => exact g_mem 749 (by decide +kernel) (by decide +kernel)
  | 23, _ => exact g_mem 751 (by decide +kernel) (by decide +kernel)
  | 24, _ => exact g_mem 753 (by decide +kernel) (by decide +kernel)
  | 25, _ => exact g_mem 755 (by decide +kernel) (by decide +kernel)
  | 26, _ => exact g_mem 757 (by decide +kernel) (by decide +kernel)
  | 27, _ => exact g_mem 759 (by decide +kernel) (by decide +kernel)
  | 28, _ => exact g_mem 761 (by decide +kernel) (by decide +kernel)
  | k + 29, h => exact absurd h (by omega)
abbrev vwCl : List vw_C := [(RC0, TC0, 4), (RC1, TC1, 2), (RC2, TC2, 5), (RC3, TC3, 8), (RC4, TC4, 2), (RC5, TC5, 4), (RC6, TC6, 8), (RC7, TC7, 10), (RC8, TC8, 29)]
