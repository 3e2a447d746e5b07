/-- the reference's row of busy evenings, one of them set anew -/
def bset (B e v : Nat) : Nat := 2 ^ e * (2 * (B / 2 ^ e / 2) + v) + B % 2 ^ e
theorem bit_wr_dec : ∀ (e : Fin 10) (v : Fin 2) (B : Fin 1024), ((nI B.val &&& (((1 : Int32) <<< (nI e.val &&& 31)) ^^^ (-1))) ||| (nI v.val <<< (nI e.val &&& 31))) = nI (bset B.val e.val v.val) := by decide +kernel
