theorem bt_eq {a : Nat} (ha : a < 31) : bt a = nI (2 ^ a) := (show ∀ a, a < 31 → bt a = nI (2 ^ a) by decide +kernel) a ha
theorem shb {y a : Nat} (hy : y < 2 ^ 31) (ha : a < 31) : ((nI y >>> (nI a &&& 31)) &&& 1 = 1) ↔ y.testBit a = true := by
  rw [pk_shrN hy _ a ((show ∀ a, a < 31 → ((nI a &&& 31).toBitVec.smod 32).toNat = a by decide +kernel) a ha), pk_andN (Nat.lt_of_le_of_lt (Nat.div_le_self _ _) (by omega)) 1 (by decide), show (1 : Int32) = nI 1 from rfl, nI_eq (by omega) (by decide), Nat.testBit_eq_decide_div_mod_eq]
  simp
