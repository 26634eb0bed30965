/-- the bits of those below n that F takes -/
def bitF (F : Nat → Bool) : Nat → Int32
  | 0 => 0
  | e + 1 => if F e = true then bitF F e ||| bt e else bitF F e
theorem bitF_nat (F : Nat → Bool) : ∀ n, n ≤ 30 → ∃ y, y < 2 ^ n ∧ bitF F n = nI y ∧ ∀ a, y.testBit a = (decide (a < n) && F a)
  | 0, _ => ⟨0, by decide, rfl, fun a => by simp⟩
  | n + 1, hn => by
    obtain ⟨y, hy, ey, hb⟩ := bitF_nat F n (by omega)
    rw [bitF]
    by_cases q : F n = true
    · rw [if_pos q, ey, bt_eq (by omega), fa_or]
      refine ⟨_, Nat.or_lt_two_pow (by rw [Nat.pow_succ]; omega) (Nat.pow_lt_pow_right (by decide) (by omega)), rfl, fun a => ?_⟩
      rw [fb_bit_set, hb]
      by_cases e : a = n
      · subst e; simp [q]
      · have : decide (a < n + 1) = decide (a < n) := by rw [decide_eq_decide]; omega
        simp [e, this]
    · rw [if_neg q]
      refine ⟨y, by rw [Nat.pow_succ]; omega, ey, fun a => ?_⟩
      rw [hb]
      by_cases e : a = n
      · subst e; simp [q]
      · have : decide (a < n + 1) = decide (a < n) := by rw [decide_eq_decide]; omega
        simp [this]
theorem bitF_get {F : Nat → Bool} {n a : Nat} (hn : n ≤ 30) (ha : a < n) : ((bitF F n >>> (nI a &&& 31)) &&& 1 = 1) ↔ F a = true := by
  obtain ⟨y, hy, ey, hb⟩ := bitF_nat F n hn
  have : (2 : Nat) ^ n ≤ 2 ^ 30 := Nat.pow_le_pow_right (by decide) hn
  rw [ey, shb (by omega) (by omega), hb]
  simp [ha]
