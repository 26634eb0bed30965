/-! chance -/
theorem c_bits {i : Inp} {h : Hp} (hN : iN i ≤ 6) (R : ∀ k, k < iN i → h.1 (36 + 10) k = wst ((runF i 24).1.1 k)) : Ok (f_X2_bitsOfOver h 36 (nI (iN i))) (fun x => x = bitF (fun k => decide (wst ((runF i 24).1.1 k) = 2)) (iN i)) := by
  unfold f_X2_bitsOfOver
  refine ok_fx2 (fun f x y => ∃ k, y = nI k ∧ k + f = iN i ∧ x = bitF (fun k => decide (wst ((runF i 24).1.1 k) = 2)) k) (iN i) (by omega) ⟨0, rfl, by omega, rfl⟩ ?_
  rintro f self x y ⟨k, rfl, hk, rfl⟩ ih
  by_cases hf : f = 0
  · have e : k = iN i := by omega
    rw [if_pos (nI_le (by omega) (by omega)), e]
    exact ok_some rfl
  · have kN : k < iN i := by omega
    rw [if_neg (nI_ge kN (by omega)), if_neg (nI_lt6 (by omega)), ck_nI (by omega) (by decide), ia_nI (by omega), R k kN, lt1_if, nm_eq, nm_eq, show nI k + (1 : Int32) = nI (k + 1) from nI_1 k]
    refine ih (f - 1) _ _ (by omega) ⟨k + 1, rfl, by omega, ?_⟩
    rw [bitF]
    by_cases q : wst ((runF i 24).1.1 k) = 2
    · rw [if_pos q, if_pos (decide_eq_true q)]; rfl
    · rw [if_neg q, if_neg (fun t => q (of_decide_eq_true t)), or0]
