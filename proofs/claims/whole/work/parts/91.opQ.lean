theorem l16 {c : Nat} (hc : c ≤ 16) : ((16 : Int32) - nI c).toInt64 = lN (16 - c) := by
  rw [show (16 : Int32) = nI 16 from rfl, pk_sub hc, nI_l (by omega)]
theorem c_weight {h : Hp} {n z c : Nat} (hn : n ≤ 8) (e : h.1 5 8 = nI n) (hz : z < 2 ^ 31) (hc : c ≤ 16) : Ok (f_X7_weightOf h (nI z) (nI c)) (fun l => l = lN (wt c z n)) := by
  unfold f_X7_weightOf
  refine ok_fx2 (fun f l y => ∃ k, y = nI k ∧ k + f = n ∧ l = lN (wt c z k)) n (by omega) ⟨0, rfl, by omega, rfl⟩ ?_
  rintro f self l y ⟨k, rfl, hk, rfl⟩ ih
  rw [e]
  by_cases hf : f = 0
  · have ek : k = n := by omega
    rw [if_pos (nI_le (by omega) (by omega)), ek]
    exact ok_some rfl
  · have kN : k < n := by omega
    rw [if_neg (nI_ge kN (by omega)), lt1_if, nm_eq, nm_eq, show nI k + (1 : Int32) = nI (k + 1) from nI_1 k]
    refine ih (f - 1) _ _ (by omega) ⟨k + 1, rfl, by omega, ?_⟩
    have b := shb hz (show k < 31 by omega)
    rw [wt]
    by_cases q : z.testBit k = true
    · rw [if_pos (b.mpr q), if_pos q, nI_l (by omega), lN_mul]
    · rw [if_neg (fun t => q (b.mp t)), if_neg q, l16 hc, lN_mul]
theorem lsh {n : Nat} (hn : n ≤ 8) : (1 : Int64) <<< (((4 : Int32) * nI n).toInt64 &&& 63) = lN (2 ^ (4 * n)) := by
  rw [show (4 : Int32) = nI 4 from rfl, pk_mul, show (1 : Int64) = lN 1 from rfl, wb_shl _ (by omega), Nat.one_mul]
theorem c_chance {m h : Hp} {c k : Nat} (M : MOK m) (C : CR m h) (hc : c ≤ 16) (hk : k < nWk m) {a : Int32} (ha : inR a 0 1) : Ok (f_X7_chance h (nI c) (nI k) a) (fun u => u.2 = chV (inp m) c k a ∧ CR m u.1) := by
  have hN := nWk_le M
  have n8 := M.2.2.1.1
  have hI := inp_ok M
  have p8 : 2 ^ nEv m ≤ 2 ^ 8 := Nat.pow_le_pow_right (by decide) n8
  unfold f_X7_chance
  rw [w_16, bdr_some, if_pos (inR_nI (by omega) hc (by decide)), if_neg one_ne, cw_eq hN C.2.1.1, bdr_some, if_pos (isW_nI hN hk), if_neg one_ne, w_1, bdr_some, if_pos ha, if_neg one_ne]
  refine ok_bdv (c_weigh M C) (fun h4 H => ?_)
  obtain ⟨C4, O4⟩ := H
  have e8 : h4.1 5 8 = nI (nEv m) := C4.2.1.2.1
  rw [e8, lsh n8, nm_eq, show (1 : Int32) <<< (nI (nEv m) &&& 31) = nI (2 ^ nEv m) from bt_eq (by omega), lt1_eq]
  refine ok_fx2 (fun f l y => ∃ z, y = nI z ∧ z + f = 2 ^ nEv m ∧ l = lN (sumN (fun z => if ovP (inp m) k z then wt c z (nEv m) else 0) z)) (2 ^ nEv m) (by omega) ⟨0, rfl, by omega, rfl⟩ ?_
  rintro f self l y ⟨z, rfl, hz, rfl⟩ ih
  by_cases hf : f = 0
  · have ez : z = 2 ^ nEv m := by omega
    rw [if_pos (nI_le (by omega) (by omega)), ez]
    dsimp only
    rw [lt2_eq]
    have A62 : chA (inp m) c k < 2 ^ 62 := chA_lt hI hc
    show Ok (fx3 FU _ (lN (chA (inp m) c k)) (lN (2 ^ (4 * nEv m))) (0 : Int32)) _
    refine ok_fx3 (fun f l l2 y => ∃ x b, y = nI x ∧ x + f = 32 ∧ x ≤ 4 * nEv m ∧ l = lN b ∧ chA (inp m) c k = b * 2 ^ x ∧ l2 = lN (2 ^ (4 * nEv m - x))) 32 (by decide) ⟨0, chA (inp m) c k, rfl, rfl, by omega, rfl, by rw [Nat.pow_zero, Nat.mul_one], rfl⟩ ?_
    rintro f self l l2 y ⟨x, b, rfl, hx, hxK, rfl, hA, rfl⟩ ih
    have b62 : b < 2 ^ 62 := by
      have : 1 ≤ 2 ^ x := Nat.pow_pos (by decide)
      have : b * 1 ≤ b * 2 ^ x := Nat.mul_le_mul_left b this
      omega
    have pK : 2 ^ (4 * nEv m - x) ≤ 2 ^ 32 := Nat.pow_le_pow_right (by decide) (by omega)
    have fin : (x = 4 * nEv m ∨ b % 2 = 1) → Ok (if a = 0 then some (h4, lN b) else some (h4, lN (2 ^ (4 * nEv m - x)))) (fun u => u.2 = chV (inp m) c k a ∧ CR m u.1) := by
      intro hh
      obtain ⟨g1, g2⟩ := half_gcd hA hxK hh
      unfold chV
      refine ok_ite (fun q => ?_) (fun q => ?_)
      · rw [if_pos q]; exact ok_some ⟨congrArg lN g1.symm, C4⟩
      · rw [if_neg q]; exact ok_some ⟨congrArg lN g2.symm, C4⟩
    by_cases h32 : x = 32
    · rw [h32, if_pos (by decide), ← h32]
      exact fin (Or.inl (by omega))
    · rw [if_neg ((show ∀ x, x < 32 → ¬ (32 : Int32) ≤ nI x by decide +kernel) x (by omega))]
      by_cases h1 : x = 4 * nEv m
      · rw [if_pos ((lg_cmp_le (lN (2 ^ (4 * nEv m - x))) 1).mpr (by rw [h1, Nat.sub_self]; exact (pk_lLE (a := 1) (b := 1) (by decide) (by decide)).mpr (Nat.le_refl 1)))]
        exact fin (Or.inl h1)
      · have hgt : 1 < 2 ^ (4 * nEv m - x) := by
          have : (2 : Nat) ^ 1 ≤ 2 ^ (4 * nEv m - x) := Nat.pow_le_pow_right (by decide) (by omega)
          omega
        rw [if_neg (fun t => by
          have t2 := (pk_lLE (a := 2 ^ (4 * nEv m - x)) (b := 1) (by omega) (by decide)).mp ((lg_cmp_le _ _).mp t)
          omega)]
        rw [show (2 : Int64) = lN 2 from rfl, pk_lRem (show b < 2 ^ 63 by omega) (by decide) (by decide), pk_lDiv (show b < 2 ^ 63 by omega) (by decide) (by decide), pk_lDiv (show 2 ^ (4 * nEv m - x) < 2 ^ 63 by omega) (by decide) (by decide)]
        refine ok_ite (fun q => ?_) (fun q => ?_)
        · have q0 : b % 2 = 0 := (pk_lEQ (by omega) (by decide)).mp ((lg_cmp_eq _ _).mp q)
          rw [nm_eq, nm_eq, nm_eq, show nI x + (1 : Int32) = nI (x + 1) from nI_1 x]
          refine ih (f - 1) _ _ _ (by omega) ⟨x + 1, b / 2, rfl, by omega, by omega, rfl, ?_, ?_⟩
          · rw [hA, Nat.pow_succ, Nat.mul_comm (2 ^ x) 2, ← Nat.mul_assoc, show b / 2 * 2 = b by omega]
          · rw [show 4 * nEv m - x = 4 * nEv m - (x + 1) + 1 by omega, Nat.pow_succ, Nat.mul_div_cancel _ (by decide)]
        · refine fin (Or.inr ?_)
          have : ¬ b % 2 = 0 := fun t => q ((lg_cmp_eq _ _).mpr (by rw [t]; rfl))
          omega
  · have zl : z < 2 ^ nEv m := by omega
    rw [if_neg (nI_ge zl (by omega)), if_neg (nI_ge (show z < 256 by omega) (by decide)), ck_nI (by omega) (by decide), ia_nI (by omega)]
    simp only [lt1_eq, nm_eq]
    rw [show nI z + (1 : Int32) = nI (z + 1) from nI_1 z]
    have iff := O4 z zl k hk
    refine ok_ite (fun q => ?_) (fun q => ?_)
    · refine ok_bdr (c_weight n8 e8 (by omega) hc) (fun l hl => ?_)
      subst hl
      refine ih (f - 1) _ _ (by omega) ⟨z + 1, rfl, by omega, ?_⟩
      rw [sumN, if_pos (iff.mp q), lN_add]
    · refine ih (f - 1) _ _ (by omega) ⟨z + 1, rfl, by omega, ?_⟩
      rw [sumN, if_neg (fun t => q (iff.mpr t)), Nat.add_zero]
