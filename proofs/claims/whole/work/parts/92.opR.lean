theorem m_part {A B : Nat} (hA : A < 2 ^ 62) (hB : B ≤ 2 ^ 32) (B0 : 0 < B) (a : Int32) : Ok (f_X8_part (lN A) (lN B) a) (fun l => l = lN ((if a = 0 then A else B) / Nat.gcd A B)) := by
  unfold f_X8_part
  rw [lt1_eq]
  refine ok_fx2 (fun f l l2 => ∃ x y n, l = lN x ∧ l2 = lN y ∧ x < 2 ^ 63 ∧ y < 2 ^ 63 ∧ Nat.gcd x y = Nat.gcd A B ∧ ((f = 2 * n ∧ y < 2 ^ n) ∨ (f + 1 = 2 * n ∧ (y = 0 ∨ x % y < 2 ^ (n - 1)) ∧ 0 < n))) 66 (by decide) ⟨A, B, 33, rfl, rfl, by omega, by omega, rfl, Or.inl ⟨rfl, by omega⟩⟩ ?_
  rintro f self l l2 ⟨x, y, n, rfl, rfl, hx, hy, hg, hm⟩ ih
  by_cases y0 : y = 0
  · subst y0
    rw [if_pos ((lg_cmp_eq (lN 0) 0).mpr rfl)]
    rw [Nat.gcd_zero_right] at hg
    have gp : 0 < Nat.gcd A B := Nat.gcd_pos_of_pos_right A B0
    have x0 : ¬ lN x = 0 := fun t => by
      have := (pk_lEQ (a := x) (b := 0) hx (by decide)).mp t
      omega
    refine ok_ite (fun q => ?_) (fun q => ?_)
    · refine ok_cn x0 ?_
      rw [if_pos q, pk_lDiv (by omega) (by omega) hx, hg]
      exact ok_some rfl
    · refine ok_cn x0 ?_
      rw [if_neg q, pk_lDiv (by omega) (by omega) hx, hg]
      exact ok_some rfl
  · have yn : ¬ lN y = 0 := fun t => y0 ((pk_lEQ (a := y) (b := 0) hy (by decide)).mp t)
    rw [if_neg (fun t => yn ((lg_cmp_eq _ _).mp t))]
    refine ok_cn yn ?_
    rw [nm_eq, pk_lRem hx (by omega) hy]
    have rl : x % y < y := Nat.mod_lt _ (by omega)
    have hg' : Nat.gcd y (x % y) = Nat.gcd A B := by rw [← hg, Nat.gcd_comm y, ← Nat.gcd_rec, Nat.gcd_comm]
    rcases hm with ⟨rfl, hyn⟩ | ⟨hf, hr, n0⟩
    · have n0 : 0 < n := by
        apply Nat.pos_of_ne_zero
        rintro rfl
        simp at hyn
        omega
      refine ih (2 * n - 1) _ _ (by omega) ⟨y, x % y, n, rfl, rfl, hy, by omega, hg', Or.inr ⟨by omega, ?_, n0⟩⟩
      by_cases r0 : x % y = 0
      · exact Or.inl r0
      · refine Or.inr ?_
        have e2 : (2 : Nat) ^ n = 2 * 2 ^ (n - 1) := by
          rw [← Nat.pow_succ']
          congr 1
          omega
        have rr : y % (x % y) < x % y := Nat.mod_lt _ (by omega)
        by_cases hh : 2 * (x % y) ≤ y
        · omega
        · have : y % (x % y) = y - x % y := by
            rw [Nat.mod_eq_sub_mod (by omega), Nat.mod_eq_of_lt (by omega)]
          omega
    · rcases hr with r | r
      · exact absurd r y0
      · exact ih (2 * (n - 1)) _ _ (by omega) ⟨y, x % y, n - 1, rfl, rfl, hy, by omega, hg', Or.inl ⟨rfl, r⟩⟩
theorem ifl (c : Prop) [Decidable c] : (if c then (1 : Int64) else 0) = lN (if c then 1 else 0) := by
  split <;> rfl
theorem m_chanceOf {m h : Hp} {c k : Nat} (M : MOK m) (T : MT m h) (hc : c ≤ 16) (hk : k < nWk m) (a : Int32) : Ok (f_X8_chanceOf h (nI c) (nI k) a) (fun u => u.2 = chV (inp m) c k a ∧ MT m u.1) := by
  have hN := nWk_le M
  have n8 := M.2.2.1.1
  have hI := inp_ok M
  have k6 : k < 6 := by omega
  have p8 : 2 ^ nEv m ≤ 2 ^ 8 := Nat.pow_le_pow_right (by decide) n8
  unfold f_X8_chanceOf
  rw [lt2_eq]
  refine ok_fx3 (fun f h1 l y => ∃ z, y = nI z ∧ z + f = 2 ^ nEv m ∧ MG m h1 ∧ l = lN (sumN (fun z => if wst ((runF (wWo (inp m) (nI z)) 24).1.1 k) = 2 then wu c z (nEv m) else 0) z)) (2 ^ nEv m) (by omega) ⟨0, rfl, by omega, mg_of M T, rfl⟩ ?_
  rintro f self h1 l y ⟨z, rfl, hz, G, rfl⟩ ih
  rw [mg_12 G, show (1 : Int32) <<< (nI (nEv m) &&& 31) = nI (2 ^ nEv m) from bt_eq (by omega)]
  by_cases hf : f = 0
  · have ez : z = 2 ^ nEv m := by omega
    rw [if_pos (nI_le (by omega) (by omega)), ez]
    dsimp only
    rw [nm_eq, show (uf h1 68 14 0).1 68 12 = nI (nEv m) from G.2.1.2.1, lsh n8]
    have eA : sumN (fun z => if wst ((runF (wWo (inp m) (nI z)) 24).1.1 k) = 2 then wu c z (nEv m) else 0) (2 ^ nEv m) = chA (inp m) c k := (chA_rev hI).symm
    rw [eA]
    exact ok_bdr (m_part (B := chB (inp m)) (chA_lt hI hc) (chB_le hI).1 (chB_le hI).2 a) (fun l hl => ok_some ⟨hl, G⟩)
  · have zl : z < 2 ^ nEv m := by omega
    rw [if_neg (nI_ge zl (by omega)), nm_eq]
    refine ok_bdv (p_lives (ok_wWo hI _) (mg_tm G (nI z))) (fun h9 H => ?_)
    obtain ⟨R, -, K⟩ := H
    have G9 : MG m h9 := mg_km M G K
    rw [ck_nI k6 (by decide), ia_nI (by omega), show h9.1 79 k = wst ((runF (wWo (inp m) (nI z)) 24).1.1 k) from (R.1 k hk).1, lt1_if, lt1_eq]
    rw [ifl]
    refine ok_fx2 (fun g l y => ∃ e, y = nI e ∧ e + g = nEv m ∧ l = lN ((if wst ((runF (wWo (inp m) (nI z)) 24).1.1 k) = 2 then 1 else 0) * wu c z e)) (nEv m) (by omega) ⟨0, rfl, by omega, by rw [wu, Nat.mul_one]⟩ ?_
    rintro g self2 l y ⟨e, rfl, he, rfl⟩ ih2
    rw [mg_12 G9]
    by_cases hg : g = 0
    · have ee : e = nEv m := by omega
      rw [if_pos (nI_le (by omega) (by omega)), ee]
      dsimp only
      rw [nm_eq, nm_eq, show nI z + (1 : Int32) = nI (z + 1) from nI_1 z, lN_add]
      refine ih (f - 1) _ _ _ (by omega) ⟨z + 1, rfl, by omega, G9, ?_⟩
      rw [sumN]
      by_cases q : wst ((runF (wWo (inp m) (nI z)) 24).1.1 k) = 2
      · rw [if_pos q, if_pos q, Nat.one_mul]
      · rw [if_neg q, if_neg q, Nat.zero_mul]
    · have en : e < nEv m := by omega
      rw [if_neg (nI_ge en (by omega)), isIn_eq, bdr_some]
      have b := shb (y := z) (show z < 2 ^ 31 by omega) (show e < 31 by omega)
      simp only [lt1_eq, nm_eq]
      rw [show nI e + (1 : Int32) = nI (e + 1) from nI_1 e]
      refine ok_w (fun q => ?_) (fun q => ?_)
      · refine ih2 (g - 1) _ _ (by omega) ⟨e + 1, rfl, by omega, ?_⟩
        rw [l16 hc, lN_mul, wu, if_pos (b.mp q), Nat.mul_assoc]
      · refine ih2 (g - 1) _ _ (by omega) ⟨e + 1, rfl, by omega, ?_⟩
        rw [nI_l (by omega), lN_mul, wu, if_neg (fun t => q (b.mpr t)), Nat.mul_assoc]
theorem op_chance {h : Hp} (I : Inv h) (a b c : Int32) : Step (f_X7_chance h a b c) (fun h1 => f_X8_chance h1 a b c) := by
  obtain ⟨m, M, C, P⟩ := I
  have hN := nWk_le M
  by_cases r1 : inR a 0 16
  · by_cases r2 : isW (nWk m) b
    · by_cases r3 : inR c 0 1
      · obtain ⟨x, -, hx, rfl⟩ := inR_ex r1 (by decide) (by decide)
        obtain ⟨k, hk, rfl⟩ := isW_ex hN r2
        refine comb P M (c_chance M C hx hk r3) (r_X7_chance h _ _ _) (fun h1 P1 => ?_) (fun h1 => r_X8_chance h1 _ _ _)
        unfold f_X8_chance
        refine ok_bdv (m_find M P1) (fun h2 H2 => ?_)
        rw [v_16, bdr_some, lt1_eq, if_pos r1, if_neg one_ne, mw_eq H2.1.2.1.1, bdr_some, if_pos (show isW (iN (inp m)) (nI k) from r2), if_neg one_ne, mt_eq, bdr_some, if_pos r3, if_neg one_ne]
        exact ok_bnd (m_chanceOf M H2.1 hx hk c) (fun h1 x H => ok_some ⟨H.1, H.2.1⟩)
      · refine comb (v := -9223372036854775806) P M ?_ (r_X7_chance h _ _ _) (fun h1 P1 => ?_) (fun h1 => r_X8_chance h1 _ _ _)
        · unfold f_X7_chance
          rw [w_16, bdr_some, if_pos r1, if_neg one_ne, cw_eq hN C.2.1.1, bdr_some, if_pos r2, if_neg one_ne, w_1, bdr_some, if_neg r3, if_pos rfl]
          exact ok_some ⟨rfl, C⟩
        · unfold f_X8_chance f_X8_no
          refine ok_bdv (m_find M P1) (fun h2 H2 => ?_)
          rw [v_16, bdr_some, lt1_eq, if_pos r1, if_neg one_ne, mw_eq H2.1.2.1.1, bdr_some, if_pos (show isW (iN (inp m)) b from r2), if_neg one_ne, mt_eq, bdr_some, if_neg r3, if_pos rfl]
          exact ok_some ⟨show (-9223372036854775808 : Int64) - (-2 : Int32).toInt64 = -9223372036854775806 by decide, H2.1.1⟩
    · refine comb (v := -9223372036854775806) P M ?_ (r_X7_chance h _ _ _) (fun h1 P1 => ?_) (fun h1 => r_X8_chance h1 _ _ _)
      · unfold f_X7_chance
        rw [w_16, bdr_some, if_pos r1, if_neg one_ne, cw_eq hN C.2.1.1, bdr_some, if_neg r2, if_pos rfl]
        exact ok_some ⟨rfl, C⟩
      · unfold f_X8_chance f_X8_no
        refine ok_bdv (m_find M P1) (fun h2 H2 => ?_)
        rw [v_16, bdr_some, lt1_eq, if_pos r1, if_neg one_ne, mw_eq H2.1.2.1.1, bdr_some, if_neg (show ¬ isW (iN (inp m)) b from r2), if_pos rfl]
        exact ok_some ⟨show (-9223372036854775808 : Int64) - (-2 : Int32).toInt64 = -9223372036854775806 by decide, H2.1.1⟩
  · refine comb (v := -9223372036854775806) P M ?_ (r_X7_chance h _ _ _) (fun h1 P1 => ?_) (fun h1 => r_X8_chance h1 _ _ _)
    · unfold f_X7_chance
      rw [w_16, bdr_some, if_neg r1, if_pos rfl]
      exact ok_some ⟨rfl, C⟩
    · unfold f_X8_chance f_X8_no
      refine ok_bdv (m_find M P1) (fun h2 H2 => ?_)
      rw [v_16, bdr_some, lt1_eq, if_neg r1, if_pos rfl]
      exact ok_some ⟨show (-9223372036854775808 : Int64) - (-2 : Int32).toInt64 = -9223372036854775806 by decide, H2.1.1⟩
