/-! sees, who, bare -/
abbrev seP (i : Inp) (b : Nat) (p : Int32) (k : Nat) : Prop := stV i b k = 1 ∧ plV i b k = p
def seV (i : Inp) (b : Nat) (p : Int32) : Int32 := match (List.range (iN i)).find? (fun k => decide (seP i b p k)) with
  | none => -1
  | some k => nI k
theorem seV_some {i : Inp} {b k : Nat} {p : Int32} (hI : InOk i) (hk : k < iN i) (h : seP i b p k) : seV i b p = nI k := by
  have e : (List.range (iN i)).find? (fun k => decide (seP i b p k)) = some k := find_some hk (decide_eq_true h) (fun j hj => decide_eq_false (fun q => by
    have := run_one hI (b + 1) (show j < iN i by omega) hk q.1 h.1 (Eq.trans q.2 (Eq.symm h.2))
    omega))
  unfold seV; rw [e]
theorem seV_none {i : Inp} {b : Nat} {p : Int32} (h : ∀ k, k < iN i → ¬ seP i b p k) : seV i b p = -1 := by
  have e : (List.range (iN i)).find? (fun k => decide (seP i b p k)) = none := find_none (fun k hk => decide_eq_false (h k hk))
  unfold seV; rw [e]
def seesV (m : Hp) (a b : Int32) : Int32 := if inR a 0 23 then (if inR b 0 40 then seV (inp m) a.toNatClampNeg b else -2) else -2
theorem c_sees {m h : Hp} (M : MOK m) (C : CR m h) (a b : Int32) : Ok (f_X7_sees h a b) (fun u => u.2 = seesV m a b ∧ CR m u.1) := by
  have hN : iN (inp m) ≤ 6 := nWk_le M
  unfold f_X7_sees seesV
  rw [cb_eq, bdr_some]
  refine ok_w (fun r1 => ?_) (fun r1 => by rw [if_neg r1]; exact ok_some ⟨rfl, C⟩)
  rw [if_pos r1, w_40, bdr_some]
  refine ok_w (fun r2 => ?_) (fun r2 => by rw [if_neg r2]; exact ok_some ⟨rfl, C⟩)
  rw [if_pos r2]
  obtain ⟨y, -, hy, rfl⟩ := inR_ex r1 (by decide) (by decide)
  have y24 : y < 24 := by omega
  rw [nI_clamp (by omega)]
  refine ok_bnd (c_shown M C) (fun h4 c5 H => ?_)
  obtain ⟨rfl, C4, S4⟩ : c5 = 17 ∧ CR m h4 ∧ SH (inp m) h4 := H
  refine ok_cy (by decide) ?_
  refine ok_fx1 (fun f x => ∃ j, x = nI j ∧ j + f = iN (inp m) ∧ ∀ k, k < j → ¬ seP (inp m) y b k) (iN (inp m)) (by omega) ⟨0, rfl, by omega, fun k hk => by omega⟩ ?_
  rintro f self x ⟨j, rfl, hj, hn⟩ ih
  rw [C4.2.1.1]
  by_cases hf : f = 0
  · have ej : j = iN (inp m) := by omega
    rw [if_pos (nI_le (by omega) (by omega)), seV_none (fun k hk => hn k (by omega))]
    exact ok_some ⟨rfl, C4⟩
  · have jN : j < iN (inp m) := by omega
    have j6 : j < 6 := by omega
    obtain ⟨l1, l2, l3⟩ := (S4.2 y y24).1 j jN
    have go : ¬ seP (inp m) y b j → Ok (self (nI (j + 1))) (fun u => u.2 = seV (inp m) y b ∧ CR m u.1) := fun q => ih (f - 1) _ (by omega) ⟨j + 1, rfl, by omega, fun k hk => by
      by_cases e : k = j
      · rw [e]; exact q
      · exact hn k (by omega)⟩
    rw [if_neg (nI_ge jN (by omega)), sb_eq y24 j6, bdr_some, pb_eq y24 j6]
    simp only [lt1_eq, nm_eq, bdr_some]
    rw [show nI j + (1 : Int32) = nI (j + 1) from nI_1 j]
    refine ok_ite (fun q => ?_) (fun q => ?_)
    · refine ok_ite (fun q2 => ?_) (fun q2 => ?_)
      · rw [seV_some (inp_ok M) jN ⟨l1.symm.trans q, l2.symm.trans q2⟩]
        exact ok_some ⟨rfl, C4⟩
      · exact go (fun r => q2 (l2.trans r.2))
    · exact go (fun r => q (l1.trans r.1))
theorem m_seesBy {m h : Hp} {y : Nat} (M : MOK m) (e : h.1 68 7 = nI (iN (inp m))) (L : ML (inp m) h) (y24 : y < 24) (b : Int32) : Ok (f_X8_seesBy h (nI y) b) (fun x => x = seV (inp m) y b) := by
  have hN : iN (inp m) ≤ 6 := nWk_le M
  unfold f_X8_seesBy
  refine ok_fx2 (fun f x z => ∃ j, z = nI j ∧ j + f = iN (inp m) ∧ ((x = -1 ∧ ∀ k, k < j → ¬ seP (inp m) y b k) ∨ ∃ k, k < j ∧ seP (inp m) y b k ∧ x = nI k)) (iN (inp m)) (by omega) ⟨0, rfl, by omega, Or.inl ⟨rfl, fun k hk => by omega⟩⟩ ?_
  rintro f self x z ⟨j, rfl, hj, hx⟩ ih
  rw [e]
  by_cases hf : f = 0
  · have ej : j = iN (inp m) := by omega
    rw [if_pos (nI_le (by omega) (by omega))]
    rcases hx with ⟨rfl, hn⟩ | ⟨k, hk, hs, rfl⟩
    · exact ok_some (seV_none (fun k hk => hn k (by omega))).symm
    · exact ok_some (seV_some (inp_ok M) (by omega) hs).symm
  · have jN : j < iN (inp m) := by omega
    have j6 : j < 6 := by omega
    obtain ⟨l1, l2, l3⟩ := (L.2 y y24).1 j jN
    have go : ¬ seP (inp m) y b j → Ok (self x (nI (j + 1))) (fun x => x = seV (inp m) y b) := fun q => ih (f - 1) _ _ (by omega) ⟨j + 1, rfl, by omega, by
      rcases hx with ⟨h1, hn⟩ | ⟨k, hk, hs, h1⟩
      · exact Or.inl ⟨h1, fun k hk => by
          by_cases e : k = j
          · rw [e]; exact q
          · exact hn k (by omega)⟩
      · exact Or.inr ⟨k, by omega, hs, h1⟩⟩
    rw [if_neg (nI_ge jN (by omega)), e6]
    simp only [ck_nI (show 6 * y + j < 144 by omega) (show 144 < 2 ^ 31 by decide), ia_nI (show 6 * y + j < 2 ^ 31 by omega), l1, l2, lt1_eq, nm_eq]
    rw [show nI j + (1 : Int32) = nI (j + 1) from nI_1 j]
    refine ok_ite (fun q => ?_) (fun q => ?_)
    · refine ok_ite (fun q2 => ?_) (fun q2 => ?_)
      · exact ih (f - 1) _ _ (by omega) ⟨j + 1, rfl, by omega, Or.inr ⟨j, by omega, ⟨q, q2⟩, rfl⟩⟩
      · exact go (fun r => q2 r.2)
    · exact go (fun r => q r.1)
theorem op_sees {h : Hp} (I : Inv h) (a b : Int32) : Step (f_X7_sees h a b) (fun h1 => f_X8_sees h1 a b) := by
  obtain ⟨m, M, C, P⟩ := I
  refine comb P M (c_sees M C a b) (r_X7_sees h _ _) (fun h1 P1 => ?_) (fun h1 => r_X8_sees h1 _ _)
  unfold f_X8_sees seesV
  refine ok_bdv (m_find M P1) (fun h2 H2 => ?_)
  obtain ⟨T2, L2⟩ := H2
  rw [mb_eq, bdr_some]
  refine ok_w (fun r1 => ?_) (fun r1 => by rw [if_neg r1]; exact ok_some ⟨rfl, T2.1⟩)
  rw [if_pos r1, v_40, bdr_some]
  refine ok_w (fun r2 => ?_) (fun r2 => by rw [if_neg r2]; exact ok_some ⟨rfl, T2.1⟩)
  rw [if_pos r2]
  obtain ⟨y, -, hy, rfl⟩ := inR_ex r1 (by decide) (by decide)
  rw [nI_clamp (by omega)]
  exact ok_bdr (m_seesBy M T2.2.1.1 L2 (by omega) b) (fun x hx => ok_some ⟨hx, T2.1⟩)
/-- who is first over: (who, when), from the walkers below j -/
def fiF (i : Inp) : Nat → Int32 × Int32
  | 0 => (-1, 99)
  | j + 1 => if wst ((runF i 24).1.1 j) = 2 then (if (fiF i j).2 ≤ wen ((runF i 24).1.1 j) then fiF i j else (nI j, wen ((runF i 24).1.1 j))) else fiF i j
/-- who leaned the farthest -/
def faF (i : Inp) : Nat → Int32 × Int32
  | 0 => (-1, 0)
  | j + 1 => if wfa ((runF i 24).1.1 j) ≤ (faF i j).2 then faF i j else (nI j, wfa ((runF i 24).1.1 j))
theorem c_firstOver {m h4 : Hp} (M : MOK m) (C4 : CR m h4) (S4 : SH (inp m) h4) : Ok (f_X7_firstOver h4 17) (fun x => x = (fiF (inp m) (iN (inp m))).1) := by
  have hN : iN (inp m) ≤ 6 := nWk_le M
  unfold f_X7_firstOver
  refine ok_fx3 (fun f x y z => ∃ j, z = nI j ∧ j + f = iN (inp m) ∧ x = (fiF (inp m) j).1 ∧ ((y = 24 ∧ (fiF (inp m) j).2 = 99) ∨ y = (fiF (inp m) j).2)) (iN (inp m)) (by omega) ⟨0, rfl, by omega, rfl, Or.inl ⟨rfl, rfl⟩⟩ ?_
  rintro f self x y z ⟨j, rfl, hj, rfl, hy⟩ ih
  rw [C4.2.1.1]
  by_cases hf : f = 0
  · have ej : j = iN (inp m) := by omega
    rw [if_pos (nI_le (by omega) (by omega)), ← ej]
    exact ok_some rfl
  · have jN : j < iN (inp m) := by omega
    have j6 : j < 6 := by omega
    obtain ⟨l1, -, -, -, l5, -⟩ := S4.1.1 j jN
    have en := (run_qi (inp_ok M) 24 j jN).2
    rw [if_neg (nI_ge jN (by omega))]
    simp only [ck_nI j6 (show 6 < 2 ^ 31 by decide), ia_nI (show j < 2 ^ 31 by omega), l1, l5, lt2_eq, nm_eq]
    rw [show nI j + (1 : Int32) = nI (j + 1) from nI_1 j]
    refine ok_ite (fun q => ?_) (fun q => ?_)
    · obtain ⟨w, hw, ew⟩ := en q
      rw [ew]
      refine ok_ite (fun q2 => ?_) (fun q2 => ?_)
      · refine ih (f - 1) _ _ _ (by omega) ⟨j + 1, rfl, by omega, ?_, ?_⟩
        · rcases hy with ⟨rfl, h99⟩ | rfl
          · exact absurd q2 ((show ∀ w, w < 24 → ¬ (24 : Int32) ≤ nI w by decide +kernel) w hw)
          · rw [fiF, if_pos q, ew, if_pos q2]
        · rcases hy with ⟨rfl, h99⟩ | rfl
          · exact absurd q2 ((show ∀ w, w < 24 → ¬ (24 : Int32) ≤ nI w by decide +kernel) w hw)
          · rw [fiF, if_pos q, ew, if_pos q2]; exact Or.inr rfl
      · have q3 : ¬ (fiF (inp m) j).2 ≤ nI w := by
          rcases hy with ⟨rfl, h99⟩ | rfl
          · rw [h99]; exact (show ∀ w, w < 24 → ¬ (99 : Int32) ≤ nI w by decide +kernel) w hw
          · exact q2
        exact ih (f - 1) _ _ _ (by omega) ⟨j + 1, rfl, by omega, by rw [fiF, if_pos q, ew, if_neg q3], Or.inr (by rw [fiF, if_pos q, ew, if_neg q3])⟩
    · exact ih (f - 1) _ _ _ (by omega) ⟨j + 1, rfl, by omega, by rw [fiF, if_neg q], by rw [fiF, if_neg q]; exact hy⟩
theorem m_firstNow {i : Inp} {h : Hp} (hN : iN i ≤ 6) (e : h.1 68 7 = nI (iN i)) (L : ML i h) : Ok (f_X8_firstNow h) (fun x => x = (fiF i (iN i)).1) := by
  unfold f_X8_firstNow
  refine ok_fx3 (fun f x y z => ∃ j, z = nI j ∧ j + f = iN i ∧ x = (fiF i j).1 ∧ y = (fiF i j).2) (iN i) (by omega) ⟨0, rfl, by omega, rfl, rfl⟩ ?_
  rintro f self x y z ⟨j, rfl, hj, rfl, rfl⟩ ih
  rw [e]
  by_cases hf : f = 0
  · have ej : j = iN i := by omega
    rw [if_pos (nI_le (by omega) (by omega)), ← ej]
    exact ok_some rfl
  · have jN : j < iN i := by omega
    have j6 : j < 6 := by omega
    obtain ⟨l1, -, -, -, -, l5, -⟩ := L.1.1 j jN
    rw [if_neg (nI_ge jN (by omega))]
    simp only [ck_nI j6 (show 6 < 2 ^ 31 by decide), ia_nI (show j < 2 ^ 31 by omega), l1, l5, lt1_eq, nm_eq]
    rw [show nI j + (1 : Int32) = nI (j + 1) from nI_1 j]
    refine ok_ite (fun q => ?_) (fun q => ?_)
    · refine ok_ite (fun q2 => ?_) (fun q2 => ?_)
      · rw [if_pos trivial, if_pos trivial]
        exact ih (f - 1) _ _ _ (by omega) ⟨j + 1, rfl, by omega, by rw [fiF, if_pos q, if_pos q2], by rw [fiF, if_pos q, if_pos q2]⟩
      · rw [if_neg one_ne, if_neg one_ne]
        exact ih (f - 1) _ _ _ (by omega) ⟨j + 1, rfl, by omega, by rw [fiF, if_pos q, if_neg q2], by rw [fiF, if_pos q, if_neg q2]⟩
    · rw [if_pos trivial, if_pos trivial]
      exact ih (f - 1) _ _ _ (by omega) ⟨j + 1, rfl, by omega, by rw [fiF, if_neg q], by rw [fiF, if_neg q]⟩
theorem c_farthest {m h4 : Hp} (M : MOK m) (C4 : CR m h4) (S4 : SH (inp m) h4) : Ok (f_X7_farthestLeaning h4 17) (fun x => x = (faF (inp m) (iN (inp m))).1) := by
  have hN : iN (inp m) ≤ 6 := nWk_le M
  unfold f_X7_farthestLeaning
  refine ok_fx3 (fun f x y z => ∃ j, z = nI j ∧ j + f = iN (inp m) ∧ x = (faF (inp m) j).1 ∧ y = (faF (inp m) j).2) (iN (inp m)) (by omega) ⟨0, rfl, by omega, rfl, rfl⟩ ?_
  rintro f self x y z ⟨j, rfl, hj, rfl, rfl⟩ ih
  rw [C4.2.1.1]
  by_cases hf : f = 0
  · have ej : j = iN (inp m) := by omega
    rw [if_pos (nI_le (by omega) (by omega)), ← ej]
    exact ok_some rfl
  · have jN : j < iN (inp m) := by omega
    have j6 : j < 6 := by omega
    obtain ⟨-, -, -, -, -, -, l7⟩ := S4.1.1 j jN
    rw [if_neg (nI_ge jN (by omega))]
    simp only [ck_nI j6 (show 6 < 2 ^ 31 by decide), ia_nI (show j < 2 ^ 31 by omega), l7, lt2_eq, nm_eq]
    rw [show nI j + (1 : Int32) = nI (j + 1) from nI_1 j]
    refine ok_ite (fun q => ?_) (fun q => ?_)
    · exact ih (f - 1) _ _ _ (by omega) ⟨j + 1, rfl, by omega, by rw [faF, if_pos q], by rw [faF, if_pos q]⟩
    · exact ih (f - 1) _ _ _ (by omega) ⟨j + 1, rfl, by omega, by rw [faF, if_neg q], by rw [faF, if_neg q]⟩
theorem gr_eq (a b : Int32) : f_X8_greater a b = some (if a ≤ b then b else a) := by
  unfold f_X8_greater
  split <;> rfl
theorem m_worstNow {i : Inp} {h : Hp} (hN : iN i ≤ 6) (e : h.1 68 7 = nI (iN i)) (L : ML i h) : Ok (f_X8_worstNow h) (fun x => x = (faF i (iN i)).1) := by
  unfold f_X8_worstNow
  refine ok_fx3 (fun f x y z => ∃ j, z = nI j ∧ j + f = iN i ∧ x = (faF i j).1 ∧ y = (faF i j).2) (iN i) (by omega) ⟨0, rfl, by omega, rfl, rfl⟩ ?_
  rintro f self x y z ⟨j, rfl, hj, rfl, rfl⟩ ih
  rw [e]
  by_cases hf : f = 0
  · have ej : j = iN i := by omega
    rw [if_pos (nI_le (by omega) (by omega)), ← ej]
    exact ok_some rfl
  · have jN : j < iN i := by omega
    have j6 : j < 6 := by omega
    obtain ⟨-, -, -, -, -, -, -, l7⟩ := L.1.1 j jN
    rw [if_neg (nI_ge jN (by omega))]
    simp only [ck_nI j6 (show 6 < 2 ^ 31 by decide), ia_nI (show j < 2 ^ 31 by omega), l7, lt1_eq, nm_eq, gr_eq, bdr_some]
    rw [show nI j + (1 : Int32) = nI (j + 1) from nI_1 j]
    refine ok_ite (fun q => ?_) (fun q => ?_)
    · rw [if_pos q]
      exact ih (f - 1) _ _ _ (by omega) ⟨j + 1, rfl, by omega, by rw [faF, if_pos q], by rw [faF, if_pos q]⟩
    · rw [if_neg q]
      exact ih (f - 1) _ _ _ (by omega) ⟨j + 1, rfl, by omega, by rw [faF, if_neg q], by rw [faF, if_neg q]⟩
def whoV (m : Hp) (a : Int32) : Int32 := if inR a 0 1 then (if a = 0 then (fiF (inp m) (iN (inp m))).1 else (faF (inp m) (iN (inp m))).1) else -2
theorem c_who {m h : Hp} (M : MOK m) (C : CR m h) (a : Int32) : Ok (f_X7_who h a) (fun u => u.2 = whoV m a ∧ CR m u.1) := by
  unfold f_X7_who whoV
  rw [w_1, bdr_some]
  refine ok_w (fun r1 => ?_) (fun r1 => by rw [if_neg r1]; exact ok_some ⟨rfl, C⟩)
  rw [if_pos r1]
  refine ok_bnd (c_shown M C) (fun h4 c5 H => ?_)
  obtain ⟨rfl, C4, S4⟩ : c5 = 17 ∧ CR m h4 ∧ SH (inp m) h4 := H
  refine ok_cy (by decide) ?_
  refine ok_ite (fun q => ?_) (fun q => ?_)
  · rw [if_pos q]; exact ok_bdr (c_firstOver M C4 S4) (fun x H => ok_some ⟨H, C4⟩)
  · rw [if_neg q]; exact ok_bdr (c_farthest M C4 S4) (fun x H => ok_some ⟨H, C4⟩)
theorem op_who {h : Hp} (I : Inv h) (a : Int32) : Step (f_X7_who h a) (fun h1 => f_X8_who h1 a) := by
  obtain ⟨m, M, C, P⟩ := I
  refine comb P M (c_who M C a) (r_X7_who h _) (fun h1 P1 => ?_) (fun h1 => r_X8_who h1 _)
  unfold f_X8_who f_X8_whoBy whoV
  refine ok_bdv (m_find M P1) (fun h2 H2 => ?_)
  obtain ⟨T2, L2⟩ := H2
  rw [mt_eq, bdr_some]
  refine ok_w (fun r1 => ?_) (fun r1 => by rw [if_neg r1]; exact ok_some ⟨rfl, T2.1⟩)
  rw [if_pos r1]
  by_cases q : a = 0
  · rw [if_pos q, if_pos q]
    exact ok_bdr (ok_bdr (m_firstNow (i := inp m) (nWk_le M) T2.2.1.1 L2) (fun x hx => ok_some hx)) (fun x hx => ok_some ⟨hx, T2.1⟩)
  · rw [if_neg q, if_neg q]
    exact ok_bdr (ok_bdr (m_worstNow (i := inp m) (nWk_le M) T2.2.1.1 L2) (fun x hx => ok_some hx)) (fun x hx => ok_some ⟨hx, T2.1⟩)
def baF (i : Inp) : Nat → Int32
  | 0 => 0
  | b + 1 => baF i b + (if cntW (iN i) (runF i (b + 1)).1.1 1 = 0 then 1 else 0)
theorem c_bare {m h : Hp} (M : MOK m) (C : CR m h) : Ok (f_X7_bare h) (fun u => u.2 = baF (inp m) 24 ∧ CR m u.1) := by
  have hN : iN (inp m) ≤ 6 := nWk_le M
  unfold f_X7_bare
  refine ok_bnd (c_shown M C) (fun h4 c5 H => ?_)
  obtain ⟨rfl, C4, S4⟩ : c5 = 17 ∧ CR m h4 ∧ SH (inp m) h4 := H
  refine ok_cy (by decide) ?_
  refine ok_fx2 (fun f x y => ∃ b, y = nI b ∧ b + f = 24 ∧ x = baF (inp m) b) 24 (by decide) ⟨0, rfl, rfl, rfl⟩ ?_
  rintro f self x y ⟨b, rfl, hb, rfl⟩ ih
  by_cases hf : f = 0
  · have eb : b = 24 := by omega
    rw [eb, if_pos (by decide)]
    exact ok_some ⟨rfl, C4⟩
  · have b24 : b < 24 := by omega
    rw [if_neg ((show ∀ b, b < 24 → ¬ (24 : Int32) ≤ nI b by decide +kernel) b b24), lt1_eq]
    refine ok_fx2 (fun g x y => ∃ j, y = nI j ∧ j + g = iN (inp m) ∧ x = if cntW j (runF (inp m) (b + 1)).1.1 1 = 0 then 0 else 1) (iN (inp m)) (by omega) ⟨0, rfl, by omega, rfl⟩ ?_
    rintro g self2 x y ⟨j, rfl, hj, rfl⟩ ih2
    rw [C4.2.1.1]
    by_cases hg : g = 0
    · have ej : j = iN (inp m) := by omega
      rw [if_pos (nI_le (by omega) (by omega)), ej]
      dsimp only
      rw [lt1_if]
      simp only [nm_eq]
      rw [show nI b + (1 : Int32) = nI (b + 1) from nI_1 b]
      refine ih (f - 1) _ _ (by omega) ⟨b + 1, rfl, by omega, ?_⟩
      rw [baF]
      by_cases q : cntW (iN (inp m)) (runF (inp m) (b + 1)).1.1 1 = 0
      · rw [if_pos q, if_pos q]; rfl
      · rw [if_neg q, if_neg q]; rfl
    · have jN : j < iN (inp m) := by omega
      have j6 : j < 6 := by omega
      obtain ⟨l1, l2, l3⟩ := (S4.2 b b24).1 j jN
      rw [if_neg (nI_ge jN (by omega)), sb_eq b24 j6]
      simp only [lt1_eq, nm_eq, bdr_some]
      rw [show nI j + (1 : Int32) = nI (j + 1) from nI_1 j]
      have cs := cnt_succ j (runF (inp m) (b + 1)).1.1 1
      refine ok_ite (fun q => ?_) (fun q => ?_)
      · have q0 : cntW j (runF (inp m) (b + 1)).1.1 1 = 0 := by
          by_cases r : cntW j (runF (inp m) (b + 1)).1.1 1 = 0
          · exact r
          · rw [if_neg r] at q; exact absurd q one_ne
        refine ok_ite (fun q2 => ?_) (fun q2 => ?_)
        · refine ih2 (g - 1) _ _ (by omega) ⟨j + 1, rfl, by omega, ?_⟩
          rw [cs, if_pos (l1.symm.trans q2), if_neg (by omega)]
        · refine ih2 (g - 1) _ _ (by omega) ⟨j + 1, rfl, by omega, ?_⟩
          rw [cs, if_neg (fun r => q2 (l1.trans r)), q0, if_pos rfl]
      · have q0 : ¬ cntW j (runF (inp m) (b + 1)).1.1 1 = 0 := fun r => q (if_pos r)
        refine ih2 (g - 1) _ _ (by omega) ⟨j + 1, rfl, by omega, ?_⟩
        rw [cs, if_neg (by omega)]
theorem m_bareNow {i : Inp} {h : Hp} (hN : iN i ≤ 6) (e : h.1 68 7 = nI (iN i)) (L : ML i h) : Ok (f_X8_bareNow h) (fun x => x = baF i 24) := by
  unfold f_X8_bareNow
  refine ok_fx2 (fun f x y => ∃ b, y = nI b ∧ b + f = 24 ∧ x = baF i b) 24 (by decide) ⟨0, rfl, rfl, rfl⟩ ?_
  rintro f self x y ⟨b, rfl, hb, rfl⟩ ih
  by_cases hf : f = 0
  · have eb : b = 24 := by omega
    rw [eb, if_pos (by decide)]
    exact ok_some rfl
  · have b24 : b < 24 := by omega
    rw [if_neg ((show ∀ b, b < 24 → ¬ (24 : Int32) ≤ nI b by decide +kernel) b b24), lt1_eq]
    refine ok_fx2 (fun g x y => ∃ j, y = nI j ∧ j + g = iN i ∧ x = nI (cntW j (runF i (b + 1)).1.1 1)) (iN i) (by omega) ⟨0, rfl, by omega, rfl⟩ ?_
    rintro g self2 x y ⟨j, rfl, hj, rfl⟩ ih2
    rw [e]
    by_cases hg : g = 0
    · have ej : j = iN i := by omega
      rw [if_pos (nI_le (by omega) (by omega)), ej]
      dsimp only
      rw [lt1_if]
      simp only [nm_eq]
      rw [show nI b + (1 : Int32) = nI (b + 1) from nI_1 b]
      refine ih (f - 1) _ _ (by omega) ⟨b + 1, rfl, by omega, ?_⟩
      rw [baF]
      have le := cnt_le (iN i) (runF i (b + 1)).1.1 1
      by_cases q : cntW (iN i) (runF i (b + 1)).1.1 1 = 0
      · rw [if_pos q, q]; rfl
      · rw [if_neg q, if_neg (nI_ne0 (by omega) (by omega))]
    · have jN : j < iN i := by omega
      have j6 : j < 6 := by omega
      obtain ⟨l1, l2, l3⟩ := (L.2 b b24).1 j jN
      rw [if_neg (nI_ge jN (by omega)), e6, ck_nI (by omega) (by decide), ia_nI (by omega), l1, lt1_if]
      simp only [nm_eq]
      rw [show nI j + (1 : Int32) = nI (j + 1) from nI_1 j]
      refine ih2 (g - 1) _ _ (by omega) ⟨j + 1, rfl, by omega, ?_⟩
      rw [cnt_succ]
      split
      · exact nI_1 _
      · exact nI_add _ 0
theorem op_bare {h : Hp} (I : Inv h) : Step (f_X7_bare h) (fun h1 => f_X8_bare h1) := by
  obtain ⟨m, M, C, P⟩ := I
  refine comb P M (c_bare M C) (r_X7_bare h) (fun h1 P1 => ?_) (fun h1 => r_X8_bare h1)
  unfold f_X8_bare
  refine ok_bdv (m_find M P1) (fun h2 H2 => ?_)
  obtain ⟨T2, L2⟩ := H2
  exact ok_bdr (m_bareNow (i := inp m) (nWk_le M) T2.2.1.1 L2) (fun x hx => ok_some ⟨hx, T2.1⟩)
