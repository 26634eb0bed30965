/-! the show that is asked for: at, lean, sway, ends, sum -/
theorem c_shown {m h : Hp} (M : MOK m) (C : CR m h) : Ok (f_X7_shown h) (fun u => u.2 = 17 ∧ CR m u.1 ∧ SH (inp m) u.1) := by
  unfold f_X7_shown
  by_cases q : h.1 0 11 = 0
  · rw [if_pos q]
    obtain ⟨h1, e1, H⟩ := p_play (i := inp m) (S := 17) (mc := 9) (h := h) (wo := 0) (a4 := 1) (inp_ok M) (by decide) (by decide) (by decide) rfl C.2.1
    have F : FI 17 36 h h1 := r_X2_play h 17 9 0 1 h1 e1
    rw [e1, bdv_some, nm_eq]
    have sh : SH (inp m) (uf h1 0 11 1) := by
      have : SH (inp m) h1 := H.2 one_ne
      exact this.ke (fun c q r => uf_ne (by omega))
    have f : ∀ c, c ≠ 0 → ¬ (17 ≤ c ∧ c < 36) → (uf h1 0 11 1).1 c = h.1 c := fun c q r => by rw [uf_ne q]; exact (F c r).1
    have f0 : ∀ z, z ≠ 11 → (uf h1 0 11 1).1 0 z = h.1 0 z := fun z q => by rw [uf_get, if_neg (fun r => q r.2), (F 0 (by decide)).1]
    obtain ⟨c1, c2, c3, c4, c5, c6, c7⟩ := C
    refine ok_some ⟨rfl, ⟨c1.ke (fun c q r => f c (by omega) (by omega)), c2.ke (fun c q r => f c (by omega) (by omega)) (f 9 (by decide) (by decide)), c3.ke (fun c q r => f c (by omega) (by omega)), c4.ke (fun c q r => f c (by omega) (by omega)), (f0 15 (by decide)).trans c5, Or.inr sh, ?_⟩, sh⟩
    show (uf h1 0 11 1).1 0 12 = 0 ∨ OD (inp m) (uf h1 0 11 1)
    rw [f0 12 (by decide)]
    exact c7.imp id (fun s z hz k hk => by rw [f 56 (by decide) (by decide)]; exact s z hz k hk)
  · rw [if_neg q]
    exact ok_some ⟨rfl, C, C.2.2.2.2.2.1.resolve_left q⟩
theorem sb_eq {h : Hp} {S b k : Nat} (hb : b < 24) (hk : k < 6) : f_X0_stateBehind h S (nI b) (nI k) = some (h.1 (S + 1) (6 * b + k)) := by
  have r : 6 * b + k < 144 := by omega
  unfold f_X0_stateBehind
  rw [row_eq hb hk, bdr_some, if_neg ((show ∀ r, r < 144 → ¬ nI r = -1 by decide +kernel) _ r), ck_nI r (by decide), ia_nI (by omega)]
theorem pb_eq {h : Hp} {S b k : Nat} (hb : b < 24) (hk : k < 6) : f_X0_placeBehind h S (nI b) (nI k) = some (h.1 (S + 2) (6 * b + k)) := by
  have r : 6 * b + k < 144 := by omega
  unfold f_X0_placeBehind
  rw [row_eq hb hk, bdr_some, if_neg ((show ∀ r, r < 144 → ¬ nI r = -1 by decide +kernel) _ r), ck_nI r (by decide), ia_nI (by omega)]
theorem lb_eq {h : Hp} {S b k : Nat} (hb : b < 24) (hk : k < 6) : f_X0_leanBehind h S (nI b) (nI k) = some (h.1 (S + 3) (6 * b + k)) := by
  have r : 6 * b + k < 144 := by omega
  unfold f_X0_leanBehind
  rw [row_eq hb hk, bdr_some, if_neg ((show ∀ r, r < 144 → ¬ nI r = -1 by decide +kernel) _ r), ck_nI r (by decide), ia_nI (by omega)]
theorem e6 (b k : Nat) : (6 : Int32) * nI b + nI k = nI (6 * b + k) := by rw [show (6 : Int32) = nI 6 from rfl, pk_mul, nI_add]
def stV (i : Inp) (b k : Nat) : Int32 := wst ((runF i (b + 1)).1.1 k)
def plV (i : Inp) (b k : Nat) : Int32 := wpl ((runF i (b + 1)).1.1 k)
def leV (i : Inp) (b k : Nat) : Int32 := wle ((runF i (b + 1)).1.1 k)
def swV (i : Inp) (b : Nat) : Int32 := swayF i b (runF i b).2
def atV (m : Hp) (a b c : Int32) : Int32 := if inR a 0 23 then (if isW (nWk m) b then (if inR c 0 1 then (if c = 0 then stV (inp m) a.toNatClampNeg b.toNatClampNeg else plV (inp m) a.toNatClampNeg b.toNatClampNeg) else -2) else -2) else -2
theorem c_at {m h : Hp} (M : MOK m) (C : CR m h) (a b c : Int32) : Ok (f_X7_at h a b c) (fun u => u.2 = atV m a b c ∧ CR m u.1) := by
  unfold f_X7_at atV
  rw [cb_eq, bdr_some]
  refine ok_w (fun r1 => ?_) (fun r1 => by rw [if_neg r1]; exact ok_some ⟨rfl, C⟩)
  rw [if_pos r1, cw_eq (nWk_le M) C.2.1.1, bdr_some]
  refine ok_w (fun r2 => ?_) (fun r2 => by rw [if_neg r2]; exact ok_some ⟨rfl, C⟩)
  rw [if_pos r2, w_1, bdr_some]
  refine ok_w (fun r3 => ?_) (fun r3 => by rw [if_neg r3]; exact ok_some ⟨rfl, C⟩)
  rw [if_pos r3]
  obtain ⟨y, -, hy, rfl⟩ := inR_ex r1 (by decide) (by decide)
  obtain ⟨k, hk, rfl⟩ := isW_ex (nWk_le M) r2
  have k6 : k < 6 := by have := nWk_le M; omega
  refine ok_bnd (c_shown M C) (fun h4 c5 H => ?_)
  obtain ⟨rfl, C4, S4⟩ := H
  refine ok_cy (by decide) ?_
  obtain ⟨l1, l2, l3⟩ := (S4.2 y (by omega)).1 k hk
  rw [nI_clamp (by omega), nI_clamp (by omega), sb_eq (by omega) k6, pb_eq (by omega) k6]
  refine ok_ite (fun q => ?_) (fun q => ?_)
  · rw [if_pos q]; exact ok_some ⟨l1, C4⟩
  · rw [if_neg q]; exact ok_some ⟨l2, C4⟩
theorem op_at {h : Hp} (I : Inv h) (a b c : Int32) : Step (f_X7_at h a b c) (fun h1 => f_X8_at h1 a b c) := by
  obtain ⟨m, M, C, P⟩ := I
  refine comb P M (c_at M C a b c) (r_X7_at h _ _ _) (fun h1 P1 => ?_) (fun h1 => r_X8_at h1 _ _ _)
  unfold f_X8_at atV
  refine ok_bdv (m_find M P1) (fun h2 H2 => ?_)
  obtain ⟨T2, L2⟩ := H2
  rw [mb_eq, bdr_some]
  refine ok_w (fun r1 => ?_) (fun r1 => by rw [if_neg r1]; exact ok_some ⟨rfl, T2.1⟩)
  rw [if_pos r1, mw_eq T2.2.1.1, bdr_some]
  refine ok_w (fun r2 => ?_) (fun r2 => by rw [if_neg (show ¬ isW (nWk m) b from r2)]; exact ok_some ⟨rfl, T2.1⟩)
  rw [if_pos (show isW (nWk m) b from r2), mt_eq, bdr_some]
  refine ok_w (fun r3 => ?_) (fun r3 => by rw [if_neg r3]; exact ok_some ⟨rfl, T2.1⟩)
  rw [if_pos r3]
  obtain ⟨y, -, hy, rfl⟩ := inR_ex r1 (by decide) (by decide)
  obtain ⟨k, hk, rfl⟩ := isW_ex (nWk_le M) r2
  have k6 : k < 6 := by have : nWk m ≤ 6 := nWk_le M; have : k < nWk m := hk; omega
  obtain ⟨l1, l2, l3⟩ := (L2.2 y (by omega)).1 k hk
  rw [nI_clamp (by omega), nI_clamp (by omega), e6, ck_nI (by omega) (by decide), ck_nI (by omega) (by decide), ia_nI (by omega), ia_nI (by omega)]
  refine ok_ite (fun q => ?_) (fun q => ?_)
  · rw [if_pos q]; exact ok_some ⟨l1, T2.1⟩
  · rw [if_neg q]; exact ok_some ⟨l2, T2.1⟩
def lnV (m : Hp) (a b : Int32) : Int32 := if inR a 0 23 then (if isW (nWk m) b then leV (inp m) a.toNatClampNeg b.toNatClampNeg else -2147483648) else -2147483648
theorem c_lean {m h : Hp} (M : MOK m) (C : CR m h) (a b : Int32) : Ok (f_X7_lean h a b) (fun u => u.2 = lnV m a b ∧ CR m u.1) := by
  unfold f_X7_lean lnV
  rw [cb_eq, bdr_some]
  refine ok_w (fun r1 => ?_) (fun r1 => by rw [if_neg r1]; exact ok_some ⟨rfl, C⟩)
  rw [if_pos r1, cw_eq (nWk_le M) C.2.1.1, bdr_some]
  refine ok_w (fun r2 => ?_) (fun r2 => by rw [if_neg r2]; exact ok_some ⟨rfl, C⟩)
  rw [if_pos r2]
  obtain ⟨y, -, hy, rfl⟩ := inR_ex r1 (by decide) (by decide)
  obtain ⟨k, hk, rfl⟩ := isW_ex (nWk_le M) r2
  have k6 : k < 6 := by have := nWk_le M; omega
  refine ok_bnd (c_shown M C) (fun h4 c5 H => ?_)
  obtain ⟨rfl, C4, S4⟩ := H
  refine ok_cy (by decide) ?_
  obtain ⟨l1, l2, l3⟩ := (S4.2 y (by omega)).1 k hk
  rw [nI_clamp (by omega), nI_clamp (by omega), lb_eq (by omega) k6]
  exact ok_some ⟨l3, C4⟩
theorem op_lean {h : Hp} (I : Inv h) (a b : Int32) : Step (f_X7_lean h a b) (fun h1 => f_X8_lean h1 a b) := by
  obtain ⟨m, M, C, P⟩ := I
  refine comb P M (c_lean M C a b) (r_X7_lean h _ _) (fun h1 P1 => ?_) (fun h1 => r_X8_lean h1 _ _)
  unfold f_X8_lean lnV
  refine ok_bdv (m_find M P1) (fun h2 H2 => ?_)
  obtain ⟨T2, L2⟩ := H2
  rw [mb_eq, bdr_some]
  refine ok_w (fun r1 => ?_) (fun r1 => by rw [if_neg r1]; exact ok_some ⟨rfl, T2.1⟩)
  rw [if_pos r1, mw_eq T2.2.1.1, bdr_some]
  refine ok_w (fun r2 => ?_) (fun r2 => by rw [if_neg (show ¬ isW (nWk m) b from r2)]; exact ok_some ⟨rfl, T2.1⟩)
  rw [if_pos (show isW (nWk m) b from r2)]
  obtain ⟨y, -, hy, rfl⟩ := inR_ex r1 (by decide) (by decide)
  obtain ⟨k, hk, rfl⟩ := isW_ex (nWk_le M) r2
  have k6 : k < 6 := by have : nWk m ≤ 6 := nWk_le M; have : k < nWk m := hk; omega
  obtain ⟨l1, l2, l3⟩ := (L2.2 y (by omega)).1 k hk
  rw [nI_clamp (by omega), nI_clamp (by omega), e6, ck_nI (by omega) (by decide), ia_nI (by omega)]
  exact ok_some ⟨l3, T2.1⟩
def swyV (m : Hp) (a : Int32) : Int32 := if inR a 0 23 then swV (inp m) a.toNatClampNeg else -2147483648
theorem c_sway {m h : Hp} (M : MOK m) (C : CR m h) (a : Int32) : Ok (f_X7_sway h a) (fun u => u.2 = swyV m a ∧ CR m u.1) := by
  unfold f_X7_sway swyV
  rw [cb_eq, bdr_some]
  refine ok_w (fun r1 => ?_) (fun r1 => by rw [if_neg r1]; exact ok_some ⟨rfl, C⟩)
  rw [if_pos r1]
  obtain ⟨y, -, hy, rfl⟩ := inR_ex r1 (by decide) (by decide)
  refine ok_bnd (c_shown M C) (fun h4 c5 H => ?_)
  obtain ⟨rfl, C4, S4⟩ := H
  refine ok_cy (by decide) ?_
  rw [nI_clamp (by omega), ck_nI (by omega) (by decide), ia_nI (by omega)]
  exact ok_some ⟨(S4.2 y (by omega)).2, C4⟩
theorem op_sway {h : Hp} (I : Inv h) (a : Int32) : Step (f_X7_sway h a) (fun h1 => f_X8_sway h1 a) := by
  obtain ⟨m, M, C, P⟩ := I
  refine comb P M (c_sway M C a) (r_X7_sway h _) (fun h1 P1 => ?_) (fun h1 => r_X8_sway h1 _)
  unfold f_X8_sway swyV
  refine ok_bdv (m_find M P1) (fun h2 H2 => ?_)
  obtain ⟨T2, L2⟩ := H2
  rw [mb_eq, bdr_some]
  refine ok_w (fun r1 => ?_) (fun r1 => by rw [if_neg r1]; exact ok_some ⟨rfl, T2.1⟩)
  rw [if_pos r1]
  obtain ⟨y, -, hy, rfl⟩ := inR_ex r1 (by decide) (by decide)
  rw [nI_clamp (by omega), ck_nI (by omega) (by decide), ia_nI (by omega)]
  exact ok_some ⟨(L2.2 y (by omega)).2, T2.1⟩
def edV (i : Inp) (k : Nat) (b : Int32) : Int32 := if b = 0 then wen ((runF i 24).1.1 k) else if b = 1 then wbl ((runF i 24).1.1 k) else wfa ((runF i 24).1.1 k)
def endV (m : Hp) (a b : Int32) : Int32 := if isW (nWk m) a then (if inR b 0 2 then edV (inp m) a.toNatClampNeg b else -2) else -2
theorem c_ends {m h : Hp} (M : MOK m) (C : CR m h) (a b : Int32) : Ok (f_X7_ends h a b) (fun u => u.2 = endV m a b ∧ CR m u.1) := by
  unfold f_X7_ends endV edV
  rw [cw_eq (nWk_le M) C.2.1.1, bdr_some]
  refine ok_w (fun r2 => ?_) (fun r2 => by rw [if_neg r2]; exact ok_some ⟨rfl, C⟩)
  rw [if_pos r2, w_2, bdr_some]
  refine ok_w (fun r3 => ?_) (fun r3 => by rw [if_neg r3]; exact ok_some ⟨rfl, C⟩)
  rw [if_pos r3]
  obtain ⟨k, hk, rfl⟩ := isW_ex (nWk_le M) r2
  have k6 : k < 6 := by have := nWk_le M; omega
  refine ok_bnd (c_shown M C) (fun h4 c5 H => ?_)
  obtain ⟨rfl, C4, S4⟩ := H
  refine ok_cy (by decide) ?_
  obtain ⟨-, -, -, -, l5, l6, l7⟩ := S4.1.1 k hk
  rw [nI_clamp (by omega)]
  simp only [ck_nI k6 (show 6 < 2 ^ 31 by decide), ia_nI (show k < 2 ^ 31 by omega)]
  refine ok_ite (fun q => ?_) (fun q => ?_)
  · rw [if_pos q]; exact ok_some ⟨l5, C4⟩
  · rw [if_neg q]
    refine ok_ite (fun q => ?_) (fun q => ?_)
    · rw [if_pos q]; exact ok_some ⟨l6, C4⟩
    · rw [if_neg q]; exact ok_some ⟨l7, C4⟩
theorem m_endsBy {i : Inp} {h : Hp} {k : Nat} (hN : iN i ≤ 6) (hk : k < iN i) (L : ML i h) (b : Int32) : f_X8_endsBy h (nI k) b = some (edV i k b) := by
  have k6 : k < 6 := by omega
  obtain ⟨-, -, -, -, -, l5, l6, l7⟩ := L.1.1 k hk
  unfold f_X8_endsBy edV
  simp only [ck_nI k6 (show 6 < 2 ^ 31 by decide), ia_nI (show k < 2 ^ 31 by omega), l5, l6, l7]
  by_cases q : b = 0
  · rw [if_pos q, if_pos q]
  · rw [if_neg q, if_neg q]
    by_cases q : b = 1
    · rw [if_pos q, if_pos q]
    · rw [if_neg q, if_neg q]
theorem op_ends {h : Hp} (I : Inv h) (a b : Int32) : Step (f_X7_ends h a b) (fun h1 => f_X8_ends h1 a b) := by
  obtain ⟨m, M, C, P⟩ := I
  refine comb P M (c_ends M C a b) (r_X7_ends h _ _) (fun h1 P1 => ?_) (fun h1 => r_X8_ends h1 _ _)
  unfold f_X8_ends endV
  refine ok_bdv (m_find M P1) (fun h2 H2 => ?_)
  obtain ⟨T2, L2⟩ := H2
  rw [mw_eq T2.2.1.1, bdr_some]
  refine ok_w (fun r2 => ?_) (fun r2 => by rw [if_neg (show ¬ isW (nWk m) a from r2)]; exact ok_some ⟨rfl, T2.1⟩)
  rw [if_pos (show isW (nWk m) a from r2), v_2, bdr_some]
  refine ok_w (fun r3 => ?_) (fun r3 => by rw [if_neg r3]; exact ok_some ⟨rfl, T2.1⟩)
  rw [if_pos r3]
  obtain ⟨k, hk, rfl⟩ := isW_ex (nWk_le M) r2
  have : nWk m ≤ 6 := nWk_le M
  have hk' : k < nWk m := hk
  rw [nI_clamp (by omega), m_endsBy (i := inp m) (nWk_le M) hk L2, bdr_some]
  exact ok_some ⟨rfl, T2.1⟩
theorem m_many {h : Hp} {N : Nat} {ws : Nat → WS} (hN : N ≤ 6) (e : h.1 68 7 = nI N) (hw : ∀ k, k < N → h.1 79 k = wst (ws k)) (v : Int32) : Ok (f_X8_many h v) (fun x => x = nI (cntW N ws v)) := by
  unfold f_X8_many
  refine ok_fx2 (fun f x y => ∃ j, y = nI j ∧ j + f = N ∧ x = nI (cntW j ws v)) N (by omega) ⟨0, rfl, by omega, rfl⟩ ?_
  rintro f self x y ⟨j, rfl, hj, rfl⟩ ih
  rw [e]
  by_cases hf : f = 0
  · have ej : j = N := by omega
    rw [if_pos (nI_le (by omega) (by omega)), ej]
    exact ok_some rfl
  · have jN : j < N := by omega
    rw [if_neg (nI_ge jN (by omega)), ck_nI (by omega) (by decide), ia_nI (by omega), hw j jN, lt1_if]
    simp only [nm_eq]
    rw [show nI j + (1 : Int32) = nI (j + 1) from nI_1 j]
    refine ih (f - 1) _ _ (by omega) ⟨j + 1, rfl, by omega, ?_⟩
    rw [cnt_succ]
    split
    · exact nI_1 _
    · exact nI_add _ 0
def smV (i : Inp) (a : Int32) : Int32 := if a = 0 then nI (cntW (iN i) (runF i 24).1.1 2) else if a = 1 then nI (cntW (iN i) (runF i 24).1.1 3) else (runF i 24).1.2.1
def sumV (m : Hp) (a : Int32) : Int32 := if inR a 0 2 then smV (inp m) a else -2
theorem c_sum {m h : Hp} (M : MOK m) (C : CR m h) (a : Int32) : Ok (f_X7_sum h a) (fun u => u.2 = sumV m a ∧ CR m u.1) := by
  unfold f_X7_sum sumV smV
  rw [w_2, bdr_some]
  refine ok_w (fun r2 => ?_) (fun r2 => by rw [if_neg r2]; exact ok_some ⟨rfl, C⟩)
  rw [if_pos r2]
  refine ok_bnd (c_shown M C) (fun h4 c5 H => ?_)
  obtain ⟨rfl, C4, S4⟩ := H
  refine ok_cy (by decide) ?_
  obtain ⟨-, -, -, l1, l2, l3⟩ := S4.1
  refine ok_ite (fun q => ?_) (fun q => ?_)
  · rw [if_pos q]; exact ok_some ⟨l2, C4⟩
  · rw [if_neg q]
    refine ok_ite (fun q => ?_) (fun q => ?_)
    · rw [if_pos q]; exact ok_some ⟨l3, C4⟩
    · rw [if_neg q]; exact ok_some ⟨l1, C4⟩
theorem m_sumBy {i : Inp} {h : Hp} (hN : iN i ≤ 6) (e : h.1 68 7 = nI (iN i)) (L : ML i h) (a : Int32) : Ok (f_X8_sumBy h a) (fun x => x = smV i a) := by
  unfold f_X8_sumBy smV
  refine ok_ite (fun q => ?_) (fun q => ?_)
  · rw [if_pos q]
    exact ok_bdr (m_many hN e (fun k hk => (L.1.1 k hk).1) 2) (fun x hx => ok_some hx)
  · rw [if_neg q]
    refine ok_ite (fun q => ?_) (fun q => ?_)
    · rw [if_pos q]
      exact ok_bdr (m_many hN e (fun k hk => (L.1.1 k hk).1) 3) (fun x hx => ok_some hx)
    · rw [if_neg q]; exact ok_some L.1.2
theorem op_sum {h : Hp} (I : Inv h) (a : Int32) : Step (f_X7_sum h a) (fun h1 => f_X8_sum h1 a) := by
  obtain ⟨m, M, C, P⟩ := I
  refine comb P M (c_sum M C a) (r_X7_sum h _) (fun h1 P1 => ?_) (fun h1 => r_X8_sum h1 _)
  unfold f_X8_sum sumV
  refine ok_bdv (m_find M P1) (fun h2 H2 => ?_)
  obtain ⟨T2, L2⟩ := H2
  rw [v_2, bdr_some]
  refine ok_w (fun r2 => ?_) (fun r2 => by rw [if_neg r2]; exact ok_some ⟨rfl, T2.1⟩)
  rw [if_pos r2]
  exact ok_bdr (m_sumBy (i := inp m) (nWk_le M) T2.2.1.1 L2 a) (fun x hx => ok_some ⟨hx, T2.1⟩)
