/-! start, hold, act -/
def startW (m : Hp) (k : Nat) (v : Nat) : Inp := wSt (inp m) k (nI v)
def startV (m : Hp) (a b : Int32) : Int32 := if isW (nWk m) a then (if inR b 0 1 then (if b = 0 then (bst (startW m a.toNatClampNeg) 24).1 else (bst (startW m a.toNatClampNeg) 24).2) else -2) else -2
theorem c_startV {m h : Hp} {k : Nat} (M : MOK m) (C : CR m h) (hk : k < nWk m) : Ok (f_X7_chooseFor h 6 (nI k) (nI 24)) (fun h' => h'.1 0 13 = (bst (startW m k) 24).1 ∧ h'.1 0 14 = (bst (startW m k) 24).2 ∧ CR m h') := by
  have := nWk_le M
  refine ok_mono (c_choose (m := m) (V := startW m k) (by decide) (show k < 6 by omega) (by decide) (by decide) (fun v hv => ⟨ok_wSt (inp_ok M) k hv, rfl, fun h' K e => ti_wSt C.2.1 K e⟩)) (fun h' H => ⟨H.1, H.2.1, C.kc H.2.2⟩)
theorem c_start {m h : Hp} (M : MOK m) (C : CR m h) (a b : Int32) : Ok (f_X7_start h a b) (fun u => u.2 = startV m a b ∧ CR m u.1) := by
  unfold f_X7_start startV
  rw [cw_eq (nWk_le M) C.2.1.1, bdr_some]
  refine ok_w (fun r2 => ?_) (fun r2 => by rw [if_neg r2]; exact ok_some ⟨rfl, C⟩)
  rw [if_pos r2, w_1, bdr_some]
  refine ok_w (fun r3 => ?_) (fun r3 => by rw [if_neg r3]; exact ok_some ⟨rfl, C⟩)
  rw [if_pos r3]
  obtain ⟨k, hk, rfl⟩ : ∃ k, (k < nWk m) ∧ a = nI k := by exact isW_ex (nWk_le M) r2
  have := nWk_le M
  rw [nI_clamp (by omega)]
  refine ok_bdv (c_startV M C hk) (fun h3 H => ?_)
  refine ok_ite (fun q => ?_) (fun q => ?_)
  · rw [if_pos q]; exact ok_some ⟨H.1, H.2.2⟩
  · rw [if_neg q]; exact ok_some ⟨H.2.1, H.2.2⟩
/-- for the digest: how many, too -/
theorem c_start0 {m h : Hp} {k : Nat} (M : MOK m) (C : CR m h) (hk : k < nWk m) : Ok (f_X7_start h (nI k) 0) (fun u => u.2 = (bst (startW m k) 24).1 ∧ u.1.1 0 14 = (bst (startW m k) 24).2 ∧ CR m u.1) := by
  have := nWk_le M
  unfold f_X7_start
  rw [cw_eq (nWk_le M) C.2.1.1, bdr_some, if_pos (isW_nI (nWk_le M) hk), if_neg one_ne, w_1, bdr_some, if_neg (by decide)]
  exact ok_bdv (c_startV M C hk) (fun h3 H => by rw [if_pos rfl]; exact ok_some H)
theorem m_startV {m h : Hp} {k : Nat} (M : MOK m) (T : MT m h) (hk : k < nWk m) (a : Int32) : Ok (f_X8_walkerBetter h (nI (3 * k)) (nI 24) a) (fun u => u.2 = (if a = 0 then (bst (startW m k) 24).1 else (bst (startW m k) 24).2) ∧ MT m u.1) := by
  have := nWk_le M
  refine ok_mono (m_better (k := 3 * k + 0) (V := startW m k) (by omega) (by decide) (fun v hv => ⟨ok_wSt (inp_ok M) k hv, fun h' K e => tm_wSt T.2.1 K e⟩) a) (fun u H => ⟨H.1, T.km H.2⟩)
theorem op_start {h : Hp} (I : Inv h) (a b : Int32) : Step (f_X7_start h a b) (fun h1 => f_X8_start h1 a b) := by
  obtain ⟨m, M, C, P⟩ := I
  refine comb P M (c_start M C a b) (r_X7_start h _ _) (fun h1 P1 => ?_) (fun h1 => r_X8_start h1 _ _)
  unfold f_X8_start startV
  refine ok_bdv (m_find M P1) (fun h2 H2 => ?_)
  obtain ⟨T2, L2⟩ := H2
  rw [mw_eq T2.2.1.1, bdr_some]
  refine ok_w (fun r2 => ?_) (fun r2 => by rw [if_neg (show ¬ isW (nWk m) a from r2)]; exact ok_some ⟨rfl, T2.1⟩)
  rw [if_pos (show isW (nWk m) a from r2), mt_eq, bdr_some]
  refine ok_w (fun r3 => ?_) (fun r3 => by rw [if_neg r3]; exact ok_some ⟨rfl, T2.1⟩)
  rw [if_pos r3]
  obtain ⟨k, hk, rfl⟩ : ∃ k, (k < nWk m) ∧ a = nI k := by exact isW_ex (nWk_le M) r2
  have := nWk_le M
  rw [nI_clamp (by omega), t30]
  exact ok_bnd (m_startV M T2 hk b) (fun h4 x H => ok_some ⟨H.1, H.2.1⟩)
def holdW (m : Hp) (k : Nat) (v : Nat) : Inp := wPo (inp m) k (nI v)
def holdV (m : Hp) (a b : Int32) : Int32 := if isW (nWk m) a then (if inR b 0 1 then (if b = 0 then (bst (holdW m a.toNatClampNeg) 10).1 else (bst (holdW m a.toNatClampNeg) 10).2) else -2) else -2
theorem c_holdV {m h : Hp} {k : Nat} (M : MOK m) (C : CR m h) (hk : k < nWk m) : Ok (f_X7_chooseFor h 8 (nI k) (nI 10)) (fun h' => h'.1 0 13 = (bst (holdW m k) 10).1 ∧ h'.1 0 14 = (bst (holdW m k) 10).2 ∧ CR m h') := by
  have := nWk_le M
  refine ok_mono (c_choose (m := m) (V := holdW m k) (by decide) (show k < 6 by omega) (by decide) (by decide) (fun v hv => ⟨ok_wPo (inp_ok M) k hv, rfl, fun h' K e => ti_wPo C.2.1 K e⟩)) (fun h' H => ⟨H.1, H.2.1, C.kc H.2.2⟩)
theorem c_hold {m h : Hp} (M : MOK m) (C : CR m h) (a b : Int32) : Ok (f_X7_hold h a b) (fun u => u.2 = holdV m a b ∧ CR m u.1) := by
  unfold f_X7_hold holdV
  rw [cw_eq (nWk_le M) C.2.1.1, bdr_some]
  refine ok_w (fun r2 => ?_) (fun r2 => by rw [if_neg r2]; exact ok_some ⟨rfl, C⟩)
  rw [if_pos r2, w_1, bdr_some]
  refine ok_w (fun r3 => ?_) (fun r3 => by rw [if_neg r3]; exact ok_some ⟨rfl, C⟩)
  rw [if_pos r3]
  obtain ⟨k, hk, rfl⟩ : ∃ k, (k < nWk m) ∧ a = nI k := by exact isW_ex (nWk_le M) r2
  have := nWk_le M
  rw [nI_clamp (by omega)]
  refine ok_bdv (c_holdV M C hk) (fun h3 H => ?_)
  refine ok_ite (fun q => ?_) (fun q => ?_)
  · rw [if_pos q]; exact ok_some ⟨H.1, H.2.2⟩
  · rw [if_neg q]; exact ok_some ⟨H.2.1, H.2.2⟩
/-- for the digest: how many, too -/
theorem c_hold0 {m h : Hp} {k : Nat} (M : MOK m) (C : CR m h) (hk : k < nWk m) : Ok (f_X7_hold h (nI k) 0) (fun u => u.2 = (bst (holdW m k) 10).1 ∧ u.1.1 0 14 = (bst (holdW m k) 10).2 ∧ CR m u.1) := by
  have := nWk_le M
  unfold f_X7_hold
  rw [cw_eq (nWk_le M) C.2.1.1, bdr_some, if_pos (isW_nI (nWk_le M) hk), if_neg one_ne, w_1, bdr_some, if_neg (by decide)]
  exact ok_bdv (c_holdV M C hk) (fun h3 H => by rw [if_pos rfl]; exact ok_some H)
theorem m_holdV {m h : Hp} {k : Nat} (M : MOK m) (T : MT m h) (hk : k < nWk m) (a : Int32) : Ok (f_X8_walkerBetter h (nI (3 * k + 2)) (nI 10) a) (fun u => u.2 = (if a = 0 then (bst (holdW m k) 10).1 else (bst (holdW m k) 10).2) ∧ MT m u.1) := by
  have := nWk_le M
  refine ok_mono (m_better (k := 3 * k + 2) (V := holdW m k) (by omega) (by decide) (fun v hv => ⟨ok_wPo (inp_ok M) k hv, fun h' K e => tm_wPo T.2.1 K e⟩) a) (fun u H => ⟨H.1, T.km H.2⟩)
theorem op_hold {h : Hp} (I : Inv h) (a b : Int32) : Step (f_X7_hold h a b) (fun h1 => f_X8_hold h1 a b) := by
  obtain ⟨m, M, C, P⟩ := I
  refine comb P M (c_hold M C a b) (r_X7_hold h _ _) (fun h1 P1 => ?_) (fun h1 => r_X8_hold h1 _ _)
  unfold f_X8_hold holdV
  refine ok_bdv (m_find M P1) (fun h2 H2 => ?_)
  obtain ⟨T2, L2⟩ := H2
  rw [mw_eq T2.2.1.1, bdr_some]
  refine ok_w (fun r2 => ?_) (fun r2 => by rw [if_neg (show ¬ isW (nWk m) a from r2)]; exact ok_some ⟨rfl, T2.1⟩)
  rw [if_pos (show isW (nWk m) a from r2), mt_eq, bdr_some]
  refine ok_w (fun r3 => ?_) (fun r3 => by rw [if_neg r3]; exact ok_some ⟨rfl, T2.1⟩)
  rw [if_pos r3]
  obtain ⟨k, hk, rfl⟩ : ∃ k, (k < nWk m) ∧ a = nI k := by exact isW_ex (nWk_le M) r2
  have := nWk_le M
  rw [nI_clamp (by omega), show (3 : Int32) * nI k + 2 = nI (3 * k + 2) by rw [t30]; exact nI_add _ 2]
  exact ok_bnd (m_holdV M T2 hk b) (fun h4 x H => ok_some ⟨H.1, H.2.1⟩)
def actW (m : Hp) (k : Nat) (v : Nat) : Inp := wMv (inp m) k (nI v)
def actV (m : Hp) (a b : Int32) : Int32 := if inR a 0 23 then (if inR b 0 1 then (if b = 0 then (bst (actW m a.toNatClampNeg) 4).1 else (bst (actW m a.toNatClampNeg) 4).2) else -2) else -2
theorem c_actV {m h : Hp} {k : Nat} (M : MOK m) (C : CR m h) (hk : k < 24) : Ok (f_X7_chooseFor h 9 (nI k) (nI 4)) (fun h' => h'.1 0 13 = (bst (actW m k) 4).1 ∧ h'.1 0 14 = (bst (actW m k) 4).2 ∧ CR m h') := by
  have := nWk_le M
  refine ok_mono (c_choose (m := m) (V := actW m k) (by decide) (show k < 24 by omega) (by decide) (by decide) (fun v hv => ⟨ok_wMv (inp_ok M) k hv, rfl, fun h' K e => ti_wMv C.2.1 K e⟩)) (fun h' H => ⟨H.1, H.2.1, C.kc H.2.2⟩)
theorem c_act {m h : Hp} (M : MOK m) (C : CR m h) (a b : Int32) : Ok (f_X7_act h a b) (fun u => u.2 = actV m a b ∧ CR m u.1) := by
  unfold f_X7_act actV
  rw [cb_eq, bdr_some]
  refine ok_w (fun r2 => ?_) (fun r2 => by rw [if_neg r2]; exact ok_some ⟨rfl, C⟩)
  rw [if_pos r2, w_1, bdr_some]
  refine ok_w (fun r3 => ?_) (fun r3 => by rw [if_neg r3]; exact ok_some ⟨rfl, C⟩)
  rw [if_pos r3]
  obtain ⟨k, hk, rfl⟩ : ∃ k, (k < 24) ∧ a = nI k := by obtain ⟨k, -, hk, e⟩ := inR_ex r2 (by decide) (by decide); exact ⟨k, by omega, e⟩
  have := nWk_le M
  rw [nI_clamp (by omega)]
  refine ok_bdv (c_actV M C hk) (fun h3 H => ?_)
  refine ok_ite (fun q => ?_) (fun q => ?_)
  · rw [if_pos q]; exact ok_some ⟨H.1, H.2.2⟩
  · rw [if_neg q]; exact ok_some ⟨H.2.1, H.2.2⟩
/-- for the digest: how many, too -/
theorem c_act0 {m h : Hp} {k : Nat} (M : MOK m) (C : CR m h) (hk : k < 24) : Ok (f_X7_act h (nI k) 0) (fun u => u.2 = (bst (actW m k) 4).1 ∧ u.1.1 0 14 = (bst (actW m k) 4).2 ∧ CR m u.1) := by
  have := nWk_le M
  unfold f_X7_act
  rw [cb_eq, bdr_some, if_pos (inR_nI (by omega) (by omega) (by decide)), if_neg one_ne, w_1, bdr_some, if_neg (by decide)]
  exact ok_bdv (c_actV M C hk) (fun h3 H => by rw [if_pos rfl]; exact ok_some H)
theorem m_actV {m h : Hp} {k : Nat} (M : MOK m) (T : MT m h) (hk : k < 24) (a : Int32) : Ok (f_X8_actOf h (nI k) a) (fun u => u.2 = (if a = 0 then (bst (actW m k) 4).1 else (bst (actW m k) 4).2) ∧ MT m u.1) := by
  have := nWk_le M
  refine ok_mono (m_actOf (V := actW m k) hk (fun v hv => ⟨ok_wMv (inp_ok M) k hv, fun h' K e => tm_wMv T.2.1 K e⟩) a) (fun u H => ⟨H.1, T.km H.2⟩)
theorem op_act {h : Hp} (I : Inv h) (a b : Int32) : Step (f_X7_act h a b) (fun h1 => f_X8_act h1 a b) := by
  obtain ⟨m, M, C, P⟩ := I
  refine comb P M (c_act M C a b) (r_X7_act h _ _) (fun h1 P1 => ?_) (fun h1 => r_X8_act h1 _ _)
  unfold f_X8_act actV
  refine ok_bdv (m_find M P1) (fun h2 H2 => ?_)
  obtain ⟨T2, L2⟩ := H2
  rw [mb_eq, bdr_some]
  refine ok_w (fun r2 => ?_) (fun r2 => by rw [if_neg (show ¬ inR a 0 23 from r2)]; exact ok_some ⟨rfl, T2.1⟩)
  rw [if_pos (show inR a 0 23 from r2), mt_eq, bdr_some]
  refine ok_w (fun r3 => ?_) (fun r3 => by rw [if_neg r3]; exact ok_some ⟨rfl, T2.1⟩)
  rw [if_pos r3]
  obtain ⟨k, hk, rfl⟩ : ∃ k, (k < 24) ∧ a = nI k := by obtain ⟨k, -, hk, e⟩ := inR_ex r2 (by decide) (by decide); exact ⟨k, by omega, e⟩
  have := nWk_le M
  rw [nI_clamp (by omega)]
  exact ok_bnd (m_actV M T2 hk b) (fun h4 x H => ok_some ⟨H.1, H.2.1⟩)
