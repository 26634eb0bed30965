/-! write, count -/
def wr (m : Hp) (s k : Nat) : Nat → Hp
  | 0 => m
  | b + 1 => uf (wr m s k b) 71 (60 * s + b) (cutV (m.1 69 s) (leV (inp m) b k))
theorem wr_c {m : Hp} {s k : Nat} : ∀ b c, c ≠ 71 → (wr m s k b).1 c = m.1 c
  | 0, _, _ => rfl
  | b + 1, c, q => by rw [wr, uf_ne q]; exact wr_c b c q
theorem wr_ok {m : Hp} {s k : Nat} (M : MOK m) : ∀ b, MOK (wr m s k b)
  | 0 => M
  | b + 1 => by rw [wr]; exact ly_ok (wr_ok M b) _
theorem wr_sz {m : Hp} {s k : Nat} (b s' : Nat) : sSz (wr m s k b) s' = sSz m s' := by unfold sSz; rw [wr_c b 70 (by decide)]
theorem c_write {m h : Hp} {s k : Nat} (M : MOK m) (C : CR m h) (hs : s < 4) (hk : k < nWk m) (nl : ¬ m.1 69 s < 0) : Ok (f_X7_write h (nI k) (nI s)) (fun u => u.2 = nI (min (sSz m s) 24) ∧ CR (wr m s k (min (sSz m s) 24)) u.1) := by
  have hN := nWk_le M
  have s31 : s < 2 ^ 31 := by omega
  obtain ⟨le, ez⟩ := (M.2.2.2.2.2.2 s hs).2
  have l1 := ((C.2.2.2.1 s hs).2 nl).1
  unfold f_X7_write
  rw [cw_eq hN C.2.1.1, bdr_some, if_pos (isW_nI hN hk), if_neg one_ne, cs_eq, bdr_some, if_pos (inR_nI (by omega) (by omega) (by decide)), if_neg one_ne, ck_nI hs (by decide), nI_clamp s31, if_pos l1]
  refine ok_bnd (c_shown M C) (fun h4 c5 H => ?_)
  obtain ⟨rfl, C4, S4⟩ : c5 = 17 ∧ CR m h4 ∧ SH (inp m) h4 := H
  refine ok_cy (by decide) ?_
  have l3 := ((C4.2.2.2.1 s hs).2 nl).2.2.1
  have em : jmin (nI (sSz m s)) (24 : Int32) = nI (min (sSz m s) 24) := (show ∀ n, n < 61 → jmin (nI n) (24 : Int32) = nI (min n 24) by decide +kernel) _ (by omega)
  rw [l3, ez, em, nm_eq]
  refine ok_fx2 (fun f h1 y => ∃ b, y = nI b ∧ b + f = min (sSz m s) 24 ∧ CR (wr m s k b) h1 ∧ SH (inp m) h1) (min (sSz m s) 24) (by omega) ⟨0, rfl, by omega, C4, S4⟩ ?_
  rintro f self h1 y ⟨b, rfl, hb, C1, S1⟩ ih
  by_cases hf : f = 0
  · have e : b = min (sSz m s) 24 := by omega
    rw [if_pos (nI_le (by omega) (by omega)), ← e]
    exact ok_some ⟨rfl, C1⟩
  · have bn : b < min (sSz m s) 24 := by omega
    have b24 : b < 24 := by omega
    have bz : b < sSz m s := by omega
    obtain ⟨-, -, v3⟩ := (S1.2 b b24).1 k hk
    rw [if_neg (nI_ge bn (by omega)), lb_eq b24 (by omega), bdr_some, show h1.1 (17 + 5 + 3) (6 * b + k) = leV (inp m) b k from v3, c_put (wr_ok M b) C1 hs (by rw [wr_c b 69 (by decide)]; exact nl) (by rw [wr_sz]; exact bz), bdv_some, nm_eq, show nI b + (1 : Int32) = nI (b + 1) from nI_1 b, wr_c b 69 (by decide)]
    refine ih (f - 1) _ _ (by omega) ⟨b + 1, rfl, by omega, ?_, S1.ke (fun c q r => uf_ne (by omega))⟩
    rw [wr]
    exact c_item (wr_ok M b) C1 hs (by rw [wr_c b 69 (by decide)]; exact nl) (by rw [wr_sz]; exact bz) _
theorem m_write {m h : Hp} {s k : Nat} (M : MOK m) (P : PK m h) (hs : s < 4) (hk : k < nWk m) (nl : ¬ m.1 69 s < 0) : Ok (f_X8_write h (nI k) (nI s)) (fun u => u.2 = nI (min (sSz m s) 24) ∧ PK (wr m s k (min (sSz m s) 24)) u.1) := by
  have hN := nWk_le M
  have s31 : s < 2 ^ 31 := by omega
  obtain ⟨le, ez⟩ := (M.2.2.2.2.2.2 s hs).2
  unfold f_X8_write
  refine ok_bdv (m_find M P) (fun h1 H => ?_)
  obtain ⟨T1, L1⟩ := H
  have em : f_X8_lesser (nI (sSz m s)) (24 : Int32) = some (nI (min (sSz m s) 24)) := (show ∀ n, n < 61 → f_X8_lesser (nI n) (24 : Int32) = some (nI (min n 24)) by decide +kernel) _ (by omega)
  rw [mw_eq T1.2.1.1, bdr_some, if_pos (show isW (iN (inp m)) (nI k) from isW_nI hN hk), if_neg one_ne, ms_eq, bdr_some, if_pos (inR_nI (by omega) (by omega) (by decide)), if_neg one_ne, ck_nI hs (by decide), ia_nI s31, T1.1.2.2.2.2.2.1, if_pos (nneg.mp nl), ck_nI hs (by decide), ia_nI s31, T1.1.2.2.2.2.2.2.1, ez, em, bdr_some]
  refine ok_fx2 (fun f h2 y => ∃ b, y = nI b ∧ b + f = min (sSz m s) 24 ∧ PK (wr m s k b) h2 ∧ h2.1 89 = h1.1 89) (min (sSz m s) 24) (by omega) ⟨0, rfl, by omega, T1.1, rfl⟩ ?_
  rintro f self h2 y ⟨b, rfl, hb, P2, e89⟩ ih
  by_cases hf : f = 0
  · have e : b = min (sSz m s) 24 := by omega
    rw [if_pos (nI_le (by omega) (by omega)), ← e]
    exact ok_some ⟨rfl, P2⟩
  · have bn : b < min (sSz m s) 24 := by omega
    have b24 : b < 24 := by omega
    obtain ⟨-, -, v3⟩ := (L1.2 b b24).1 k hk
    have k6 : k < 6 := by omega
    rw [if_neg (nI_ge bn (by omega)), ck_nI hs (by decide), e6, ck_nI (by omega) (by decide), ia_nI s31, ia_nI (by omega), e89, show h1.1 89 (6 * b + k) = leV (inp m) b k from v3, P2.2.2.2.2.2.1, wr_c b 69 (by decide), cut_eq, bdr_some, e60, ck_nI (by omega) (by decide), ux_nI (by omega), nm_eq, nm_eq, show nI b + (1 : Int32) = nI (b + 1) from nI_1 b]
    refine ih (f - 1) _ _ (by omega) ⟨b + 1, rfl, by omega, ?_, by rw [uf_ne (by decide)]; exact e89⟩
    rw [wr]
    exact P2.uf _ _ _
theorem op_write {h : Hp} (I : Inv h) (a b : Int32) : Step (f_X7_write h a b) (fun h1 => f_X8_write h1 a b) := by
  obtain ⟨m, M, C, P⟩ := I
  have hN := nWk_le M
  by_cases r1 : isW (nWk m) a
  · by_cases r2 : inR b 0 3
    · obtain ⟨k, hk, rfl⟩ := isW_ex hN r1
      obtain ⟨s, -, hs, rfl⟩ := inR_ex r2 (by decide) (by decide)
      have hs4 : s < 4 := by omega
      have s31 : s < 2 ^ 31 := by omega
      by_cases nl : m.1 69 s < 0
      · refine comb (v := -11) P (mok_found M 1) ?_ (r_X7_write h _ _) (fun h1 P1 => ?_) (fun h1 => r_X8_write h1 _ _)
        · unfold f_X7_write
          rw [cw_eq hN C.2.1.1, bdr_some, if_pos r1, if_neg one_ne, cs_eq, bdr_some, if_pos r2, if_neg one_ne, ck_nI hs4 (by decide), nI_clamp s31, if_neg ((C.2.2.2.1 s hs4).1 nl), fo_eq, bnd_some]
          exact ok_some ⟨rfl, c_found C 1⟩
        · unfold f_X8_write
          refine ok_bdv (m_find M P1) (fun h2 H => ?_)
          obtain ⟨T1, L1⟩ := H
          rw [mw_eq T1.2.1.1, bdr_some, if_pos (show isW (iN (inp m)) (nI k) from r1), if_neg one_ne, ms_eq, bdr_some, if_pos r2, if_neg one_ne, ck_nI hs4 (by decide), ia_nI s31, T1.1.2.2.2.2.2.1, if_neg (fun t => nneg.mpr t nl), fd_eq, bnd_some]
          exact ok_some ⟨rfl, T1.1.uf _ _ _⟩
      · exact comb P (wr_ok M _) (c_write M C hs4 hk nl) (r_X7_write h _ _) (fun h1 P1 => m_write M P1 hs4 hk nl) (fun h1 => r_X8_write h1 _ _)
    · refine comb (v := -2) P M ?_ (r_X7_write h _ _) (fun h1 P1 => ?_) (fun h1 => r_X8_write h1 _ _)
      · unfold f_X7_write
        rw [cw_eq hN C.2.1.1, bdr_some, if_pos r1, if_neg one_ne, cs_eq, bdr_some, if_neg r2, if_pos rfl]
        exact ok_some ⟨rfl, C⟩
      · unfold f_X8_write
        refine ok_bdv (m_find M P1) (fun h2 H => ?_)
        rw [mw_eq H.1.2.1.1, bdr_some, if_pos (show isW (iN (inp m)) a from r1), if_neg one_ne, ms_eq, bdr_some, if_neg r2, if_pos rfl]
        exact ok_some ⟨rfl, H.1.1⟩
  · refine comb (v := -2) P M ?_ (r_X7_write h _ _) (fun h1 P1 => ?_) (fun h1 => r_X8_write h1 _ _)
    · unfold f_X7_write
      rw [cw_eq hN C.2.1.1, bdr_some, if_neg r1, if_pos rfl]
      exact ok_some ⟨rfl, C⟩
    · unfold f_X8_write
      refine ok_bdv (m_find M P1) (fun h2 H => ?_)
      rw [mw_eq H.1.2.1.1, bdr_some, if_neg (show ¬ isW (iN (inp m)) a from r1), if_pos rfl]
      exact ok_some ⟨rfl, H.1.1⟩
def cntV (m : Hp) (a : Int32) : Int32 := if a = 0 then nI (nWk m) else if a = 1 then toldV m else if a = 2 then m.1 74 0 + m.1 74 1 else if a = 3 then m.1 68 12 else if a = 4 then m.1 77 0 else if a = 5 then m.1 77 1 else if a = 6 then m.1 77 2 else if a = 7 then m.1 68 29 else if a = 8 then m.1 68 4 else -2
theorem c_count {m h : Hp} (M : MOK m) (C : CR m h) (a : Int32) : Ok (f_X7_count h a) (fun x => x = cntV m a) := by
  obtain ⟨t1, t2, t3, t4, t5, -⟩ := id C.2.1
  unfold f_X7_count cntV
  refine ok_ite (fun q => by rw [if_pos q]; exact ok_some t1) (fun q => ?_)
  rw [if_neg q]
  refine ok_ite (fun q => ?_) (fun q => ?_)
  · rw [if_pos q]
    refine ok_bdr (p_faultOfRoutine M.2.1.1 (C.1.2.1.trans M.2.1.2)) (fun x hx => ?_)
    rw [hx, rtR_congr C.1.2.2.2]
    unfold toldV
    by_cases e : rtF (tx1 m) (rT m) = none
    · rw [if_pos ((rtR_m1 M.2.1.1).mpr e), if_pos e]
      exact ok_some (C.1.2.1.trans M.2.1.2)
    · rw [if_neg (fun t => e ((rtR_m1 M.2.1.1).mp t)), if_neg e]
      exact ok_some rfl
  rw [if_neg q]
  refine ok_ite (fun q => by rw [if_pos q, C.1.1, C.1.2.1]; exact ok_some rfl) (fun q => ?_)
  rw [if_neg q]
  refine ok_ite (fun q => by rw [if_pos q]; exact ok_some (t2.trans M.2.2.1.2.1.symm)) (fun q => ?_)
  rw [if_neg q]
  refine ok_ite (fun q => by rw [if_pos q]; exact ok_some t3) (fun q => ?_)
  rw [if_neg q]
  refine ok_ite (fun q => by rw [if_pos q]; exact ok_some t4) (fun q => ?_)
  rw [if_neg q]
  refine ok_ite (fun q => by rw [if_pos q]; exact ok_some t5) (fun q => ?_)
  rw [if_neg q]
  refine ok_ite (fun q => by rw [if_pos q]; exact ok_some C.2.2.1.1) (fun q => ?_)
  rw [if_neg q]
  refine ok_ite (fun q => by rw [if_pos q]; exact ok_some C.2.2.2.2.1) (fun q => ?_)
  rw [if_neg q]
  exact ok_some rfl
theorem m_count {m h : Hp} (M : MOK m) (P : PK m h) (a : Int32) : Ok (f_X8_count h a) (fun u => u.2 = cntV m a ∧ MT m u.1 ∧ ML (inp m) u.1) := by
  unfold f_X8_count cntV
  refine ok_bdv (m_find M P) (fun h1 H => ?_)
  obtain ⟨T, L⟩ := id H
  obtain ⟨p1, p2, p3, p4, p5, p6, p7, p8, p9, p10, p11, p12⟩ := id T.1
  refine ok_ite (fun q => by rw [if_pos q]; exact ok_some ⟨T.2.1.1, H⟩) (fun q => ?_)
  rw [if_neg q]
  refine ok_ite (fun q => by rw [if_pos q]; exact ok_some ⟨T.2.2, H⟩) (fun q => ?_)
  rw [if_neg q]
  refine ok_ite (fun q => by rw [if_pos q, p2]; exact ok_some ⟨rfl, H⟩) (fun q => ?_)
  rw [if_neg q]
  refine ok_ite (fun q => by rw [if_pos q]; exact ok_some ⟨p10, H⟩) (fun q => ?_)
  rw [if_neg q]
  refine ok_ite (fun q => by rw [if_pos q, q, show (4 : Int32) - 4 = nI 0 from rfl, ck_nI (by decide) (by decide), ia_nI (by decide), p3]; exact ok_some ⟨rfl, H⟩) (fun q => ?_)
  rw [if_neg q]
  refine ok_ite (fun q => by rw [if_pos q, q, show (5 : Int32) - 4 = nI 1 from rfl, ck_nI (by decide) (by decide), ia_nI (by decide), p3]; exact ok_some ⟨rfl, H⟩) (fun q => ?_)
  rw [if_neg q]
  refine ok_ite (fun q => by rw [if_pos q, q, show (6 : Int32) - 4 = nI 2 from rfl, ck_nI (by decide) (by decide), ia_nI (by decide), p3]; exact ok_some ⟨rfl, H⟩) (fun q => ?_)
  rw [if_neg q]
  refine ok_ite (fun q => by rw [if_pos q]; exact ok_some ⟨p12, H⟩) (fun q => ?_)
  rw [if_neg q]
  refine ok_ite (fun q => by rw [if_pos q]; exact ok_some ⟨p9, H⟩) (fun q => ?_)
  rw [if_neg q]
  exact ok_some ⟨rfl, H⟩
theorem op_count {h : Hp} (I : Inv h) (a : Int32) : StepR h (f_X7_count h a) (f_X8_count h a) := by
  obtain ⟨m, M, C, P⟩ := I
  exact combR M C (c_count M C a) (ok_mono (m_count M P a) (fun u H => ⟨H.1, H.2.1.1⟩)) (r_X8_count h a)
