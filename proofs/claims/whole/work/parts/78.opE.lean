/-! read -/
abbrev rdC (m : Hp) (s n : Nat) : Prop := 3 * n + 3 ≤ sSz m s ∧ evOK (m.1 71 (60 * s + 3 * n)) (m.1 71 (60 * s + 3 * n + 1)) (m.1 71 (60 * s + 3 * n + 2)) ∧ nEv m < 8
def rdF (s : Nat) : Nat → Nat → Hp → Hp × Nat
  | 0, n, m => (m, n)
  | f + 1, n, m => if rdC m s n then rdF s f (n + 1) (evM m (m.1 71 (60 * s + 3 * n)) (m.1 71 (60 * s + 3 * n + 1)) (m.1 71 (60 * s + 3 * n + 2))) else (m, n)
theorem evM_c {m : Hp} {a b c : Int32} : ∀ d, d ≠ 68 → d ≠ 78 → (evM m a b c).1 d = m.1 d := evN_c
theorem evM_sz {m : Hp} {a b c : Int32} (s : Nat) : sSz (evM m a b c) s = sSz m s := by unfold sSz; rw [evM_c 70 (by decide) (by decide)]
theorem rdF_no {s f n : Nat} {m : Hp} (h : ¬ rdC m s n) : rdF s f n m = (m, n) := by
  cases f with
  | zero => rfl
  | succ f => rw [rdF, if_neg h]
theorem c_read {m h : Hp} {s : Nat} (hs : s < 4) (M : MOK m) (C : CR m h) (nl : ¬ m.1 69 s < 0) : Ok (f_X7_read h (nI s)) (fun u => u.2 = nI (rdF s 20 0 m).2 ∧ CR (rdF s 20 0 m).1 u.1) ∧ MOK (rdF s 20 0 m).1 := by
  have key : ∀ f n mm, MOK mm → MOK (rdF s f n mm).1 := by
    intro f
    induction f with
    | zero => intro n mm h; exact h
    | succ f ih =>
      intro n mm h
      rw [rdF]
      by_cases q : rdC mm s n
      · rw [if_pos q]; exact ih _ _ (evM_ok h q.2.2 q.2.1)
      · rw [if_neg q]; exact h
  refine ⟨?_, key 20 0 m M⟩
  have s31 : s < 2 ^ 31 := by omega
  obtain ⟨l1, l2, l3, l4⟩ := (C.2.2.2.1 s hs).2 nl
  have le60 := (M.2.2.2.2.2.2 s hs).2.1
  have ez := (M.2.2.2.2.2.2 s hs).2.2
  unfold f_X7_read
  rw [cs_eq, bdr_some, if_pos (inR_nI (by omega) (by omega) (by decide)), if_neg one_ne, ck_nI hs (by decide), nI_clamp s31, if_pos l1, lt2_eq]
  refine ok_fx3 (fun f h1 x y => ∃ n mm, x = nI n ∧ y = nI (3 * n) ∧ f + n = 20 ∧ MOK mm ∧ CR0 mm h1 ∧ rdF s f n mm = rdF s 20 0 m ∧ (∀ c, c ≠ 68 → c ≠ 78 → mm.1 c = m.1 c) ∧ h1.1 (60 + 2 * s) = h.1 (60 + 2 * s) ∧ h1.1 (60 + 2 * s + 1) = h.1 (60 + 2 * s + 1)) 20 (by decide) ⟨0, m, rfl, rfl, rfl, M, C.c0, rfl, fun _ _ _ => rfl, rfl, rfl⟩ ?_
  rintro f self h1 x y ⟨n, mm, rfl, rfl, hf, MM, CC, hr, sm, g1, g2⟩ ih
  have szz : sSz mm s = sSz m s := by unfold sSz; rw [sm 70 (by decide) (by decide)]
  have e2 : nI (3 * n) + (2 : Int32) = nI (3 * n + 2) := nI_add _ 2
  have e1 : nI (3 * n) + (1 : Int32) = nI (3 * n + 1) := nI_1 _
  have e3 : nI (3 * n) + (3 : Int32) = nI (3 * (n + 1)) := nI_add _ 3
  have fin : ¬ rdC mm s n → Ok (bdv (f_X7_forgetShows h1) fun h5 => some (h5, nI n)) (fun u => u.2 = nI (rdF s 20 0 m).2 ∧ CR (rdF s 20 0 m).1 u.1) := by
    intro q
    rw [rdF_no q] at hr
    rw [fg_eq, bdv_some, ← hr]
    exact ok_some ⟨rfl, CC.fg⟩
  rw [e2, g1, l3, ez]
  by_cases q1 : 3 * n + 3 ≤ sSz m s
  · rw [if_neg (nI_ge (by omega) (by omega)), if_neg (show ¬ (60 : Int32) ≤ nI (3 * n + 2) from nI_ge (b := 60) (by omega) (by decide))]
    simp only [ck_nI (show 3 * n < 60 by omega) (show 60 < 2 ^ 31 by decide), e1, ck_nI (show 3 * n + 1 < 60 by omega) (show 60 < 2 ^ 31 by decide), ck_nI (show 3 * n + 2 < 60 by omega) (show 60 < 2 ^ 31 by decide), nm_eq, ia_nI (show 3 * n < 2 ^ 31 by omega), ia_nI (show 3 * n + 1 < 2 ^ 31 by omega), ia_nI (show 3 * n + 2 < 2 ^ 31 by omega), g2, l4 (3 * n) (by omega), l4 (3 * n + 1) (by omega), l4 (3 * n + 2) (by omega)]
    rw [cme, bdr_some, hr_eq MM CC]
    have e71 : mm.1 71 = m.1 71 := sm 71 (by decide) (by decide)
    refine ok_w (fun r => ?_) (fun r => fin (fun q => r (by rw [← e71]; exact q.2.1)))
    rw [bdr_some]
    refine ok_w (fun r2 => ?_) (fun r2 => fin (fun q => r2 q.2.2))
    refine ok_bdv (c_add MM CC r2) (fun h3 H => ?_)
    rw [e3, show nI n + (1 : Int32) = nI (n + 1) from nI_1 n]
    have q : rdC mm s n := ⟨by omega, by rw [e71]; exact r, r2⟩
    obtain ⟨f', rfl⟩ : ∃ f', f = f' + 1 := ⟨f - 1, by omega⟩
    rw [rdF, if_pos q, e71] at hr
    refine ih f' _ _ _ (by omega) ⟨n + 1, _, rfl, rfl, by omega, evM_ok MM r2 r, H.1, hr, fun c q r => by rw [evM_c c q r]; exact sm c q r, ?_, ?_⟩
    · rw [H.2.1 _ (by omega)]; exact g1
    · rw [H.2.1 _ (by omega)]; exact g2
  · rw [if_pos (nI_le (by omega) (by omega))]
    exact fin (fun q => q1 (by rw [← szz]; exact q.1))
theorem m_read {m h : Hp} {s : Nat} (hs : s < 4) (M : MOK m) (P : PK m h) (nl : ¬ m.1 69 s < 0) : Ok (f_X8_read h (nI s)) (fun u => u.2 = nI (rdF s 20 0 m).2 ∧ PK (rdF s 20 0 m).1 u.1) := by
  have s31 : s < 2 ^ 31 := by omega
  have le60 := (M.2.2.2.2.2.2 s hs).2.1
  have ez := (M.2.2.2.2.2.2 s hs).2.2
  have nl' : 0 ≤ m.1 69 s := by
    rw [Int32.le_iff_toInt_le]
    rw [Int32.lt_iff_toInt_lt] at nl
    omega
  unfold f_X8_read
  rw [ms_eq, bdr_some, if_pos (inR_nI (by omega) (by omega) (by decide)), if_neg one_ne, ck_nI hs (by decide), ia_nI s31, P.2.2.2.2.2.1, if_pos nl']
  refine ok_fx3 (fun f h1 x y => ∃ n mm, x = nI n ∧ PK mm h1 ∧ ((y = 0 ∧ f = 0 ∧ rdF s 20 0 m = (mm, n)) ∨ (y = 1 ∧ 0 < f ∧ f + n = 21 ∧ MOK mm ∧ rdF s (f - 1) n mm = rdF s 20 0 m ∧ ∀ c, c ≠ 68 → c ≠ 78 → mm.1 c = m.1 c))) 21 (by decide) ⟨0, m, rfl, P, Or.inr ⟨rfl, by decide, rfl, M, rfl, fun _ _ _ => rfl⟩⟩ ?_
  rintro f self h1 x y ⟨n, mm, rfl, PP, H⟩ ih
  rcases H with ⟨rfl, -, e⟩ | ⟨rfl, f0, hf, MM, hr, sm⟩
  · rw [if_pos rfl, e]; exact ok_some ⟨rfl, PP⟩
  · rw [if_neg one_ne, ck_nI hs (by decide), ia_nI s31]
    have szz : sSz mm s = sSz m s := by unfold sSz; rw [sm 70 (by decide) (by decide)]
    have e71 : mm.1 71 = m.1 71 := sm 71 (by decide) (by decide)
    have ez' : h1.1 70 s = nI (sSz m s) := by rw [PP.2.2.2.2.2.2.1, sm 70 (by decide) (by decide)]; exact ez
    have e3 : (3 : Int32) * nI n + 3 = nI (3 * n + 3) := by rw [t30]; exact nI_add _ 3
    rw [ez', e3]
    by_cases q1 : 3 * n + 3 ≤ sSz m s
    · rw [if_neg (nI_nlt q1 (by omega))]
      have e60 : (60 : Int32) * nI s + (3 : Int32) * nI n = nI (60 * s + 3 * n) := by rw [t30, show (60 : Int32) = nI 60 from rfl, pk_mul, nI_add]
      have e1 : nI (60 * s + 3 * n) + (1 : Int32) = nI (60 * s + 3 * n + 1) := nI_1 _
      have e2 : nI (60 * s + 3 * n) + (2 : Int32) = nI (60 * s + 3 * n + 2) := nI_add _ 2
      have v71 : h1.1 71 = m.1 71 := PP.2.2.2.2.2.2.2.1.trans e71
      simp only [nm_eq, e60, e1, e2, ck_nI (show 60 * s + 3 * n < 240 by omega) (show 240 < 2 ^ 31 by decide), ck_nI (show 60 * s + 3 * n + 1 < 240 by omega) (show 240 < 2 ^ 31 by decide), ck_nI (show 60 * s + 3 * n + 2 < 240 by omega) (show 240 < 2 ^ 31 by decide), ia_nI (show 60 * s + 3 * n < 2 ^ 31 by omega), ia_nI (show 60 * s + 3 * n + 1 < 2 ^ 31 by omega), ia_nI (show 60 * s + 3 * n + 2 < 2 ^ 31 by omega), v71, lt1_eq]
      by_cases E : evOK (m.1 71 (60 * s + 3 * n)) (m.1 71 (60 * s + 3 * n + 1)) (m.1 71 (60 * s + 3 * n + 2)) ∧ nEv mm < 8
      · refine ok_bnd (m_event MM PP E.2 E.1) (fun h6 x7 H6 => ?_)
        obtain ⟨rfl, P6⟩ := H6
        rw [if_neg (nI_pos (by omega)), if_neg one_ne, show nI n + (1 : Int32) = nI (n + 1) from nI_1 n]
        obtain ⟨f', rfl⟩ : ∃ f', f = f' + 2 := ⟨f - 2, by omega⟩
        have q : rdC mm s n := ⟨by omega, by rw [e71]; exact E.1, E.2⟩
        rw [show f' + 2 - 1 = f' + 1 by omega, rdF, if_pos q, e71] at hr
        exact ih (f' + 1) _ _ _ (by omega) ⟨n + 1, _, rfl, P6, Or.inr ⟨rfl, by omega, by omega, evM_ok MM E.2 E.1, by rw [show f' + 1 - 1 = f' by omega]; exact hr, fun c q r => by rw [evM_c c q r]; exact sm c q r⟩⟩
      · refine ok_bnd (m_event_no MM PP E) (fun h6 x7 H6 => ?_)
        obtain ⟨e7, P6⟩ := H6
        have e7' : x7 < 0 := by
          rw [show x7 = _ from e7]
          split <;> decide
        have q : ¬ rdC mm s n := fun q => E ⟨by rw [← e71]; exact q.2.1, q.2.2⟩
        rw [rdF_no q] at hr
        rw [if_pos e7', if_pos trivial, show nI n + (0 : Int32) = nI n from nI_add n 0]
        exact ih 0 _ _ _ f0 ⟨n, mm, rfl, P6, Or.inl ⟨rfl, rfl, hr.symm⟩⟩
    · rw [if_pos (nI_lt (by omega) (by omega))]
      have q : ¬ rdC mm s n := fun q => q1 (by rw [← szz]; exact q.1)
      rw [rdF_no q] at hr
      rw [← hr]
      exact ok_some ⟨rfl, PP⟩
theorem op_read {h : Hp} (I : Inv h) (a : Int32) : Step (f_X7_read h a) (fun h1 => f_X8_read h1 a) := by
  obtain ⟨m, M, C, P⟩ := I
  by_cases r1 : inR a 0 3
  · obtain ⟨s, -, hs, rfl⟩ := inR_ex r1 (by decide) (by decide)
    have hs4 : s < 4 := by omega
    by_cases nl : m.1 69 s < 0
    · refine comb (v := -11) P (mok_found M 1) ?_ (r_X7_read h _) (fun h1 P1 => ?_) (fun h1 => r_X8_read h1 _)
      · unfold f_X7_read
        rw [cs_eq, bdr_some, if_pos r1, if_neg one_ne, ck_nI hs4 (by decide), nI_clamp (by omega), if_neg ((C.2.2.2.1 s hs4).1 nl), fo_eq, bnd_some]
        exact ok_some ⟨rfl, c_found C 1⟩
      · unfold f_X8_read
        rw [ms_eq, bdr_some, if_pos r1, if_neg one_ne, ck_nI hs4 (by decide), ia_nI (by omega), P1.2.2.2.2.2.1, if_neg (show ¬ 0 ≤ m.1 69 s by rw [Int32.le_iff_toInt_le]; rw [Int32.lt_iff_toInt_lt] at nl; omega), fd_eq, bnd_some]
        exact ok_some ⟨rfl, P1.uf _ _ _⟩
    · obtain ⟨hc, M'⟩ := c_read hs4 M C nl
      exact comb P M' hc (r_X7_read h _) (fun h1 P1 => m_read hs4 M P1 nl) (fun h1 => r_X8_read h1 _)
  · refine comb (v := -2) P M ?_ (r_X7_read h _) (fun h1 P1 => ?_) (fun h1 => r_X8_read h1 _)
    · unfold f_X7_read
      rw [cs_eq, bdr_some, if_neg r1, if_pos rfl]; exact ok_some ⟨rfl, C⟩
    · unfold f_X8_read
      rw [ms_eq, bdr_some, if_neg r1, if_pos rfl]; exact ok_some ⟨rfl, P1⟩
