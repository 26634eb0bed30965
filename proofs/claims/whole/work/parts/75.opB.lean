abbrev isW (N : Nat) (a : Int32) : Prop := ¬ a < 0 ∧ ¬ nI N - 1 < a
theorem isW_ex {N : Nat} {a : Int32} (hN : N ≤ 6) (h : isW N a) : ∃ k, k < N ∧ a = nI k := by
  cases N with
  | zero =>
    exfalso
    obtain ⟨h1, h2⟩ := h
    rw [Int32.lt_iff_toInt_lt] at h1 h2
    have z : (0 : Int32).toInt = 0 := by decide
    have z2 : (nI 0 - 1 : Int32).toInt = -1 := by decide
    omega
  | succ n =>
    rw [isW, nI_pred] at h
    obtain ⟨k, -, hk, e⟩ := inR_ex (lo := 0) (hi := n) h (by omega) (by omega)
    exact ⟨k, by omega, e⟩
theorem isW_nI {N k : Nat} (hN : N ≤ 6) (hk : k < N) : isW N (nI k) := by
  cases N with
  | zero => omega
  | succ n => rw [isW, nI_pred]; exact ⟨nI_pos (by omega), nI_nlt (by omega) (by omega)⟩
theorem cw_eq {h : Hp} {N : Nat} (hN : N ≤ 6) (e : h.1 5 7 = nI N) (a : Int32) : f_X7_isWalker h a = some (if isW N a then 1 else 0) := by
  unfold f_X7_isWalker
  rw [e, wi_if, bdr_some]
  by_cases q : isW N a
  · obtain ⟨k, hk, rfl⟩ := isW_ex hN q
    rw [if_pos q, if_neg one_ne, if_neg (nI_lt6 (by omega))]
  · rw [if_neg q, if_pos rfl]
theorem mw_eq {h : Hp} {N : Nat} (e : h.1 68 7 = nI N) (a : Int32) : f_X8_isWalker h a = some (if isW N a then 1 else 0) := by
  unfold f_X8_isWalker
  rw [e, show (0 : Int64) = (0 : Int32).toInt64 from rfl, mi_if]
  exact b01
def toldV (m : Hp) : Int32 := if rtF (tx1 m) (rT m) = none then nI (tx1 m) else 0
def TW (m h : Hp) : Prop := h.1 68 7 = nI (nWk m) ∧ ∀ k, k < nWk m → h.1 75 (3 * k) = iSt (inp m) k ∧ h.1 75 (3 * k + 1) = iSo (inp m) k ∧ h.1 75 (3 * k + 2) = iPo (inp m) k
def TR (m h : Hp) : Prop := h.1 68 9 = toldV m ∧ ∀ j, j < 24 → h.1 76 j = iMv (inp m) j
theorem m_rw {m h : Hp} (M : MOK m) (P : PK m h) : Ok (f_X8_readsWalkers h) (fun u => u.2 = wkR (tx0 m) (m.1 73) ∧ PK m u.1 ∧ TW m u.1 ∧ (∀ c, c ≠ 68 → c ≠ 75 → u.1.1 c = h.1 c) ∧ (∀ z, z ≠ 7 → u.1.1 68 z = h.1 68 z)) := by
  refine ok_mono (p_readsWalkers (sz := tx0 m) M.1.1 (by rw [P.2.1]; exact M.1.2)) (fun u H => ?_)
  rw [P.1] at H
  obtain ⟨e, k1, k2, k3, k4, k5⟩ := H
  refine ⟨e, ?_, ⟨?_, fun k hk => ?_⟩, k2, k3⟩
  · obtain ⟨p1, p2, p3, p4, p5, p6, p7, p8, p9, p10, p11, p12⟩ := P
    exact ⟨(k2 73 (by decide) (by decide)).trans p1, (k2 74 (by decide) (by decide)).trans p2, (k2 77 (by decide) (by decide)).trans p3, (k2 78 (by decide) (by decide)).trans p4, (k2 91 (by decide) (by decide)).trans p5, (k2 69 (by decide) (by decide)).trans p6, (k2 70 (by decide) (by decide)).trans p7, (k2 71 (by decide) (by decide)).trans p8, (k3 4 (by decide)).trans p9, (k3 12 (by decide)).trans p10, (k3 14 (by decide)).trans p11, (k3 29 (by decide)).trans p12⟩
  · rw [k1]; unfold nWk
    split <;> rfl
  · obtain ⟨er, hlt⟩ := nWk_pos hk
    have k0 := k5 er (4 * k) (by omega) (by omega)
    have k1' := k5 er (4 * k + 1) (by omega) (by omega)
    have k2' := k5 er (4 * k + 2) (by omega) (by omega)
    rw [show 3 * (4 * k / 4) + 4 * k % 4 = 3 * k by omega, show 4 * k % 4 = 0 by omega] at k0
    rw [show 3 * ((4 * k + 1) / 4) + (4 * k + 1) % 4 = 3 * k + 1 by omega, show (4 * k + 1) % 4 = 1 by omega] at k1'
    rw [show 3 * ((4 * k + 2) / 4) + (4 * k + 2) % 4 = 3 * k + 2 by omega, show (4 * k + 2) % 4 = 2 by omega] at k2'
    exact ⟨k0, k1', k2'⟩
theorem m_rr {m h : Hp} (M : MOK m) (P : PK m h) : Ok (f_X8_readsRoutine h) (fun u => u.2 = rtR (tx1 m) (rT m) ∧ PK m u.1 ∧ TR m u.1 ∧ (∀ c, c ≠ 68 → c ≠ 76 → u.1.1 c = h.1 c) ∧ (∀ z, z ≠ 9 → u.1.1 68 z = h.1 68 z)) := by
  refine ok_mono (p_readsRoutine (sz := tx1 m) M.2.1.1 (by rw [P.2.1]; exact M.2.1.2)) (fun u H => ?_)
  rw [P.1] at H
  obtain ⟨e, k, -⟩ := H
  have k2 : ∀ c, c ≠ 68 → c ≠ 76 → u.1.1 c = h.1 c := fun c q r => by
    funext z
    rw [k]; unfold rtH
    split
    · exact (if_neg (fun x => q x.1)).trans (if_neg (fun x => r x.1))
    · exact (if_neg (fun x => q x.1)).trans (if_neg (fun x => r x.1))
  have k3 : ∀ z, z ≠ 9 → u.1.1 68 z = h.1 68 z := fun z q => by
    rw [k]; unfold rtH
    split
    · exact (if_neg (fun x => q x.2)).trans (if_neg (fun x => absurd x.1 (by decide)))
    · exact (if_neg (fun x => q x.2)).trans (if_neg (fun x => absurd x.1 (by decide)))
  refine ⟨e, ?_, ⟨?_, fun j hj => ?_⟩, k2, k3⟩
  · obtain ⟨p1, p2, p3, p4, p5, p6, p7, p8, p9, p10, p11, p12⟩ := P
    exact ⟨(k2 73 (by decide) (by decide)).trans p1, (k2 74 (by decide) (by decide)).trans p2, (k2 77 (by decide) (by decide)).trans p3, (k2 78 (by decide) (by decide)).trans p4, (k2 91 (by decide) (by decide)).trans p5, (k2 69 (by decide) (by decide)).trans p6, (k2 70 (by decide) (by decide)).trans p7, (k2 71 (by decide) (by decide)).trans p8, (k3 4 (by decide)).trans p9, (k3 12 (by decide)).trans p10, (k3 14 (by decide)).trans p11, (k3 29 (by decide)).trans p12⟩
  · rw [k]; unfold rtH toldV
    show (match rtF (tx1 m) (rT m) with
      | none => _
      | some _ => _) = _
    cases e2 : rtF (tx1 m) (rT m) with
    | none => simp
    | some f => simp
  · rw [k]; unfold rtH
    show (match rtF (tx1 m) (rT m) with
      | none => _
      | some _ => _) = rtV (tx1 m) (rT m) j
    unfold rtV
    cases e2 : rtF (tx1 m) (rT m) with
    | none => simp [hj]; rfl
    | some f => simp [hj]
/-- what was told stands in the reference's cells -/
def MT (m h : Hp) : Prop := PK m h ∧ TM (inp m) h ∧ h.1 68 9 = toldV m
def ML (i : Inp) (h : Hp) : Prop := RM i h (runF i 24).1.1 (runF i 24).1.2.1 ∧ LM i h 24
theorem mt_of {m h : Hp} (M : MOK m) (P : PK m h) (W : TW m h) (R : TR m h) : MT m h := by
  obtain ⟨p1, p2, p3, p4, p5, p6, p7, p8, p9, p10, p11, p12⟩ := id P
  refine ⟨P, ⟨W.1, p10.trans M.2.2.1.2.1, by rw [p3]; rfl, by rw [p3]; rfl, by rw [p3]; rfl, p11.trans M.2.2.2.2.1, W.2, R.2, fun e he => ?_⟩, R.1⟩
  rw [p4]; exact ⟨rfl, rfl, rfl⟩
theorem PK.km {m h h' : Hp} (P : PK m h) (K : KM h h') : PK m h' := by
  obtain ⟨p1, p2, p3, p4, p5, p6, p7, p8, p9, p10, p11, p12⟩ := P
  obtain ⟨k2, k3, -⟩ := K
  exact ⟨(k2 73 (by decide) (by decide)).trans p1, (k2 74 (by decide) (by decide)).trans p2, (k2 77 (by decide) (by decide)).trans p3, (k2 78 (by decide) (by decide)).trans p4, (k2 91 (by decide) (by decide)).trans p5, (k2 69 (by decide) (by decide)).trans p6, (k2 70 (by decide) (by decide)).trans p7, (k2 71 (by decide) (by decide)).trans p8, (k3 4 (by decide) (by decide)).trans p9, (k3 12 (by decide) (by decide)).trans p10, (k3 14 (by decide) (by decide)).trans p11, (k3 29 (by decide) (by decide)).trans p12⟩
theorem MT.km {m h h' : Hp} (T : MT m h) (K : KM h h') : MT m h' := ⟨T.1.km K, km_tm K T.2.1, (K.2.1 9 (by decide) (by decide)).trans T.2.2⟩
theorem m_rd {m h : Hp} (M : MOK m) (P : PK m h) : Ok (bnd (f_X8_readsWalkers h) fun h1 _ => bnd (f_X8_readsRoutine h1) fun h3 _ => some h3) (fun h' => MT m h') := by
  refine ok_bnd (m_rw M P) (fun h1 x1 H1 => ?_)
  obtain ⟨-, P1, W1, -, -⟩ := H1
  refine ok_bnd (m_rr M P1) (fun h2 x2 H2 => ?_)
  obtain ⟨-, P2, R2, f1, f2⟩ := H2
  refine ok_some (mt_of M P2 ⟨?_, fun k hk => ?_⟩ R2)
  · exact (f2 7 (by decide)).trans W1.1
  · have := f1 75 (by decide) (by decide)
    rw [show h2.1 75 = h1.1 75 from this]; exact W1.2 k hk
theorem m_lives {m h : Hp} (M : MOK m) (T : MT m h) : Ok (f_X8_lives h) (fun h' => MT m h' ∧ ML (inp m) h') := by
  refine ok_mono (p_lives (inp_ok M) T.2.1) (fun h' H => ?_)
  exact ⟨T.km H.2.2, H.1, H.2.1⟩
theorem m_find {m h : Hp} (M : MOK m) (P : PK m h) : Ok (f_X8_find h) (fun h' => MT m h' ∧ ML (inp m) h') := by
  unfold f_X8_find
  refine ok_bnd (m_rw M P) (fun h1 x1 H1 => ?_)
  obtain ⟨-, P1, W1, -, -⟩ := H1
  refine ok_bnd (m_rr M P1) (fun h2 x2 H2 => ?_)
  obtain ⟨-, P2, R2, f1, f2⟩ := H2
  have T : MT m h2 := mt_of M P2 ⟨(f2 7 (by decide)).trans W1.1, fun k hk => by
    have := f1 75 (by decide) (by decide)
    rw [show h2.1 75 = h1.1 75 from this]; exact W1.2 k hk⟩ R2
  exact ok_bdv (m_lives M T) (fun h' H => ok_some H)
/-! fault, walker, routine -/
def fltV (m : Hp) (a : Int32) : Int32 := if inR a 0 1 then (if a = 0 then wkR (tx0 m) (m.1 73) else rtR (tx1 m) (rT m)) else -2
theorem c_fault {m h : Hp} (M : MOK m) (C : CR m h) (a : Int32) : Ok (f_X7_fault h a) (fun x => x = fltV m a) := by
  unfold f_X7_fault fltV
  rw [w_1, bdr_some]
  refine ok_w (fun r => ?_) (fun r => ?_)
  · rw [if_pos r]
    refine ok_ite (fun q => ?_) (fun q => ?_)
    · rw [if_pos q]
      exact ok_bdr (p_faultOfWalkers M.1.1 (C.1.1.trans M.1.2)) (fun x hx => ok_some (hx.trans (wkR_congr C.1.2.2.1)))
    · rw [if_neg q]
      exact ok_bdr (p_faultOfRoutine M.2.1.1 (C.1.2.1.trans M.2.1.2)) (fun x hx => ok_some (hx.trans (rtR_congr C.1.2.2.2)))
  · rw [if_neg r]; exact ok_some rfl
theorem m_readsText {m h : Hp} (M : MOK m) (P : PK m h) (a : Int32) : Ok (f_X8_readsText h a) (fun u => u.2 = (if a = 0 then wkR (tx0 m) (m.1 73) else rtR (tx1 m) (rT m)) ∧ PK m u.1) := by
  unfold f_X8_readsText
  refine ok_ite (fun q => ?_) (fun q => ?_)
  · rw [if_pos q]
    exact ok_bnd (m_rw M P) (fun h1 x1 H1 => ok_some ⟨H1.1, H1.2.1⟩)
  · rw [if_neg q]
    exact ok_bnd (m_rr M P) (fun h1 x1 H1 => ok_some ⟨H1.1, H1.2.1⟩)
theorem op_fault {h : Hp} (I : Inv h) (a : Int32) : StepR h (f_X7_fault h a) (f_X8_fault h a) := by
  obtain ⟨m, M, C, P⟩ := I
  refine combR (v := fltV m a) M C (c_fault M C a) ?_ (r_X8_fault h a)
  unfold f_X8_fault fltV
  rw [mt_eq, bdr_some]
  refine ok_w (fun r => ?_) (fun r => ?_)
  · rw [if_pos r]
    exact ok_bnd (m_readsText M P a) (fun h1 x1 H1 => ok_some H1)
  · rw [if_neg r]; exact ok_some ⟨rfl, P⟩
def wlkV (m : Hp) (a b : Int32) : Int32 := if isW (nWk m) a then (if inR b 0 2 then (if b = 0 then iSt (inp m) a.toNatClampNeg else if b = 1 then iSo (inp m) a.toNatClampNeg else iPo (inp m) a.toNatClampNeg) else -2) else -2
theorem c_walker {m h : Hp} (M : MOK m) (C : CR m h) (a b : Int32) : Ok (f_X7_walker h a b) (fun x => x = wlkV m a b) := by
  unfold f_X7_walker wlkV
  rw [cw_eq (nWk_le M) C.2.1.1, bdr_some]
  refine ok_w (fun r => ?_) (fun r => ?_)
  · obtain ⟨k, hk, rfl⟩ := isW_ex (nWk_le M) r
    have k6 : k < 6 := by have := nWk_le M; omega
    obtain ⟨t1, t2, t3⟩ := C.2.1.2.2.2.2.2.1 k hk
    rw [if_pos r, w_2, bdr_some]
    refine ok_w (fun r2 => ?_) (fun r2 => ?_)
    · rw [if_pos r2, nI_clamp (by omega)]
      simp only [ck_nI k6 (show 6 < 2 ^ 31 by decide), ia_nI (show k < 2 ^ 31 by omega), t1, t2, t3]
      refine ok_ite (fun q => ?_) (fun q => ?_)
      · rw [if_pos q]; exact ok_some rfl
      · rw [if_neg q]
        refine ok_ite (fun q => ?_) (fun q => ?_)
        · rw [if_pos q]; exact ok_some rfl
        · rw [if_neg q]; exact ok_some rfl
    · rw [if_neg r2]; exact ok_some rfl
  · rw [if_neg r]; exact ok_some rfl
theorem op_walker {h : Hp} (I : Inv h) (a b : Int32) : StepR h (f_X7_walker h a b) (f_X8_walker h a b) := by
  obtain ⟨m, M, C, P⟩ := I
  refine combR (v := wlkV m a b) M C (c_walker M C a b) ?_ (r_X8_walker h a b)
  unfold f_X8_walker wlkV
  refine ok_bnd (m_rw M P) (fun h1 x1 H1 => ?_)
  obtain ⟨-, P1, W1, -, -⟩ := H1
  rw [mw_eq W1.1, bdr_some]
  refine ok_w (fun r => ?_) (fun r => ?_)
  · obtain ⟨k, hk, rfl⟩ := isW_ex (nWk_le M) r
    have k6 : k < 6 := by have := nWk_le M; omega
    obtain ⟨t1, t2, t3⟩ := W1.2 k hk
    rw [if_pos r, v_2, bdr_some]
    refine ok_w (fun r2 => ?_) (fun r2 => ?_)
    · obtain ⟨z, -, hz, rfl⟩ := inR_ex r2 (by decide) (by decide)
      rw [if_pos r2, nI_clamp (by omega), show (3 : Int32) * nI k + nI z = nI (3 * k + z) by rw [show (3 : Int32) = nI 3 from rfl, pk_mul, nI_add], ck_nI (by omega) (by decide), ia_nI (by omega)]
      rcases (show z = 0 ∨ z = 1 ∨ z = 2 by omega) with rfl | rfl | rfl
      · exact ok_some ⟨t1, P1⟩
      · exact ok_some ⟨t2, P1⟩
      · exact ok_some ⟨t3, P1⟩
    · rw [if_neg r2]; exact ok_some ⟨rfl, P1⟩
  · rw [if_neg r]; exact ok_some ⟨rfl, P1⟩
def rtnV (m : Hp) (a : Int32) : Int32 := if inR a 0 23 then iMv (inp m) a.toNatClampNeg else -2
theorem c_routine {m h : Hp} (C : CR m h) (a : Int32) : Ok (f_X7_routine h a) (fun x => x = rtnV m a) := by
  unfold f_X7_routine rtnV
  rw [cb_eq, bdr_some]
  refine ok_w (fun r => ?_) (fun r => ?_)
  · obtain ⟨z, -, hz, rfl⟩ := inR_ex r (by decide) (by decide)
    rw [if_pos r, ck_nI (by omega) (by decide), ia_nI (by omega), nI_clamp (by omega), C.2.1.2.2.2.2.2.2.1 z (by omega)]
    exact ok_some rfl
  · rw [if_neg r]; exact ok_some rfl
theorem op_routine {h : Hp} (I : Inv h) (a : Int32) : StepR h (f_X7_routine h a) (f_X8_routine h a) := by
  obtain ⟨m, M, C, P⟩ := I
  refine combR (v := rtnV m a) M C (c_routine C a) ?_ (r_X8_routine h a)
  unfold f_X8_routine rtnV
  refine ok_bnd (m_rr M P) (fun h1 x1 H1 => ?_)
  obtain ⟨-, P1, R1, -, -⟩ := H1
  rw [mb_eq, bdr_some]
  refine ok_w (fun r => ?_) (fun r => ?_)
  · obtain ⟨z, -, hz, rfl⟩ := inR_ex r (by decide) (by decide)
    rw [if_pos r, ck_nI (by omega) (by decide), ia_nI (by omega), nI_clamp (by omega), R1.2 z (by omega)]
    exact ok_some ⟨rfl, P1⟩
  · rw [if_neg r]; exact ok_some ⟨rfl, P1⟩
