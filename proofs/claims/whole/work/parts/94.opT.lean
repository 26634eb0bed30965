/-! sheets: sheet, lose, lay, get -/
theorem cr_sh {m m' h h' : Hp} (C : CR m h) (sm : ∀ c, c ≠ 69 → c ≠ 70 → c ≠ 71 → m'.1 c = m.1 c) (sh : ∀ c, (c < 60 ∨ 68 ≤ c) → h'.1 c = h.1 c) (t : ST m' h') : CR m' h' := by
  refine cr_oth C (sm 73 (by decide) (by decide) (by decide)) (sm 74 (by decide) (by decide) (by decide)) (sm 77 (by decide) (by decide) (by decide)) (sm 78 (by decide) (by decide) (by decide)) (by rw [sm 68 (by decide) (by decide) (by decide)]) (fun c q r => sh c (by omega)) (fun c q r => sh c (by omega)) (sh 56 (by decide)) (by rw [sh 0 (by decide)]) (by rw [sh 0 (by decide)]) ?_ t ?_
  · have := C.2.2.1.ke (h' := h') (fun c q r => sh c (by omega))
    unfold SG nSg
    rw [sm 68 (by decide) (by decide) (by decide), sm 91 (by decide) (by decide) (by decide)]
    exact this
  · rw [sh 0 (by decide), sm 68 (by decide) (by decide) (by decide)]; exact C.2.2.2.2.1
theorem mok_sh {m m' : Hp} (M : MOK m) (sm : ∀ c, c ≠ 69 → c ≠ 70 → c ≠ 71 → m'.1 c = m.1 c) (t : ∀ s, s < 4 → (m'.1 69 s = -1 ∨ ∃ z, z < 3 ∧ m'.1 69 s = nI z) ∧ sSz m' s ≤ 60 ∧ m'.1 70 s = nI (sSz m' s)) : MOK m' := by
  refine mok_oth M (sm 74 (by decide) (by decide) (by decide)) (sm 77 (by decide) (by decide) (by decide)) (sm 78 (by decide) (by decide) (by decide)) (by rw [sm 68 (by decide) (by decide) (by decide)]) (by rw [sm 68 (by decide) (by decide) (by decide)]) ?_ t
  unfold nSg
  rw [sm 68 (by decide) (by decide) (by decide), sm 91 (by decide) (by decide) (by decide)]
  exact M.2.2.2.2.2.1
theorem st_upd {m m' h h' : Hp} {s : Nat} (M : MOK m) (T : ST m h) (o : ∀ s', s' < 4 → s' ≠ s → m'.1 69 s' = m.1 69 s' ∧ m'.1 70 s' = m.1 70 s' ∧ ∀ j, j < 60 → m'.1 71 (60 * s' + j) = m.1 71 (60 * s' + j)) (g : ∀ c, c ≠ 60 + 2 * s → c ≠ 60 + 2 * s + 1 → h'.1 c = h.1 c) (own : (m'.1 69 s < 0 → ¬ h'.1 (60 + 2 * s) 1 = 0) ∧ (¬ m'.1 69 s < 0 → h'.1 (60 + 2 * s) 1 = 0 ∧ h'.1 (60 + 2 * s) 2 = m'.1 69 s ∧ h'.1 (60 + 2 * s) 3 = m'.1 70 s ∧ ∀ j, j < sSz m' s → h'.1 (60 + 2 * s + 1) j = m'.1 71 (60 * s + j))) : ST m' h' := by
  intro s' hs'
  by_cases e : s' = s
  · rw [e]; exact own
  · obtain ⟨o1, o2, o3⟩ := o s' hs' e
    have q : sSz m' s' = sSz m s' := by unfold sSz; rw [o2]
    have le := (M.2.2.2.2.2.2 s' hs').2.1
    rw [q, o1, o2, g (60 + 2 * s') (by omega) (by omega), g (60 + 2 * s' + 1) (by omega) (by omega)]
    refine ⟨(T s' hs').1, fun nl => ?_⟩
    obtain ⟨t1, t2, t3, t4⟩ := (T s' hs').2 nl
    exact ⟨t1, t2, t3, fun j hj => by rw [o3 j (by omega)]; exact t4 j hj⟩
theorem neg_form {z : Nat} (hz : z < 3) : ¬ nI z < 0 := nI_pos (by omega)
def zr (m : Hp) (s n : Nat) : Hp := (fun c z => if c = 71 ∧ 60 * s ≤ z ∧ z < 60 * s + n then 0 else m.1 c z, m.2)
theorem zr_get {m : Hp} {s n : Nat} (c z : Nat) : (zr m s n).1 c z = if c = 71 ∧ 60 * s ≤ z ∧ z < 60 * s + n then 0 else m.1 c z := rfl
def shM (m : Hp) (s f n : Nat) : Hp := zr (uf (uf m 69 s (nI f)) 70 s (nI n)) s n
theorem shM_c {m : Hp} {s f n : Nat} : ∀ c, c ≠ 69 → c ≠ 70 → c ≠ 71 → (shM m s f n).1 c = m.1 c := fun c q r t => by
  funext z
  unfold shM
  rw [zr_get, if_neg (fun x => t x.1), uf_ne r, uf_ne q]
theorem shM_69 {m : Hp} {s f n : Nat} (s' : Nat) : (shM m s f n).1 69 s' = if s' = s then nI f else m.1 69 s' := by
  unfold shM
  rw [zr_get, if_neg (show ¬ (69 = 71 ∧ 60 * s ≤ s' ∧ s' < 60 * s + n) by omega), uf_ne (by decide), uf_get]
  by_cases e : s' = s
  · rw [if_pos ⟨rfl, e⟩, if_pos e]
  · rw [if_neg (fun x => e x.2), if_neg e]
theorem shM_70 {m : Hp} {s f n : Nat} (s' : Nat) : (shM m s f n).1 70 s' = if s' = s then nI n else m.1 70 s' := by
  unfold shM
  rw [zr_get, if_neg (show ¬ (70 = 71 ∧ 60 * s ≤ s' ∧ s' < 60 * s + n) by omega), uf_get]
  by_cases e : s' = s
  · rw [if_pos ⟨rfl, e⟩, if_pos e]
  · rw [if_neg (fun x => e x.2), if_neg e, uf_ne (by decide)]
theorem shM_71 {m : Hp} {s f n : Nat} (z : Nat) : (shM m s f n).1 71 z = if 60 * s ≤ z ∧ z < 60 * s + n then 0 else m.1 71 z := by
  unfold shM
  rw [zr_get]
  by_cases e : 60 * s ≤ z ∧ z < 60 * s + n
  · rw [if_pos ⟨rfl, e⟩, if_pos e]
  · rw [if_neg (fun x => e x.2), if_neg e, uf_ne (by decide), uf_ne (by decide)]
theorem shM_sz {m : Hp} {s f n : Nat} (hn : n ≤ 60) (s' : Nat) : sSz (shM m s f n) s' = if s' = s then n else sSz m s' := by
  unfold sSz
  rw [shM_70]
  by_cases e : s' = s
  · rw [if_pos e, if_pos e]; exact nI_clamp (by omega)
  · rw [if_neg e, if_neg e]
theorem shM_ok {m : Hp} {s f n : Nat} (M : MOK m) (hf : f < 3) (hn : n ≤ 60) : MOK (shM m s f n) := by
  refine mok_sh M shM_c (fun s' hs' => ?_)
  rw [shM_69, shM_70, shM_sz hn]
  by_cases e : s' = s
  · rw [if_pos e, if_pos e, if_pos e]; exact ⟨Or.inr ⟨f, hf, rfl⟩, hn, rfl⟩
  · rw [if_neg e, if_neg e, if_neg e]; exact M.2.2.2.2.2.2 s' hs'
theorem c_makeNew {h : Hp} {s n : Nat} {f : Int32} (hs : s < 4) (hn : n ≤ 60) : Ok (f_X1_makeNew h (60 + 2 * s) f (nI n)) (fun h' => (∀ c, c ≠ 60 + 2 * s → c ≠ 60 + 2 * s + 1 → h'.1 c = h.1 c) ∧ h'.1 (60 + 2 * s) 1 = 0 ∧ h'.1 (60 + 2 * s) 2 = f ∧ h'.1 (60 + 2 * s) 3 = nI n ∧ ∀ j, j < 60 → h'.1 (60 + 2 * s + 1) j = 0) := by
  have l60 : sl (60 + 2 * s + 1) = 60 := (show ∀ s, s < 4 → sl (60 + 2 * s + 1) = 60 by decide +kernel) s hs
  have jm : jmax (0 : Int32) (jmin (nI n) (60 : Int32)) = nI n := (show ∀ n, n < 61 → jmax (0 : Int32) (jmin (nI n) (60 : Int32)) = nI n by decide +kernel) n (by omega)
  unfold f_X1_makeNew
  refine ok_bdv (p_fill (by rw [l60]; decide)) (fun h1 H1 => ?_)
  obtain ⟨g1, g2, g3⟩ := H1
  rw [nm_eq, nm_eq, nm_eq, jm]
  refine ok_some ⟨fun c q r => ?_, ?_, ?_, ?_, fun j hj => ?_⟩
  · rw [uf_ne q, uf_ne q, uf_ne q]; exact g1 c r
  · simp [uf_get]
  · simp [uf_get]
  · simp [uf_get]
  · have e : 60 + 2 * s + 1 ≠ 60 + 2 * s := by omega
    rw [uf_ne e, uf_ne e, uf_ne e]; exact g3 j (by rw [l60]; exact hj)
theorem c_sheet {m h : Hp} {s f n : Nat} (M : MOK m) (C : CR m h) (hs : s < 4) (hf : f < 3) (hn : n ≤ 60) : Ok (f_X7_sheet h (nI s) (nI f) (nI n)) (fun u => u.2 = nI n ∧ CR (shM m s f n) u.1) := by
  unfold f_X7_sheet
  rw [cs_eq, bdr_some, if_pos (inR_nI (by omega) (by omega) (by decide)), if_neg one_ne, cf_eq, bdr_some, if_pos (inR_nI (by omega) (by omega) (by decide)), if_neg one_ne, if_pos (show nI n ≤ 60 from nI_le (b := 60) hn (by decide)), if_pos (nI_pos' (by omega)), ck_nI hs (by decide), nI_clamp (by omega)]
  refine ok_bdv (c_makeNew hs hn) (fun h4 H4 => ?_)
  obtain ⟨g1, g2, g3, g4, g5⟩ := H4
  refine ok_some ⟨rfl, cr_sh C shM_c (fun c q => g1 c (by omega) (by omega)) (st_upd (s := s) M C.2.2.2.1 (fun s' hs' e => ?_) g1 ?_)⟩
  · rw [shM_69, shM_70, if_neg e, if_neg e]
    exact ⟨rfl, rfl, fun j hj => by rw [shM_71, if_neg (by omega)]⟩
  · rw [shM_69, if_pos rfl, shM_70, if_pos rfl, shM_sz hn, if_pos rfl]
    refine ⟨fun q => absurd q (neg_form hf), fun _ => ⟨g2, g3, g4, fun j hj => ?_⟩⟩
    rw [g5 j (by omega), shM_71, if_pos (by omega)]
theorem e60 (s j : Nat) : (60 : Int32) * nI s + nI j = nI (60 * s + j) := by rw [show (60 : Int32) = nI 60 from rfl, pk_mul, nI_add]
theorem m_sheet {m h : Hp} {s f n : Nat} (P : PK m h) (hs : s < 4) (hf : f < 3) (hn : n ≤ 60) : Ok (f_X8_sheet h (nI s) (nI f) (nI n)) (fun u => u.2 = nI n ∧ PK (shM m s f n) u.1) := by
  have s31 : s < 2 ^ 31 := by omega
  unfold f_X8_sheet
  rw [ms_eq, bdr_some, if_pos (inR_nI (by omega) (by omega) (by decide)), if_neg one_ne, v_2, bdr_some, if_pos (inR_nI (by omega) (by omega) (by decide)), if_neg one_ne, if_pos (show nI n ≤ 60 from nI_le (b := 60) hn (by decide)), if_pos (nI_pos' (by omega)), ck_nI hs (by decide), ux_nI s31, nm_eq, ck_nI hs (by decide), ux_nI s31, nm_eq]
  have P2 : PK (uf (uf m 69 s (nI f)) 70 s (nI n)) (uf (uf h 69 s (nI f)) 70 s (nI n)) := (P.uf _ _ _).uf _ _ _
  refine ok_fx2 (fun g h1 y => ∃ j, y = nI j ∧ j + g = n ∧ (∀ c, c ≠ 71 → h1.1 c = (uf (uf h 69 s (nI f)) 70 s (nI n)).1 c) ∧ ∀ z, h1.1 71 z = if 60 * s ≤ z ∧ z < 60 * s + j then 0 else h.1 71 z) n (by omega) ⟨0, rfl, by omega, fun _ _ => rfl, fun z => by rw [if_neg (by omega), uf_ne (by decide), uf_ne (by decide)]⟩ ?_
  rintro g self h1 y ⟨j, rfl, hj, g1, g2⟩ ih
  by_cases hg : g = 0
  · have e : j = n := by omega
    rw [if_pos (nI_le (by omega) (by omega))]
    refine ok_some ⟨rfl, ?_⟩
    obtain ⟨p1, p2, p3, p4, p5, p6, p7, p8, p9, p10, p11, p12⟩ := P2
    have z : ∀ c, c ≠ 71 → (shM m s f n).1 c = (uf (uf m 69 s (nI f)) 70 s (nI n)).1 c := fun c q => by
      funext z
      unfold shM
      rw [zr_get, if_neg (fun x => q x.1)]
    refine ⟨?_, ?_, ?_, ?_, ?_, ?_, ?_, ?_, ?_, ?_, ?_, ?_⟩
    · exact (g1 73 (by decide)).trans (p1.trans (z 73 (by decide)).symm)
    · exact (g1 74 (by decide)).trans (p2.trans (z 74 (by decide)).symm)
    · exact (g1 77 (by decide)).trans (p3.trans (z 77 (by decide)).symm)
    · exact (g1 78 (by decide)).trans (p4.trans (z 78 (by decide)).symm)
    · exact (g1 91 (by decide)).trans (p5.trans (z 91 (by decide)).symm)
    · exact (g1 69 (by decide)).trans (p6.trans (z 69 (by decide)).symm)
    · exact (g1 70 (by decide)).trans (p7.trans (z 70 (by decide)).symm)
    · funext zz
      show h1.1 71 zz = _
      rw [g2, shM_71, P.2.2.2.2.2.2.2.1, e]
    · show h1.1 68 4 = _
      rw [g1 68 (by decide), z 68 (by decide)]; exact p9
    · show h1.1 68 12 = _
      rw [g1 68 (by decide), z 68 (by decide)]; exact p10
    · show h1.1 68 14 = _
      rw [g1 68 (by decide), z 68 (by decide)]; exact p11
    · show h1.1 68 29 = _
      rw [g1 68 (by decide), z 68 (by decide)]; exact p12
  · have jn : j < n := by omega
    rw [if_neg (nI_ge jn (by omega)), e60, ck_nI (by omega) (by decide), ux_nI (by omega), nm_eq, nm_eq, show nI j + (1 : Int32) = nI (j + 1) from nI_1 j]
    refine ih (g - 1) _ _ (by omega) ⟨j + 1, rfl, by omega, fun c q => by rw [uf_ne q]; exact g1 c q, fun z => ?_⟩
    rw [uf_get, g2]
    by_cases e : z = 60 * s + j
    · rw [if_pos ⟨rfl, e⟩, if_pos (by omega)]
    · rw [if_neg (fun x => e x.2)]
      by_cases e2 : 60 * s ≤ z ∧ z < 60 * s + j
      · rw [if_pos e2, if_pos (by omega)]
      · rw [if_neg e2, if_neg (by omega)]
theorem op_sheet {h : Hp} (I : Inv h) (a b c : Int32) : Step (f_X7_sheet h a b c) (fun h1 => f_X8_sheet h1 a b c) := by
  obtain ⟨m, M, C, P⟩ := I
  by_cases r1 : inR a 0 3
  · by_cases r2 : inR b 0 2
    · by_cases r3 : c ≤ 60
      · by_cases r4 : 0 ≤ c
        · obtain ⟨s, -, hs, rfl⟩ := inR_ex r1 (by decide) (by decide)
          obtain ⟨f, -, hf, rfl⟩ := inR_ex r2 (by decide) (by decide)
          obtain ⟨n, -, hn, rfl⟩ := rg_ex (a := c) (lo := 0) (hi := 60) (by decide) (Int32.not_lt.mpr r4) (Int32.not_lt.mpr r3) (by decide)
          exact comb P (shM_ok M (by omega) hn) (c_sheet M C (by omega) (by omega) hn) (r_X7_sheet h _ _ _) (fun h1 P1 => m_sheet P1 (by omega) (by omega) hn) (fun h1 => r_X8_sheet h1 _ _ _)
        · refine comb (v := -15) P (mok_found M 5) ?_ (r_X7_sheet h _ _ _) (fun h1 P1 => ?_) (fun h1 => r_X8_sheet h1 _ _ _)
          · unfold f_X7_sheet
            rw [cs_eq, bdr_some, if_pos r1, if_neg one_ne, cf_eq, bdr_some, if_pos r2, if_neg one_ne, if_pos r3, if_neg r4, fo_eq, bnd_some]
            exact ok_some ⟨rfl, c_found C 5⟩
          · unfold f_X8_sheet
            rw [ms_eq, bdr_some, if_pos r1, if_neg one_ne, v_2, bdr_some, if_pos r2, if_neg one_ne, if_pos r3, if_neg r4, fd_eq, bnd_some]
            exact ok_some ⟨rfl, P1.uf _ _ _⟩
      · refine comb (v := -2) P M ?_ (r_X7_sheet h _ _ _) (fun h1 P1 => ?_) (fun h1 => r_X8_sheet h1 _ _ _)
        · unfold f_X7_sheet
          rw [cs_eq, bdr_some, if_pos r1, if_neg one_ne, cf_eq, bdr_some, if_pos r2, if_neg one_ne, if_neg r3]
          exact ok_some ⟨rfl, C⟩
        · unfold f_X8_sheet
          rw [ms_eq, bdr_some, if_pos r1, if_neg one_ne, v_2, bdr_some, if_pos r2, if_neg one_ne, if_neg r3]
          exact ok_some ⟨rfl, P1⟩
    · refine comb (v := -2) P M ?_ (r_X7_sheet h _ _ _) (fun h1 P1 => ?_) (fun h1 => r_X8_sheet h1 _ _ _)
      · unfold f_X7_sheet
        rw [cs_eq, bdr_some, if_pos r1, if_neg one_ne, cf_eq, bdr_some, if_neg r2, if_pos rfl]
        exact ok_some ⟨rfl, C⟩
      · unfold f_X8_sheet
        rw [ms_eq, bdr_some, if_pos r1, if_neg one_ne, v_2, bdr_some, if_neg r2, if_pos rfl]
        exact ok_some ⟨rfl, P1⟩
  · refine comb (v := -2) P M ?_ (r_X7_sheet h _ _ _) (fun h1 P1 => ?_) (fun h1 => r_X8_sheet h1 _ _ _)
    · unfold f_X7_sheet
      rw [cs_eq, bdr_some, if_neg r1, if_pos rfl]
      exact ok_some ⟨rfl, C⟩
    · unfold f_X8_sheet
      rw [ms_eq, bdr_some, if_neg r1, if_pos rfl]
      exact ok_some ⟨rfl, P1⟩
theorem nneg {x : Int32} : ¬ x < 0 ↔ 0 ≤ x := Int32.not_lt
theorem op_lose {h : Hp} (I : Inv h) (a : Int32) : Step (f_X7_lose h a) (fun h1 => f_X8_lose h1 a) := by
  obtain ⟨m, M, C, P⟩ := I
  by_cases r1 : inR a 0 3
  · obtain ⟨s, -, hs, rfl⟩ := inR_ex r1 (by decide) (by decide)
    have hs4 : s < 4 := by omega
    have s31 : s < 2 ^ 31 := by omega
    by_cases nl : m.1 69 s < 0
    · refine comb (v := -11) P (mok_found M 1) ?_ (r_X7_lose h _) (fun h1 P1 => ?_) (fun h1 => r_X8_lose h1 _)
      · unfold f_X7_lose
        rw [cs_eq, bdr_some, if_pos r1, if_neg one_ne, ck_nI hs4 (by decide), nI_clamp s31, if_neg ((C.2.2.2.1 s hs4).1 nl), fo_eq, bnd_some]
        exact ok_some ⟨rfl, c_found C 1⟩
      · unfold f_X8_lose
        rw [ms_eq, bdr_some, if_pos r1, if_neg one_ne, ck_nI hs4 (by decide), ia_nI s31, P1.2.2.2.2.2.1, if_neg (fun t => nneg.mpr t nl), fd_eq, bnd_some]
        exact ok_some ⟨rfl, P1.uf _ _ _⟩
    · obtain ⟨l1, l2, l3, l4⟩ := (C.2.2.2.1 s hs4).2 nl
      have sm : ∀ c, c ≠ 69 → c ≠ 70 → c ≠ 71 → (uf m 69 s (-1)).1 c = m.1 c := fun c q _ _ => uf_ne q
      refine comb (m' := uf m 69 s (-1)) (v := m.1 70 s) P ?_ ?_ (r_X7_lose h _) (fun h1 P1 => ?_) (fun h1 => r_X8_lose h1 _)
      · refine mok_sh M sm (fun s' hs' => ?_)
        have q : sSz (uf m 69 s (-1)) s' = sSz m s' := by unfold sSz; rw [uf_ne (by decide)]
        rw [q, uf_ne (show 70 ≠ 69 by decide), uf_get]
        refine ⟨?_, (M.2.2.2.2.2.2 s' hs').2⟩
        by_cases e : s' = s
        · rw [if_pos ⟨rfl, e⟩]; exact Or.inl rfl
        · rw [if_neg (fun x => e x.2)]; exact (M.2.2.2.2.2.2 s' hs').1
      · unfold f_X7_lose
        rw [cs_eq, bdr_some, if_pos r1, if_neg one_ne, ck_nI hs4 (by decide), nI_clamp s31, if_pos l1, nm_eq]
        refine ok_some ⟨by show (uf h (60 + 2 * s) 1 1).1 (60 + 2 * s) 3 = _; rw [uf_get, if_neg (by simp)]; exact l3, cr_sh C sm (fun c q => uf_ne (by omega)) (st_upd (s := s) M C.2.2.2.1 (fun s' hs' e => ?_) (fun c q _ => uf_ne q) ⟨fun _ => ?_, fun t => ?_⟩)⟩
        · rw [uf_get, if_neg (fun x => e x.2), uf_ne (show 70 ≠ 69 by decide), uf_ne (show 71 ≠ 69 by decide)]
          exact ⟨rfl, rfl, fun _ _ => rfl⟩
        · rw [uf_get, if_pos ⟨rfl, rfl⟩]; decide
        · rw [uf_get, if_pos ⟨rfl, rfl⟩] at t
          exact absurd (show (-1 : Int32) < 0 by decide) t
      · unfold f_X8_lose
        rw [ms_eq, bdr_some, if_pos r1, if_neg one_ne, ck_nI hs4 (by decide), ia_nI s31, P1.2.2.2.2.2.1, if_pos (nneg.mp nl), ck_nI hs4 (by decide), ux_nI s31, nm_eq, ck_nI hs4 (by decide), ia_nI s31]
        exact ok_some ⟨by show (uf h1 69 s (-1)).1 70 s = _; rw [uf_ne (by decide), P1.2.2.2.2.2.2.1], P1.uf _ _ _⟩
  · refine comb (v := -2) P M ?_ (r_X7_lose h _) (fun h1 P1 => ?_) (fun h1 => r_X8_lose h1 _)
    · unfold f_X7_lose
      rw [cs_eq, bdr_some, if_neg r1, if_pos rfl]; exact ok_some ⟨rfl, C⟩
    · unfold f_X8_lose
      rw [ms_eq, bdr_some, if_neg r1, if_pos rfl]; exact ok_some ⟨rfl, P1⟩
/-- what is found at place i of sheet s -/
def lkV (m : Hp) (s : Nat) (f i : Int32) : Int32 := if m.1 69 s < 0 then 1 else if m.1 69 s = f then (if ¬ i < 0 ∧ ¬ m.1 70 s - 1 < i then 0 else 2) else 3
theorem c_finding {m h : Hp} {s : Nat} (C : CR m h) (hs : s < 4) (f i : Int32) : f_X7_findingAt h (60 + 2 * s) f i = some (lkV m s f i) := by
  unfold f_X7_findingAt lkV
  by_cases nl : m.1 69 s < 0
  · rw [if_neg ((C.2.2.2.1 s hs).1 nl), if_pos nl]
  · obtain ⟨l1, l2, l3, l4⟩ := (C.2.2.2.1 s hs).2 nl
    rw [if_pos l1, if_neg nl, l2, l3]
    by_cases q : m.1 69 s = f
    · rw [if_pos q, if_pos q, wi_if, bdr_some]
      by_cases r : ¬ i < 0 ∧ ¬ m.1 70 s - 1 < i
      · rw [if_pos r, if_neg one_ne, if_pos r]
      · rw [if_neg r, if_pos rfl, if_neg r]
    · rw [if_neg q, if_neg q]
theorem m_lacks {m h : Hp} {s : Nat} (P : PK m h) (hs : s < 4) (f i : Int32) : f_X8_lacks h (nI s) f i = some (if lkV m s f i = 0 then (h, 0) else (uf h 68 4 (lkV m s f i), -10 - lkV m s f i)) := by
  have s31 : s < 2 ^ 31 := by omega
  unfold f_X8_lacks lkV
  rw [ck_nI hs (by decide), ia_nI s31, P.2.2.2.2.2.1]
  by_cases nl : m.1 69 s < 0
  · rw [if_neg (fun t => nneg.mpr t nl), if_pos nl, if_neg one_ne, fd_eq, bnd_some]
  · rw [if_pos (nneg.mp nl), if_neg nl, ck_nI hs (by decide)]
    by_cases q : m.1 69 s = f
    · rw [if_pos q, if_pos q, ck_nI hs (by decide), ia_nI s31, P.2.2.2.2.2.2.1, show (0 : Int64) = (0 : Int32).toInt64 from rfl, mi_if, bdr_some]
      by_cases r : ¬ i < 0 ∧ ¬ m.1 70 s - 1 < i
      · rw [if_pos r, if_neg one_ne, if_pos r, if_pos rfl]
      · rw [if_neg r, if_pos rfl, if_neg r, if_neg (by decide), fd_eq, bnd_some]
    · rw [if_neg q, if_neg q, if_neg (by decide), fd_eq, bnd_some]
def cutV (f v : Int32) : Int32 := if f = 0 then v.toInt8.toInt32 else if f = 1 then v.toInt16.toInt32 else v
theorem cut_eq (f v : Int32) : f_X8_cut f v = some (cutV f v) := by
  unfold f_X8_cut cutV
  split
  · rfl
  · split <;> rfl
theorem fit_eq (h : Hp) (S : Nat) (v : Int32) : f_X1_fitted h S v = some (cutV (h.1 S 2) v) := by
  unfold f_X1_fitted cutV
  split
  · rfl
  · split <;> rfl
theorem lk0 {m : Hp} {s : Nat} {f i : Int32} (M : MOK m) (hs : s < 4) (h : lkV m s f i = 0) : ¬ m.1 69 s < 0 ∧ m.1 69 s = f ∧ ∃ j, j < sSz m s ∧ i = nI j := by
  unfold lkV at h
  by_cases nl : m.1 69 s < 0
  · rw [if_pos nl] at h; exact absurd h one_ne
  · rw [if_neg nl] at h
    by_cases q : m.1 69 s = f
    · rw [if_pos q] at h
      by_cases r : ¬ i < 0 ∧ ¬ m.1 70 s - 1 < i
      · refine ⟨nl, q, ?_⟩
        obtain ⟨le, ez⟩ := (M.2.2.2.2.2.2 s hs).2
        rw [ez] at r
        by_cases z0 : sSz m s = 0
        · exfalso
          rw [z0] at r
          obtain ⟨r1, r2⟩ := r
          rw [Int32.lt_iff_toInt_lt] at r1 r2
          have y : (0 : Int32).toInt = 0 := by decide
          have y2 : (nI 0 - 1 : Int32).toInt = -1 := by decide
          omega
        · obtain ⟨n, hn⟩ : ∃ n, sSz m s = n + 1 := ⟨sSz m s - 1, by omega⟩
          rw [hn, nI_pred] at r
          obtain ⟨j, -, hj, e⟩ := rg_ex (lo := 0) (hi := n) (by omega) r.1 r.2 (by decide)
          exact ⟨j, by omega, e⟩
      · rw [if_neg r] at h; exact absurd h (by decide)
    · rw [if_neg q] at h; exact absurd h (by decide)
theorem ly_ok {m : Hp} {s j : Nat} (M : MOK m) (v : Int32) : MOK (uf m 71 (60 * s + j) v) := by
  refine mok_sh M (fun c _ _ r => uf_ne r) (fun s' hs' => ?_)
  have q : sSz (uf m 71 (60 * s + j) v) s' = sSz m s' := by unfold sSz; rw [uf_ne (by decide)]
  rw [q, uf_ne (show 69 ≠ 71 by decide), uf_ne (show 70 ≠ 71 by decide)]
  exact M.2.2.2.2.2.2 s' hs'
/-- one item of a sheet is written -/
theorem c_item {m h : Hp} {s j : Nat} (M : MOK m) (C : CR m h) (hs : s < 4) (nl : ¬ m.1 69 s < 0) (hj : j < sSz m s) (v : Int32) : CR (uf m 71 (60 * s + j) v) (uf h (60 + 2 * s + 1) j v) := by
  have le := (M.2.2.2.2.2.2 s hs).2.1
  have f : ∀ c, c ≠ 60 + 2 * s + 1 → (uf h (60 + 2 * s + 1) j v).1 c = h.1 c := fun c q => uf_ne q
  have q : sSz (uf m 71 (60 * s + j) v) s = sSz m s := by unfold sSz; rw [uf_ne (by decide)]
  refine cr_sh C (fun c _ _ r => uf_ne r) (fun c q => f c (by omega)) (st_upd (s := s) M C.2.2.2.1 (fun s' hs' e => ?_) (fun c _ q => f c q) ?_)
  · rw [uf_ne (show 69 ≠ 71 by decide), uf_ne (show 70 ≠ 71 by decide)]
    exact ⟨rfl, rfl, fun j' hj' => by rw [uf_get, if_neg (by omega)]⟩
  · rw [q, uf_ne (show 69 ≠ 71 by decide), uf_ne (show 70 ≠ 71 by decide), f (60 + 2 * s) (by omega)]
    refine ⟨fun t => absurd t nl, fun _ => ?_⟩
    obtain ⟨l1, l2, l3, l4⟩ := (C.2.2.2.1 s hs).2 nl
    refine ⟨l1, l2, l3, fun j' hj' => ?_⟩
    rw [uf_get, uf_get]
    by_cases e : j' = j
    · rw [if_pos ⟨rfl, e⟩, if_pos ⟨rfl, by omega⟩]
    · rw [if_neg (fun x => e x.2), if_neg (by omega)]; exact l4 j' hj'
theorem c_put {m h : Hp} {s j : Nat} (M : MOK m) (C : CR m h) (hs : s < 4) (nl : ¬ m.1 69 s < 0) (hj : j < sSz m s) (v : Int32) : f_X1_put h (60 + 2 * s) (nI j) v = some (uf h (60 + 2 * s + 1) j (cutV (m.1 69 s) v)) := by
  have le := (M.2.2.2.2.2.2 s hs).2
  obtain ⟨l1, l2, l3, l4⟩ := (C.2.2.2.1 s hs).2 nl
  unfold f_X1_put
  rw [if_neg (nI_pos (by omega)), l3, le.2, if_neg (nI_ge hj (by omega)), if_neg (show ¬ (60 : Int32) ≤ nI j from nI_ge (b := 60) (by omega) (by decide)), fit_eq, l2, bdr_some, ck_nI (by omega) (by decide), ux_nI (by omega), nm_eq]
theorem op_lay {h : Hp} (I : Inv h) (a b c d : Int32) : Step (f_X7_lay h a b c d) (fun h1 => f_X8_lay h1 a b c d) := by
  obtain ⟨m, M, C, P⟩ := I
  by_cases r1 : inR a 0 3
  · by_cases r2 : inR b 0 2
    · obtain ⟨s, -, hs, rfl⟩ := inR_ex r1 (by decide) (by decide)
      have hs4 : s < 4 := by omega
      by_cases k : lkV m s b c = 0
      · obtain ⟨nl, ef, j, hj, rfl⟩ := lk0 M hs4 k
        have le := (M.2.2.2.2.2.2 s hs4).2.1
        refine comb (m' := uf m 71 (60 * s + j) (cutV b d)) (v := 1) P (ly_ok M _) ?_ (r_X7_lay h _ _ _ _) (fun h1 P1 => ?_) (fun h1 => r_X8_lay h1 _ _ _ _)
        · unfold f_X7_lay
          rw [cs_eq, bdr_some, if_pos r1, if_neg one_ne, cf_eq, bdr_some, if_pos r2, if_neg one_ne, ck_nI hs4 (by decide), nI_clamp (by omega), c_finding C hs4, bdr_some, if_pos k, ck_nI hs4 (by decide), c_put M C hs4 nl hj, bdv_some, ef]
          exact ok_some ⟨rfl, c_item M C hs4 nl hj _⟩
        · unfold f_X8_lay
          rw [ms_eq, bdr_some, if_pos r1, if_neg one_ne, v_2, bdr_some, if_pos r2, if_neg one_ne, m_lacks P1 hs4, if_pos k, bnd_some, if_pos rfl, cut_eq, bdr_some, e60, ck_nI (by omega) (by decide), ux_nI (by omega), nm_eq]
          exact ok_some ⟨rfl, P1.uf _ _ _⟩
      · refine comb (v := -10 - lkV m s b c) P (mok_found M (lkV m s b c)) ?_ (r_X7_lay h _ _ _ _) (fun h1 P1 => ?_) (fun h1 => r_X8_lay h1 _ _ _ _)
        · unfold f_X7_lay
          rw [cs_eq, bdr_some, if_pos r1, if_neg one_ne, cf_eq, bdr_some, if_pos r2, if_neg one_ne, ck_nI hs4 (by decide), nI_clamp (by omega), c_finding C hs4, bdr_some, if_neg k, fo_eq, bnd_some]
          exact ok_some ⟨rfl, c_found C _⟩
        · unfold f_X8_lay
          have k2 : ¬ -10 - lkV m s b c = 0 := by
            unfold lkV at k ⊢
            split
            · decide
            · split
              · split <;> decide
              · decide
          rw [ms_eq, bdr_some, if_pos r1, if_neg one_ne, v_2, bdr_some, if_pos r2, if_neg one_ne, m_lacks P1 hs4, if_neg k, bnd_some, if_neg k2]
          exact ok_some ⟨rfl, P1.uf _ _ _⟩
    · refine comb (v := -2) P M ?_ (r_X7_lay h _ _ _ _) (fun h1 P1 => ?_) (fun h1 => r_X8_lay h1 _ _ _ _)
      · unfold f_X7_lay
        rw [cs_eq, bdr_some, if_pos r1, if_neg one_ne, cf_eq, bdr_some, if_neg r2, if_pos rfl]
        exact ok_some ⟨rfl, C⟩
      · unfold f_X8_lay
        rw [ms_eq, bdr_some, if_pos r1, if_neg one_ne, v_2, bdr_some, if_neg r2, if_pos rfl]
        exact ok_some ⟨rfl, P1⟩
  · refine comb (v := -2) P M ?_ (r_X7_lay h _ _ _ _) (fun h1 P1 => ?_) (fun h1 => r_X8_lay h1 _ _ _ _)
    · unfold f_X7_lay
      rw [cs_eq, bdr_some, if_neg r1, if_pos rfl]
      exact ok_some ⟨rfl, C⟩
    · unfold f_X8_lay
      rw [ms_eq, bdr_some, if_neg r1, if_pos rfl]
      exact ok_some ⟨rfl, P1⟩
theorem op_get {h : Hp} (I : Inv h) (a b c : Int32) : Step (f_X7_get h a b c) (fun h1 => f_X8_get h1 a b c) := by
  obtain ⟨m, M, C, P⟩ := I
  by_cases r1 : inR a 0 3
  · by_cases r2 : inR b 0 2
    · obtain ⟨s, -, hs, rfl⟩ := inR_ex r1 (by decide) (by decide)
      have hs4 : s < 4 := by omega
      by_cases k : lkV m s b c = 0
      · obtain ⟨nl, ef, j, hj, rfl⟩ := lk0 M hs4 k
        have le := (M.2.2.2.2.2.2 s hs4).2.1
        refine comb (v := m.1 71 (60 * s + j)) P M ?_ (r_X7_get h _ _ _) (fun h1 P1 => ?_) (fun h1 => r_X8_get h1 _ _ _)
        · unfold f_X7_get
          rw [cs_eq, bdr_some, if_pos r1, if_neg one_ne, cf_eq, bdr_some, if_pos r2, if_neg one_ne, ck_nI hs4 (by decide), nI_clamp (by omega), c_finding C hs4, bdr_some, if_pos k, ck_nI hs4 (by decide), ck_nI (by omega) (by decide), ia_nI (by omega)]
          exact ok_some ⟨((C.2.2.2.1 s hs4).2 nl).2.2.2 j hj, C⟩
        · unfold f_X8_get
          rw [ms_eq, bdr_some, if_pos r1, if_neg one_ne, v_2, bdr_some, if_pos r2, if_neg one_ne, m_lacks P1 hs4, if_pos k, bnd_some, if_pos rfl, e60, ck_nI (by omega) (by decide), ia_nI (by omega)]
          exact ok_some ⟨by show h1.1 71 _ = _; rw [P1.2.2.2.2.2.2.2.1], P1⟩
      · refine comb (v := -2147483648) P (mok_found M (lkV m s b c)) ?_ (r_X7_get h _ _ _) (fun h1 P1 => ?_) (fun h1 => r_X8_get h1 _ _ _)
        · unfold f_X7_get
          rw [cs_eq, bdr_some, if_pos r1, if_neg one_ne, cf_eq, bdr_some, if_pos r2, if_neg one_ne, ck_nI hs4 (by decide), nI_clamp (by omega), c_finding C hs4, bdr_some, if_neg k, fo_eq, bnd_some]
          exact ok_some ⟨rfl, c_found C _⟩
        · unfold f_X8_get
          have k2 : ¬ -10 - lkV m s b c = 0 := by
            unfold lkV at k ⊢
            split
            · decide
            · split
              · split <;> decide
              · decide
          rw [ms_eq, bdr_some, if_pos r1, if_neg one_ne, v_2, bdr_some, if_pos r2, if_neg one_ne, m_lacks P1 hs4, if_neg k, bnd_some, if_neg k2]
          exact ok_some ⟨rfl, P1.uf _ _ _⟩
    · refine comb (v := -2147483648) P M ?_ (r_X7_get h _ _ _) (fun h1 P1 => ?_) (fun h1 => r_X8_get h1 _ _ _)
      · unfold f_X7_get
        rw [cs_eq, bdr_some, if_pos r1, if_neg one_ne, cf_eq, bdr_some, if_neg r2, if_pos rfl]
        exact ok_some ⟨rfl, C⟩
      · unfold f_X8_get
        rw [ms_eq, bdr_some, if_pos r1, if_neg one_ne, v_2, bdr_some, if_neg r2, if_pos rfl]
        exact ok_some ⟨rfl, P1⟩
  · refine comb (v := -2147483648) P M ?_ (r_X7_get h _ _ _) (fun h1 P1 => ?_) (fun h1 => r_X8_get h1 _ _ _)
    · unfold f_X7_get
      rw [cs_eq, bdr_some, if_neg r1, if_pos rfl]
      exact ok_some ⟨rfl, C⟩
    · unfold f_X8_get
      rw [ms_eq, bdr_some, if_neg r1, if_pos rfl]
      exact ok_some ⟨rfl, P1⟩
