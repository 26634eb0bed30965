theorem uf_c1 {h m : Hp} {c z a b : Nat} {v : Int32} (e : h.1 a b = m.1 a b) : (uf h c z v).1 a b = (uf m c z v).1 a b := by
  rw [uf_get, uf_get, e]
theorem uf_c0 {h m : Hp} {c z a : Nat} {v : Int32} (e : h.1 a = m.1 a) : (uf h c z v).1 a = (uf m c z v).1 a := by
  funext b
  exact uf_c1 (by rw [e])
theorem PK.uf {m h : Hp} (p : PK m h) (c z : Nat) (v : Int32) : PK (uf m c z v) (uf h c z v) := by
  obtain ⟨p1, p2, p3, p4, p5, p6, p7, p8, p9, p10, p11, p12⟩ := p
  exact ⟨uf_c0 p1, uf_c0 p2, uf_c0 p3, uf_c0 p4, uf_c0 p5, uf_c0 p6, uf_c0 p7, uf_c0 p8, uf_c1 p9, uf_c1 p10, uf_c1 p11, uf_c1 p12⟩
theorem c_type0 {m h : Hp} {sz : Nat} (M : MOK m) (C : CR m h) (hs : tx0 m = sz) {b : Int32} (hb : inR b 0 255) (hf : sz < 23) : Ok (f_X7_type h (nI 0) b) (fun u => u.2 = nI (sz + 1) ∧ CR (uf (uf m 73 (0 + sz) b) 74 0 (nI (sz + 1))) u.1 ∧ ∀ c, 68 ≤ c → u.1.1 c = h.1 c) := by
  have e1 : h.1 1 1 = nI sz := by rw [← hs]; exact C.1.1.trans M.1.2
  have s31 : sz < 2 ^ 31 := by omega
  have z0 : tx0 (uf (uf m 73 (0 + sz) b) 74 0 (nI (sz + 1))) = sz + 1 := by
    unfold tx0; rw [uf_get, if_pos ⟨rfl, rfl⟩]; exact nI_clamp (by omega)
  have z1 : tx1 (uf (uf m 73 (0 + sz) b) 74 0 (nI (sz + 1))) = tx1 m := by
    unfold tx1; rw [uf_get, if_neg (by decide), uf_ne (by decide)]
  have q0 : (uf (uf m 73 (0 + sz) b) 74 0 (nI (sz + 1))).1 74 0 = nI (sz + 1) := by rw [uf_get, if_pos ⟨rfl, rfl⟩]
  have q1 : (uf (uf m 73 (0 + sz) b) 74 0 (nI (sz + 1))).1 74 1 = m.1 74 1 := by rw [uf_get, if_neg (by decide), uf_ne (by decide)]
  have sm : ∀ c, c ≠ 73 → c ≠ 74 → (uf (uf m 73 (0 + sz) b) 74 0 (nI (sz + 1))).1 c = m.1 c := fun c q r => by rw [uf_ne r, uf_ne q]
  have M' : MOK (uf (uf m 73 (0 + sz) b) 74 0 (nI (sz + 1))) := mok_tx M sm ⟨by rw [z0]; omega, by rw [z0, q0]⟩ ⟨by rw [z1]; exact M.2.1.1, by rw [z1, q1]; exact M.2.1.2⟩
  have le0 := M.1.1
  have le1 := M.2.1.1
  unfold f_X7_type f_X7_textOf f_X4_hasRoom f_X4_add
  rw [w_1, bdr_some, if_pos (inR_nI (by decide) (by decide) (by decide)), if_neg one_ne, w_255, bdr_some, if_pos hb, if_neg one_ne, if_pos (show nI 0 = 0 from rfl), bdr_some]
  refine ok_cy (by decide) ?_
  have ng : ¬ nI (sl (1 + 1)) ≤ nI sz := nI_ge (b := 23) hf (by decide)
  have n0 : ¬ nI sz < 0 := nI_pos s31
  have i1 : sz < sl (1 + 1) := hf
  have hx : (uf h (1 + 1) sz b).1 1 1 + (1 : Int32) = nI (sz + 1) := by rw [uf_ne (by decide), e1]; exact nI_1 sz
  simp only [e1, if_neg ng, bdr_some, if_neg one_ne, if_neg n0, ck_nI i1 (show sl (1 + 1) < 2 ^ 31 by decide), nm_eq, ux_nI s31, hx, bdv_some]
  refine ok_bdv (c_after C M' ⟨?_, ?_, fun j hj => ?_, fun j hj => ?_⟩ sm (fun c q => by rw [uf_ne (by omega), uf_ne (by omega)])) (fun h7 H => ?_)
  · rw [q0, uf_get, if_pos ⟨rfl, rfl⟩]
  · rw [q1, uf_get, if_neg (by decide), uf_ne (by decide)]; exact C.1.2.1 -- []
  · rw [z0] at hj
    by_cases q : j = sz
    · simp [uf_get, q]
    · simp [uf_get, q]; exact C.1.2.2.1 j (by omega)
  · rw [z1] at hj
    rw [uf_ne (by decide), uf_ne (by decide)]
    unfold rT
    rw [uf_ne (by decide), uf_get, if_neg (by omega)]
    exact C.1.2.2.2 j (by omega)
  · obtain ⟨g1, g2, g3⟩ := H
    exact ok_some ⟨by show h7.1 1 1 = _; rw [g2 1 (by decide) (by decide), uf_get, if_pos ⟨rfl, rfl⟩], g1, g3⟩
theorem m_type0 {m h : Hp} {sz : Nat} (M : MOK m) (P : PK m h) (hs : tx0 m = sz) {b : Int32} (hb : inR b 0 255) (hf : sz < 23) : Ok (f_X8_type h (nI 0) b) (fun u => u.2 = nI (sz + 1) ∧ PK (uf (uf m 73 (0 + sz) b) 74 0 (nI (sz + 1))) u.1) := by
  have e1 : h.1 74 0 = nI sz := by rw [P.2.1, ← hs]; exact M.1.2
  have s31 : sz < 2 ^ 31 := by omega
  have o31 : 0 + sz < 2 ^ 31 := by omega
  have o48 : 0 + sz < 48 := by omega
  unfold f_X8_type
  rw [mt_eq, bdr_some, if_pos (inR_nI (by decide) (by decide) (by decide)), if_neg one_ne, v_255, bdr_some, if_pos hb, if_neg one_ne, lt1_if, if_pos (show nI 0 = 0 from rfl)]
  have nf : ¬ nI sz = (23 : Int32) := fun q => absurd ((nI_eq s31 (by decide)).mp (show nI sz = nI 23 from q)) (by omega)
  have e24 : (24 : Int32) * nI 0 + nI sz = nI (0 + sz) := by rw [show (24 : Int32) = nI 24 from rfl, pk_mul, nI_add]
  have hx : (uf h 73 (0 + sz) b).1 74 0 + (1 : Int32) = nI (sz + 1) := by rw [uf_ne (by decide), e1]; exact nI_1 sz
  simp only [ck_nI (show 0 < 2 by decide) (show 2 < 2 ^ 31 by decide), ia_nI (show 0 < 2 ^ 31 by decide), e1, if_neg nf, e24, ck_nI o48 (show 48 < 2 ^ 31 by decide), nm_eq, ux_nI o31, ux_nI (show 0 < 2 ^ 31 by decide), hx]
  exact ok_some ⟨by rw [uf_get, if_pos ⟨rfl, rfl⟩], (P.uf _ _ _).uf _ _ _⟩
theorem c_tfull0 {m h : Hp} (M : MOK m) (C : CR m h) {b : Int32} (hb : inR b 0 255) (hf : tx0 m = 23) : f_X7_type h (nI 0) b = some (h, -4) := by
  have e1 : h.1 1 1 = nI 23 := by rw [← hf]; exact C.1.1.trans M.1.2
  unfold f_X7_type f_X7_textOf f_X4_hasRoom
  rw [w_1, bdr_some, if_pos (inR_nI (by decide) (by decide) (by decide)), if_neg one_ne, w_255, bdr_some, if_pos hb, if_neg one_ne, if_pos (show nI 0 = 0 from rfl), bdr_some]
  unfold cy
  rw [if_pos (show sk 1 = 4 by decide), e1, if_pos (show nI (sl (1 + 1)) ≤ nI 23 by decide), bdr_some, if_pos rfl]
theorem m_tfull0 {m h : Hp} (M : MOK m) (P : PK m h) {b : Int32} (hb : inR b 0 255) (hf : tx0 m = 23) : f_X8_type h (nI 0) b = some (h, -4) := by
  have e1 : h.1 74 0 = nI 23 := by rw [P.2.1, ← hf]; exact M.1.2
  unfold f_X8_type
  rw [mt_eq, bdr_some, if_pos (inR_nI (by decide) (by decide) (by decide)), if_neg one_ne, v_255, bdr_some, if_pos hb, if_neg one_ne, lt1_if, if_pos (show nI 0 = 0 from rfl), ck_nI (by decide) (by decide), ia_nI (by decide), e1, if_pos (by decide)]
theorem op_type0 {h : Hp} (I : Inv h) (b : Int32) (hb : inR b 0 255) : Step (f_X7_type h (nI 0) b) (fun h1 => f_X8_type h1 (nI 0) b) := by
  obtain ⟨m, M, C, P⟩ := I
  have le0 := M.1.1
  have le1 := M.2.1.1
  by_cases hf : tx0 m = 23
  · exact comb2 (v := -4) P M ⟨_, c_tfull0 M C hb hf, rfl, C, fun _ _ => rfl⟩ (fun h1 P1 => ⟨_, m_tfull0 M P1 hb hf, rfl, P1⟩) (fun h1 => r_X8_type h1 _ _)
  · have hc := c_type0 M C rfl hb (by omega)
    refine comb2 P ?_ hc (fun h1 P1 => m_type0 M P1 rfl hb (by omega)) (fun h1 => r_X8_type h1 _ _)
    refine mok_tx M (fun c q r => by rw [uf_ne r, uf_ne q]) ?_ ?_
    · have z : tx0 (uf (uf m 73 (0 + tx0 m) b) 74 0 (nI (tx0 m + 1))) = tx0 m + 1 := by
        show ((uf (uf m 73 (0 + tx0 m) b) 74 0 (nI (tx0 m + 1))).1 74 0).toNatClampNeg = _
        rw [uf_get, if_pos ⟨rfl, rfl⟩]; exact nI_clamp (by omega)
      rw [z, uf_get, if_pos ⟨rfl, rfl⟩]; exact ⟨by omega, rfl⟩
    · have z : tx1 (uf (uf m 73 (0 + tx0 m) b) 74 0 (nI (tx0 m + 1))) = tx1 m := by
        unfold tx1; rw [uf_get, if_neg (by decide), uf_ne (by decide)]
      rw [z, uf_get, if_neg (by decide), uf_ne (by decide)]; exact M.2.1
theorem c_size0 {m h : Hp} {n : Nat} (M : MOK m) (C : CR m h) (hn : n ≤ tx0 m) : Ok (f_X7_takeTexts (uf h 1 1 (nI n))) (fun h' => CR (uf m 74 0 (nI n)) h' ∧ (∀ c, 0 < c → c < 5 → h'.1 c = (uf h 1 1 (nI n)).1 c) ∧ ∀ c, 68 ≤ c → h'.1 c = h.1 c) ∧ MOK (uf m 74 0 (nI n)) := by
  have le0 := M.1.1
  have le1 := M.2.1.1
  have z0 : tx0 (uf m 74 0 (nI n)) = n := by
    unfold tx0; rw [uf_get, if_pos ⟨rfl, rfl⟩]; exact nI_clamp (by omega)
  have z1 : tx1 (uf m 74 0 (nI n)) = tx1 m := by
    unfold tx1; rw [uf_get, if_neg (by decide)]
  have q0 : (uf m 74 0 (nI n)).1 74 0 = nI n := by rw [uf_get, if_pos ⟨rfl, rfl⟩]
  have q1 : (uf m 74 0 (nI n)).1 74 1 = m.1 74 1 := by rw [uf_get, if_neg (by decide)]
  have sm : ∀ c, c ≠ 73 → c ≠ 74 → (uf m 74 0 (nI n)).1 c = m.1 c := fun c q r => uf_ne r
  have M' : MOK (uf m 74 0 (nI n)) := mok_tx M sm ⟨by rw [z0]; omega, by rw [z0, q0]⟩ ⟨by rw [z1]; exact M.2.1.1, by rw [z1, q1]; exact M.2.1.2⟩
  refine ⟨c_after C M' ⟨?_, ?_, fun j hj => ?_, fun j hj => ?_⟩ sm (fun c q => uf_ne (by omega)), M'⟩
  · rw [q0, uf_get, if_pos ⟨rfl, rfl⟩]
  · rw [q1, uf_get, if_neg (by decide)]; exact C.1.2.1 -- []
  · rw [z0] at hj
    rw [uf_ne (by decide), uf_ne (by decide)]
    exact C.1.2.2.1 j (by omega)
  · rw [z1] at hj
    rw [uf_ne (by decide)]
    unfold rT
    rw [uf_ne (by decide)]
    exact C.1.2.2.2 j (by omega)
theorem op_wipe0 {h : Hp} (I : Inv h) : Step (f_X7_wipe h (nI 0)) (fun h1 => f_X8_wipe h1 (nI 0)) := by
  obtain ⟨m, M, C, P⟩ := I
  obtain ⟨hc, M'⟩ := c_size0 (n := 0) M C (Nat.zero_le _)
  refine comb2 (v := m.1 74 0) P M' ?_ (fun h1 P1 => ?_) (fun h1 => r_X8_wipe h1 _)
  · unfold f_X7_wipe f_X7_textOf
    rw [w_1, bdr_some, if_pos (inR_nI (by decide) (by decide) (by decide)), if_neg one_ne, if_pos (show nI 0 = 0 from rfl), bdr_some]
    refine ok_cy (by decide) ?_
    rw [nm_eq, nm_eq]
    exact ok_bdv hc (fun h7 H => ok_some ⟨C.1.1, H.1, H.2.2⟩)
  · unfold f_X8_wipe
    rw [mt_eq, bdr_some, if_pos (inR_nI (by decide) (by decide) (by decide)), if_neg one_ne]
    simp only [ck_nI (show 0 < 2 by decide) (show 2 < 2 ^ 31 by decide), ia_nI (show 0 < 2 ^ 31 by decide), ux_nI (show 0 < 2 ^ 31 by decide), nm_eq]
    exact ok_some ⟨by rw [P1.2.1], P1.uf _ _ _⟩
theorem op_undo0 {h : Hp} (I : Inv h) : Step (f_X7_undo h (nI 0)) (fun h1 => f_X8_undo h1 (nI 0)) := by
  obtain ⟨m, M, C, P⟩ := I
  have le0 := M.1.1
  have le1 := M.2.1.1
  have e1 : h.1 1 1 = nI (tx0 m) := C.1.1.trans M.1.2
  by_cases h0 : tx0 m = 0
  · refine comb2 (v := -3) P M ?_ (fun h1 P1 => ?_) (fun h1 => r_X8_undo h1 _)
    · unfold f_X7_undo f_X7_textOf
      rw [w_1, bdr_some, if_pos (inR_nI (by decide) (by decide) (by decide)), if_neg one_ne, if_pos (show nI 0 = 0 from rfl), bdr_some]
      refine ok_cy (by decide) ?_
      rw [e1, h0, if_neg (by decide)]
      exact ok_some ⟨rfl, C, fun _ _ => rfl⟩
    · unfold f_X8_undo
      rw [mt_eq, bdr_some, if_pos (inR_nI (by decide) (by decide) (by decide)), if_neg one_ne]
      simp only [ck_nI (show 0 < 2 by decide) (show 2 < 2 ^ 31 by decide), ia_nI (show 0 < 2 ^ 31 by decide)]
      rw [P1.2.1, M.1.2, h0, if_pos (by decide)]
      exact ok_some ⟨rfl, P1⟩
  · obtain ⟨n, hn⟩ : ∃ n, tx0 m = n + 1 := ⟨tx0 m - 1, by omega⟩
    obtain ⟨hc, M'⟩ := c_size0 (n := n) M C (by omega)
    have hp : nI (n + 1) - (1 : Int32) = nI n := nI_pred n
    refine comb2 (v := nI n) P M' ?_ (fun h1 P1 => ?_) (fun h1 => r_X8_undo h1 _)
    · unfold f_X7_undo f_X7_textOf
      rw [w_1, bdr_some, if_pos (inR_nI (by decide) (by decide) (by decide)), if_neg one_ne, if_pos (show nI 0 = 0 from rfl), bdr_some]
      refine ok_cy (by decide) ?_
      rw [e1, hn, hp, if_pos (show (0 : Int32) < nI (n + 1) from nI_lt (a := 0) (by omega) (by omega)), nm_eq]
      exact ok_bdv hc (fun h7 H => ok_some ⟨by show h7.1 1 1 = _; rw [H.2.1 1 (by decide) (by decide), uf_get, if_pos ⟨rfl, rfl⟩], H.1, H.2.2⟩)
    · unfold f_X8_undo
      rw [mt_eq, bdr_some, if_pos (inR_nI (by decide) (by decide) (by decide)), if_neg one_ne]
      have e2 : h1.1 74 0 = nI (n + 1) := by rw [P1.2.1, M.1.2, hn]
      simp only [ck_nI (show 0 < 2 by decide) (show 2 < 2 ^ 31 by decide), ia_nI (show 0 < 2 ^ 31 by decide), ux_nI (show 0 < 2 ^ 31 by decide), nm_eq, e2, hp]
      rw [if_neg (nI_ne0 (by omega) (by omega))]
      exact ok_some ⟨by rw [uf_get, if_pos ⟨rfl, rfl⟩], P1.uf _ _ _⟩
theorem c_type1 {m h : Hp} {sz : Nat} (M : MOK m) (C : CR m h) (hs : tx1 m = sz) {b : Int32} (hb : inR b 0 255) (hf : sz < 24) : Ok (f_X7_type h (nI 1) b) (fun u => u.2 = nI (sz + 1) ∧ CR (uf (uf m 73 (24 + sz) b) 74 1 (nI (sz + 1))) u.1 ∧ ∀ c, 68 ≤ c → u.1.1 c = h.1 c) := by
  have e1 : h.1 3 1 = nI sz := by rw [← hs]; exact C.1.2.1.trans M.2.1.2
  have s31 : sz < 2 ^ 31 := by omega
  have z1 : tx1 (uf (uf m 73 (24 + sz) b) 74 1 (nI (sz + 1))) = sz + 1 := by
    unfold tx1; rw [uf_get, if_pos ⟨rfl, rfl⟩]; exact nI_clamp (by omega)
  have z0 : tx0 (uf (uf m 73 (24 + sz) b) 74 1 (nI (sz + 1))) = tx0 m := by
    unfold tx0; rw [uf_get, if_neg (by decide), uf_ne (by decide)]
  have q0 : (uf (uf m 73 (24 + sz) b) 74 1 (nI (sz + 1))).1 74 1 = nI (sz + 1) := by rw [uf_get, if_pos ⟨rfl, rfl⟩]
  have q1 : (uf (uf m 73 (24 + sz) b) 74 1 (nI (sz + 1))).1 74 0 = m.1 74 0 := by rw [uf_get, if_neg (by decide), uf_ne (by decide)]
  have sm : ∀ c, c ≠ 73 → c ≠ 74 → (uf (uf m 73 (24 + sz) b) 74 1 (nI (sz + 1))).1 c = m.1 c := fun c q r => by rw [uf_ne r, uf_ne q]
  have M' : MOK (uf (uf m 73 (24 + sz) b) 74 1 (nI (sz + 1))) := mok_tx M sm ⟨by rw [z0]; exact M.1.1, by rw [z0, q1]; exact M.1.2⟩ ⟨by rw [z1]; omega, by rw [z1, q0]⟩
  have le0 := M.1.1
  have le1 := M.2.1.1
  unfold f_X7_type f_X7_textOf f_X4_hasRoom f_X4_add
  rw [w_1, bdr_some, if_pos (inR_nI (by decide) (by decide) (by decide)), if_neg one_ne, w_255, bdr_some, if_pos hb, if_neg one_ne, if_neg (show ¬ nI 1 = 0 by decide), bdr_some]
  refine ok_cy (by decide) ?_
  have ng : ¬ nI (sl (3 + 1)) ≤ nI sz := nI_ge (b := 24) hf (by decide)
  have n0 : ¬ nI sz < 0 := nI_pos s31
  have i1 : sz < sl (3 + 1) := hf
  have hx : (uf h (3 + 1) sz b).1 3 1 + (1 : Int32) = nI (sz + 1) := by rw [uf_ne (by decide), e1]; exact nI_1 sz
  simp only [e1, if_neg ng, bdr_some, if_neg one_ne, if_neg n0, ck_nI i1 (show sl (3 + 1) < 2 ^ 31 by decide), nm_eq, ux_nI s31, hx, bdv_some]
  refine ok_bdv (c_after C M' ⟨?_, ?_, fun j hj => ?_, fun j hj => ?_⟩ sm (fun c q => by rw [uf_ne (by omega), uf_ne (by omega)])) (fun h7 H => ?_)
  · rw [q1, uf_get, if_neg (by decide), uf_ne (by decide)]; exact C.1.1 -- []
  · rw [q0, uf_get, if_pos ⟨rfl, rfl⟩]
  · rw [z0] at hj
    rw [uf_ne (by decide), uf_ne (by decide), uf_ne (by decide), uf_get, if_neg (by omega)]
    exact C.1.2.2.1 j (by omega)
  · rw [z1] at hj
    unfold rT
    by_cases q : j = sz
    · simp [uf_get, q]
    · simp [uf_get, q]; exact C.1.2.2.2 j (by omega)
  · obtain ⟨g1, g2, g3⟩ := H
    exact ok_some ⟨by show h7.1 3 1 = _; rw [g2 3 (by decide) (by decide), uf_get, if_pos ⟨rfl, rfl⟩], g1, g3⟩
theorem m_type1 {m h : Hp} {sz : Nat} (M : MOK m) (P : PK m h) (hs : tx1 m = sz) {b : Int32} (hb : inR b 0 255) (hf : sz < 24) : Ok (f_X8_type h (nI 1) b) (fun u => u.2 = nI (sz + 1) ∧ PK (uf (uf m 73 (24 + sz) b) 74 1 (nI (sz + 1))) u.1) := by
  have e1 : h.1 74 1 = nI sz := by rw [P.2.1, ← hs]; exact M.2.1.2
  have s31 : sz < 2 ^ 31 := by omega
  have o31 : 24 + sz < 2 ^ 31 := by omega
  have o48 : 24 + sz < 48 := by omega
  unfold f_X8_type
  rw [mt_eq, bdr_some, if_pos (inR_nI (by decide) (by decide) (by decide)), if_neg one_ne, v_255, bdr_some, if_pos hb, if_neg one_ne, lt1_if, if_neg (show ¬ nI 1 = 0 by decide)]
  have nf : ¬ nI sz = (24 : Int32) := fun q => absurd ((nI_eq s31 (by decide)).mp (show nI sz = nI 24 from q)) (by omega)
  have e24 : (24 : Int32) * nI 1 + nI sz = nI (24 + sz) := by rw [show (24 : Int32) = nI 24 from rfl, pk_mul, nI_add]
  have hx : (uf h 73 (24 + sz) b).1 74 1 + (1 : Int32) = nI (sz + 1) := by rw [uf_ne (by decide), e1]; exact nI_1 sz
  simp only [ck_nI (show 1 < 2 by decide) (show 2 < 2 ^ 31 by decide), ia_nI (show 1 < 2 ^ 31 by decide), e1, if_neg nf, e24, ck_nI o48 (show 48 < 2 ^ 31 by decide), nm_eq, ux_nI o31, ux_nI (show 1 < 2 ^ 31 by decide), hx]
  exact ok_some ⟨by rw [uf_get, if_pos ⟨rfl, rfl⟩], (P.uf _ _ _).uf _ _ _⟩
theorem c_tfull1 {m h : Hp} (M : MOK m) (C : CR m h) {b : Int32} (hb : inR b 0 255) (hf : tx1 m = 24) : f_X7_type h (nI 1) b = some (h, -4) := by
  have e1 : h.1 3 1 = nI 24 := by rw [← hf]; exact C.1.2.1.trans M.2.1.2
  unfold f_X7_type f_X7_textOf f_X4_hasRoom
  rw [w_1, bdr_some, if_pos (inR_nI (by decide) (by decide) (by decide)), if_neg one_ne, w_255, bdr_some, if_pos hb, if_neg one_ne, if_neg (show ¬ nI 1 = 0 by decide), bdr_some]
  unfold cy
  rw [if_pos (show sk 3 = 4 by decide), e1, if_pos (show nI (sl (3 + 1)) ≤ nI 24 by decide), bdr_some, if_pos rfl]
theorem m_tfull1 {m h : Hp} (M : MOK m) (P : PK m h) {b : Int32} (hb : inR b 0 255) (hf : tx1 m = 24) : f_X8_type h (nI 1) b = some (h, -4) := by
  have e1 : h.1 74 1 = nI 24 := by rw [P.2.1, ← hf]; exact M.2.1.2
  unfold f_X8_type
  rw [mt_eq, bdr_some, if_pos (inR_nI (by decide) (by decide) (by decide)), if_neg one_ne, v_255, bdr_some, if_pos hb, if_neg one_ne, lt1_if, if_neg (show ¬ nI 1 = 0 by decide), ck_nI (by decide) (by decide), ia_nI (by decide), e1, if_pos (by decide)]
theorem op_type1 {h : Hp} (I : Inv h) (b : Int32) (hb : inR b 0 255) : Step (f_X7_type h (nI 1) b) (fun h1 => f_X8_type h1 (nI 1) b) := by
  obtain ⟨m, M, C, P⟩ := I
  have le0 := M.1.1
  have le1 := M.2.1.1
  by_cases hf : tx1 m = 24
  · exact comb2 (v := -4) P M ⟨_, c_tfull1 M C hb hf, rfl, C, fun _ _ => rfl⟩ (fun h1 P1 => ⟨_, m_tfull1 M P1 hb hf, rfl, P1⟩) (fun h1 => r_X8_type h1 _ _)
  · have hc := c_type1 M C rfl hb (by omega)
    refine comb2 P ?_ hc (fun h1 P1 => m_type1 M P1 rfl hb (by omega)) (fun h1 => r_X8_type h1 _ _)
    refine mok_tx M (fun c q r => by rw [uf_ne r, uf_ne q]) ?_ ?_
    · have z : tx0 (uf (uf m 73 (24 + tx1 m) b) 74 1 (nI (tx1 m + 1))) = tx0 m := by
        unfold tx0; rw [uf_get, if_neg (by decide), uf_ne (by decide)]
      rw [z, uf_get, if_neg (by decide), uf_ne (by decide)]; exact M.1
    · have z : tx1 (uf (uf m 73 (24 + tx1 m) b) 74 1 (nI (tx1 m + 1))) = tx1 m + 1 := by
        show ((uf (uf m 73 (24 + tx1 m) b) 74 1 (nI (tx1 m + 1))).1 74 1).toNatClampNeg = _
        rw [uf_get, if_pos ⟨rfl, rfl⟩]; exact nI_clamp (by omega)
      rw [z, uf_get, if_pos ⟨rfl, rfl⟩]; exact ⟨by omega, rfl⟩
theorem c_size1 {m h : Hp} {n : Nat} (M : MOK m) (C : CR m h) (hn : n ≤ tx1 m) : Ok (f_X7_takeTexts (uf h 3 1 (nI n))) (fun h' => CR (uf m 74 1 (nI n)) h' ∧ (∀ c, 0 < c → c < 5 → h'.1 c = (uf h 3 1 (nI n)).1 c) ∧ ∀ c, 68 ≤ c → h'.1 c = h.1 c) ∧ MOK (uf m 74 1 (nI n)) := by
  have le0 := M.1.1
  have le1 := M.2.1.1
  have z1 : tx1 (uf m 74 1 (nI n)) = n := by
    unfold tx1; rw [uf_get, if_pos ⟨rfl, rfl⟩]; exact nI_clamp (by omega)
  have z0 : tx0 (uf m 74 1 (nI n)) = tx0 m := by
    unfold tx0; rw [uf_get, if_neg (by decide)]
  have q0 : (uf m 74 1 (nI n)).1 74 1 = nI n := by rw [uf_get, if_pos ⟨rfl, rfl⟩]
  have q1 : (uf m 74 1 (nI n)).1 74 0 = m.1 74 0 := by rw [uf_get, if_neg (by decide)]
  have sm : ∀ c, c ≠ 73 → c ≠ 74 → (uf m 74 1 (nI n)).1 c = m.1 c := fun c q r => uf_ne r
  have M' : MOK (uf m 74 1 (nI n)) := mok_tx M sm ⟨by rw [z0]; exact M.1.1, by rw [z0, q1]; exact M.1.2⟩ ⟨by rw [z1]; omega, by rw [z1, q0]⟩
  refine ⟨c_after C M' ⟨?_, ?_, fun j hj => ?_, fun j hj => ?_⟩ sm (fun c q => uf_ne (by omega)), M'⟩
  · rw [q1, uf_get, if_neg (by decide)]; exact C.1.1 -- []
  · rw [q0, uf_get, if_pos ⟨rfl, rfl⟩]
  · rw [z0] at hj
    rw [uf_ne (by decide), uf_ne (by decide)]
    exact C.1.2.2.1 j (by omega)
  · rw [z1] at hj
    rw [uf_ne (by decide)]
    unfold rT
    rw [uf_ne (by decide)]
    exact C.1.2.2.2 j (by omega)
theorem op_wipe1 {h : Hp} (I : Inv h) : Step (f_X7_wipe h (nI 1)) (fun h1 => f_X8_wipe h1 (nI 1)) := by
  obtain ⟨m, M, C, P⟩ := I
  obtain ⟨hc, M'⟩ := c_size1 (n := 0) M C (Nat.zero_le _)
  refine comb2 (v := m.1 74 1) P M' ?_ (fun h1 P1 => ?_) (fun h1 => r_X8_wipe h1 _)
  · unfold f_X7_wipe f_X7_textOf
    rw [w_1, bdr_some, if_pos (inR_nI (by decide) (by decide) (by decide)), if_neg one_ne, if_neg (show ¬ nI 1 = 0 by decide), bdr_some]
    refine ok_cy (by decide) ?_
    rw [nm_eq, nm_eq]
    exact ok_bdv hc (fun h7 H => ok_some ⟨C.1.2.1, H.1, H.2.2⟩)
  · unfold f_X8_wipe
    rw [mt_eq, bdr_some, if_pos (inR_nI (by decide) (by decide) (by decide)), if_neg one_ne]
    simp only [ck_nI (show 1 < 2 by decide) (show 2 < 2 ^ 31 by decide), ia_nI (show 1 < 2 ^ 31 by decide), ux_nI (show 1 < 2 ^ 31 by decide), nm_eq]
    exact ok_some ⟨by rw [P1.2.1], P1.uf _ _ _⟩
theorem op_undo1 {h : Hp} (I : Inv h) : Step (f_X7_undo h (nI 1)) (fun h1 => f_X8_undo h1 (nI 1)) := by
  obtain ⟨m, M, C, P⟩ := I
  have le0 := M.1.1
  have le1 := M.2.1.1
  have e1 : h.1 3 1 = nI (tx1 m) := C.1.2.1.trans M.2.1.2
  by_cases h0 : tx1 m = 0
  · refine comb2 (v := -3) P M ?_ (fun h1 P1 => ?_) (fun h1 => r_X8_undo h1 _)
    · unfold f_X7_undo f_X7_textOf
      rw [w_1, bdr_some, if_pos (inR_nI (by decide) (by decide) (by decide)), if_neg one_ne, if_neg (show ¬ nI 1 = 0 by decide), bdr_some]
      refine ok_cy (by decide) ?_
      rw [e1, h0, if_neg (by decide)]
      exact ok_some ⟨rfl, C, fun _ _ => rfl⟩
    · unfold f_X8_undo
      rw [mt_eq, bdr_some, if_pos (inR_nI (by decide) (by decide) (by decide)), if_neg one_ne]
      simp only [ck_nI (show 1 < 2 by decide) (show 2 < 2 ^ 31 by decide), ia_nI (show 1 < 2 ^ 31 by decide)]
      rw [P1.2.1, M.2.1.2, h0, if_pos (by decide)]
      exact ok_some ⟨rfl, P1⟩
  · obtain ⟨n, hn⟩ : ∃ n, tx1 m = n + 1 := ⟨tx1 m - 1, by omega⟩
    obtain ⟨hc, M'⟩ := c_size1 (n := n) M C (by omega)
    have hp : nI (n + 1) - (1 : Int32) = nI n := nI_pred n
    refine comb2 (v := nI n) P M' ?_ (fun h1 P1 => ?_) (fun h1 => r_X8_undo h1 _)
    · unfold f_X7_undo f_X7_textOf
      rw [w_1, bdr_some, if_pos (inR_nI (by decide) (by decide) (by decide)), if_neg one_ne, if_neg (show ¬ nI 1 = 0 by decide), bdr_some]
      refine ok_cy (by decide) ?_
      rw [e1, hn, hp, if_pos (show (0 : Int32) < nI (n + 1) from nI_lt (a := 0) (by omega) (by omega)), nm_eq]
      exact ok_bdv hc (fun h7 H => ok_some ⟨by show h7.1 3 1 = _; rw [H.2.1 3 (by decide) (by decide), uf_get, if_pos ⟨rfl, rfl⟩], H.1, H.2.2⟩)
    · unfold f_X8_undo
      rw [mt_eq, bdr_some, if_pos (inR_nI (by decide) (by decide) (by decide)), if_neg one_ne]
      have e2 : h1.1 74 1 = nI (n + 1) := by rw [P1.2.1, M.2.1.2, hn]
      simp only [ck_nI (show 1 < 2 by decide) (show 2 < 2 ^ 31 by decide), ia_nI (show 1 < 2 ^ 31 by decide), ux_nI (show 1 < 2 ^ 31 by decide), nm_eq, e2, hp]
      rw [if_neg (nI_ne0 (by omega) (by omega))]
      exact ok_some ⟨by rw [uf_get, if_pos ⟨rfl, rfl⟩], P1.uf _ _ _⟩
theorem op_type {h : Hp} (I : Inv h) (a b : Int32) : Step (f_X7_type h a b) (fun h1 => f_X8_type h1 a b) := by
  by_cases r1 : inR a 0 1
  · by_cases r2 : inR b 0 255
    · obtain ⟨t, -, ht, rfl⟩ := inR_ex r1 (by decide) (by decide)
      rcases (show t = 0 ∨ t = 1 by omega) with rfl | rfl
      · exact op_type0 I b r2
      · exact op_type1 I b r2
    · obtain ⟨m, M, C, P⟩ := I
      refine comb2 (v := -2) P M ?_ (fun h1 P1 => ?_) (fun h1 => r_X8_type h1 _ _)
      · unfold f_X7_type
        rw [w_1, bdr_some, if_pos r1, if_neg one_ne, w_255, bdr_some, if_neg r2, if_pos rfl]
        exact ok_some ⟨rfl, C, fun _ _ => rfl⟩
      · unfold f_X8_type
        rw [mt_eq, bdr_some, if_pos r1, if_neg one_ne, v_255, bdr_some, if_neg r2, if_pos rfl]
        exact ok_some ⟨rfl, P1⟩
  · obtain ⟨m, M, C, P⟩ := I
    refine comb2 (v := -2) P M ?_ (fun h1 P1 => ?_) (fun h1 => r_X8_type h1 _ _)
    · unfold f_X7_type
      rw [w_1, bdr_some, if_neg r1, if_pos rfl]
      exact ok_some ⟨rfl, C, fun _ _ => rfl⟩
    · unfold f_X8_type
      rw [mt_eq, bdr_some, if_neg r1, if_pos rfl]
      exact ok_some ⟨rfl, P1⟩
theorem op_wipe {h : Hp} (I : Inv h) (a : Int32) : Step (f_X7_wipe h a) (fun h1 => f_X8_wipe h1 a) := by
  by_cases r1 : inR a 0 1
  · obtain ⟨t, -, ht, rfl⟩ := inR_ex r1 (by decide) (by decide)
    rcases (show t = 0 ∨ t = 1 by omega) with rfl | rfl
    · exact op_wipe0 I
    · exact op_wipe1 I
  · obtain ⟨m, M, C, P⟩ := I
    refine comb2 (v := -2) P M ?_ (fun h1 P1 => ?_) (fun h1 => r_X8_wipe h1 _)
    · unfold f_X7_wipe
      rw [w_1, bdr_some, if_neg r1, if_pos rfl]
      exact ok_some ⟨rfl, C, fun _ _ => rfl⟩
    · unfold f_X8_wipe
      rw [mt_eq, bdr_some, if_neg r1, if_pos rfl]
      exact ok_some ⟨rfl, P1⟩
theorem op_undo {h : Hp} (I : Inv h) (a : Int32) : Step (f_X7_undo h a) (fun h1 => f_X8_undo h1 a) := by
  by_cases r1 : inR a 0 1
  · obtain ⟨t, -, ht, rfl⟩ := inR_ex r1 (by decide) (by decide)
    rcases (show t = 0 ∨ t = 1 by omega) with rfl | rfl
    · exact op_undo0 I
    · exact op_undo1 I
  · obtain ⟨m, M, C, P⟩ := I
    refine comb2 (v := -2) P M ?_ (fun h1 P1 => ?_) (fun h1 => r_X8_undo h1 _)
    · unfold f_X7_undo
      rw [w_1, bdr_some, if_neg r1, if_pos rfl]
      exact ok_some ⟨rfl, C, fun _ _ => rfl⟩
    · unfold f_X8_undo
      rw [mt_eq, bdr_some, if_neg r1, if_pos rfl]
      exact ok_some ⟨rfl, P1⟩
