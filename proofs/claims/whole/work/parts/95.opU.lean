/-! copy, write, count -/
def cpP (m : Hp) (s : Nat) (i n : Int32) : Prop := ∃ a c, i = nI a ∧ n = nI c ∧ a + c ≤ sSz m s
theorem c_hasRun {m h : Hp} {s : Nat} (M : MOK m) (C : CR m h) (hs : s < 4) (nl : ¬ m.1 69 s < 0) (i n : Int32) : (cpP m s i n → f_X1_hasRun h (60 + 2 * s) i n = some 1) ∧ (¬ cpP m s i n → f_X1_hasRun h (60 + 2 * s) i n = some 0) := by
  obtain ⟨l1, l2, l3, l4⟩ := (C.2.2.2.1 s hs).2 nl
  obtain ⟨le, ez⟩ := (M.2.2.2.2.2.2 s hs).2
  unfold f_X1_hasRun
  rw [l3, ez]
  refine ⟨?_, fun q => ?_⟩
  · rintro ⟨a, c, rfl, rfl, hac⟩
    rw [if_neg (nI_pos (by omega)), if_neg (nI_pos (by omega)), if_neg (nI_nlt (by omega) (by omega)), pk_sub (by omega), if_neg (nI_nlt (by omega) (by omega))]
  · by_cases h1 : i < 0
    · rw [if_pos h1]
    · by_cases h2 : n < 0
      · rw [if_neg h1, if_pos h2]
      · obtain ⟨a, ha, rfl⟩ := nI_of h1
        obtain ⟨c, hc, rfl⟩ := nI_of h2
        rw [if_neg h1, if_neg h2]
        by_cases h3 : sSz m s < c
        · rw [if_pos (nI_lt h3 hc)]
        · rw [if_neg (nI_nlt (by omega) (by omega)), pk_sub (by omega)]
          by_cases h4 : sSz m s - c < a
          · rw [if_pos (nI_lt h4 ha)]
          · exact absurd ⟨a, c, rfl, rfl, by omega⟩ q
def cpM (m : Hp) (s i t j n : Nat) : Hp := (fun c z => if c = 71 ∧ 60 * t + j ≤ z ∧ z < 60 * t + j + n then m.1 71 (60 * s + i + (z - (60 * t + j))) else m.1 c z, m.2)
theorem cpM_get {m : Hp} {s i t j n : Nat} (c z : Nat) : (cpM m s i t j n).1 c z = if c = 71 ∧ 60 * t + j ≤ z ∧ z < 60 * t + j + n then m.1 71 (60 * s + i + (z - (60 * t + j))) else m.1 c z := rfl
theorem cpM_c {m : Hp} {s i t j n : Nat} : ∀ c, c ≠ 71 → (cpM m s i t j n).1 c = m.1 c := fun c q => by
  funext z; rw [cpM_get, if_neg (fun x => q x.1)]
theorem cpM_sz {m : Hp} {s i t j n : Nat} (s' : Nat) : sSz (cpM m s i t j n) s' = sSz m s' := by unfold sSz; rw [cpM_c 70 (by decide)]
theorem cpM_ok {m : Hp} {s i t j n : Nat} (M : MOK m) : MOK (cpM m s i t j n) := by
  refine mok_sh M (fun c _ _ r => cpM_c c r) (fun s' hs' => ?_)
  rw [cpM_sz, cpM_c 69 (by decide), cpM_c 70 (by decide)]
  exact M.2.2.2.2.2.2 s' hs'
theorem c_copy {m h : Hp} {s t i j n : Nat} (M : MOK m) (C : CR m h) (hs : s < 4) (ht : t < 4) (ns : ¬ m.1 69 s < 0) (nt : ¬ m.1 69 t < 0) (h1 : i + n ≤ sSz m s) (h2 : j + n ≤ sSz m t) : CR (cpM m s i t j n) (ucp h (60 + 2 * s + 1) (60 + 2 * t + 1) (nI i) (nI j) (nI n)) := by
  have le1 := (M.2.2.2.2.2.2 s hs).2.1
  have le2 := (M.2.2.2.2.2.2 t ht).2.1
  have f : ∀ c, c ≠ 60 + 2 * t + 1 → (ucp h (60 + 2 * s + 1) (60 + 2 * t + 1) (nI i) (nI j) (nI n)).1 c = h.1 c := fun c q => by unfold ucp; simp [q]
  have fb : ∀ z, (ucp h (60 + 2 * s + 1) (60 + 2 * t + 1) (nI i) (nI j) (nI n)).1 (60 + 2 * t + 1) z = va_cpy (h.1 (60 + 2 * s + 1)) (h.1 (60 + 2 * t + 1)) i j n z := fun z => by
    unfold ucp; simp only [if_true]; rw [nI_clamp (by omega), nI_clamp (by omega), nI_clamp (by omega)]
  obtain ⟨s1, s2, s3, s4⟩ := (C.2.2.2.1 s hs).2 ns
  obtain ⟨t1, t2, t3, t4⟩ := (C.2.2.2.1 t ht).2 nt
  refine cr_sh C (fun c _ _ r => cpM_c c r) (fun c q => f c (by omega)) (st_upd (s := t) M C.2.2.2.1 (fun s' hs' e => ?_) (fun c _ q => f c q) ?_)
  · rw [cpM_c 69 (by decide), cpM_c 70 (by decide)]
    exact ⟨rfl, rfl, fun j' hj' => by rw [cpM_get, if_neg (by omega)]⟩
  · rw [cpM_sz, cpM_c 69 (by decide), cpM_c 70 (by decide), f (60 + 2 * t) (by omega)]
    refine ⟨fun q => absurd q nt, fun _ => ⟨t1, t2, t3, fun j' hj' => ?_⟩⟩
    rw [fb, cpM_get]
    by_cases e : j ≤ j' ∧ j' < j + n
    · rw [pk_cpy_in e.1 e.2, if_pos (by omega), s4 (i + (j' - j)) (by omega), show 60 * s + i + (60 * t + j' - (60 * t + j)) = 60 * s + (i + (j' - j)) by omega]
    · rw [pk_cpy_out (by omega), if_neg (by omega)]
      exact t4 j' hj'
theorem m_copy {m h : Hp} {s t i j n : Nat} (P : PK m h) (hs : s < 4) (ht : t < 4) (hb1 : i + n ≤ 60) (hb2 : j + n ≤ 60) : Ok (lt1 (fun (h9 : Hp) =>
      fx2 FU (fun s4 (h10 : Hp) (x11 : Int32) =>
        if nI n ≤ x11 then (
          some (h10, (1 : Int32)))
        else (
          ck x11 60 (
            ck ((((60 : Int32) * nI t) + nI j) + x11) 240 (nm (ux h10 71 ((((60 : Int32) * nI t) + nI j) + x11) (ia h10 72 x11)) fun h12 =>
            nm (x11 + (1 : Int32)) fun x13 =>
            s4 h12 x13)))) h9 (0 : Int32)) fun k3 =>
    fx2 FU (fun s5 (h14 : Hp) (x15 : Int32) =>
      if nI n ≤ x15 then (
        k3 h14)
      else (
        ck ((((60 : Int32) * nI s) + nI i) + x15) 240 (
          ck x15 60 (nm (ux h14 72 x15 (ia h14 71 ((((60 : Int32) * nI s) + nI i) + x15))) fun h16 =>
          nm (x15 + (1 : Int32)) fun x17 =>
          s5 h16 x17)))) h (0 : Int32)) (fun u => u.2 = 1 ∧ PK (cpM m s i t j n) u.1) := by
  rw [lt1_eq, e60, e60]
  refine ok_fx2 (fun g h1 y => ∃ x, y = nI x ∧ x + g = n ∧ (∀ c, c ≠ 72 → h1.1 c = h.1 c) ∧ ∀ x', x' < x → h1.1 72 x' = h.1 71 (60 * s + i + x')) n (by omega) ⟨0, rfl, by omega, fun _ _ => rfl, fun x hx => by omega⟩ ?_
  rintro g self h1 y ⟨x, rfl, hx, g1, g2⟩ ih
  by_cases hg : g = 0
  · have e : x = n := by omega
    subst e
    rw [if_pos (nI_le (by omega) (by omega))]
    dsimp only
    refine ok_fx2 (fun g h2 y => ∃ z, y = nI z ∧ z + g = x ∧ (∀ c, c ≠ 71 → h2.1 c = h1.1 c) ∧ ∀ w, h2.1 71 w = if 60 * t + j ≤ w ∧ w < 60 * t + j + z then h.1 71 (60 * s + i + (w - (60 * t + j))) else h.1 71 w) x (by omega) ⟨0, rfl, by omega, fun _ _ => rfl, fun w => by rw [if_neg (by omega), g1 71 (by decide)]⟩ ?_
    rintro g self h2 y ⟨z, rfl, hz, k1, k2⟩ ih
    by_cases hg : g = 0
    · have e : z = x := by omega
      subst e
      rw [if_pos (nI_le (by omega) (by omega))]
      obtain ⟨p1, p2, p3, p4, p5, p6, p7, p8, p9, p10, p11, p12⟩ := P
      have kk : ∀ c, c ≠ 71 → c ≠ 72 → h2.1 c = h.1 c := fun c q r => (k1 c q).trans (g1 c r)
      refine ok_some ⟨rfl, (kk 73 (by decide) (by decide)).trans (p1.trans (cpM_c 73 (by decide)).symm), (kk 74 (by decide) (by decide)).trans (p2.trans (cpM_c 74 (by decide)).symm), (kk 77 (by decide) (by decide)).trans (p3.trans (cpM_c 77 (by decide)).symm), (kk 78 (by decide) (by decide)).trans (p4.trans (cpM_c 78 (by decide)).symm), (kk 91 (by decide) (by decide)).trans (p5.trans (cpM_c 91 (by decide)).symm), (kk 69 (by decide) (by decide)).trans (p6.trans (cpM_c 69 (by decide)).symm), (kk 70 (by decide) (by decide)).trans (p7.trans (cpM_c 70 (by decide)).symm), ?_, ?_, ?_, ?_, ?_⟩
      · funext w
        show h2.1 71 w = _
        rw [k2, cpM_get, p8]
        by_cases q : 60 * t + j ≤ w ∧ w < 60 * t + j + z
        · rw [if_pos q, if_pos ⟨rfl, q⟩]
        · rw [if_neg q, if_neg (fun y => q y.2)]
      · show h2.1 68 4 = _
        rw [kk 68 (by decide) (by decide), cpM_c 68 (by decide)]; exact p9
      · show h2.1 68 12 = _
        rw [kk 68 (by decide) (by decide), cpM_c 68 (by decide)]; exact p10
      · show h2.1 68 14 = _
        rw [kk 68 (by decide) (by decide), cpM_c 68 (by decide)]; exact p11
      · show h2.1 68 29 = _
        rw [kk 68 (by decide) (by decide), cpM_c 68 (by decide)]; exact p12
    · have zn : z < x := by omega
      rw [if_neg (nI_ge zn (by omega)), nI_add, ck_nI (show z < 60 by omega) (by decide), ck_nI (by omega) (by decide), ux_nI (by omega), ia_nI (by omega), nm_eq, nm_eq, show nI z + (1 : Int32) = nI (z + 1) from nI_1 z, k1 72 (by decide), g2 z zn]
      refine ih (g - 1) _ _ (by omega) ⟨z + 1, rfl, by omega, fun c q => by rw [uf_ne q]; exact k1 c q, fun w => ?_⟩
      rw [uf_get, k2]
      by_cases e : w = 60 * t + j + z
      · rw [if_pos ⟨rfl, e⟩, if_pos (by omega), show 60 * s + i + (w - (60 * t + j)) = 60 * s + i + z by omega]
      · rw [if_neg (fun y => e y.2)]
        by_cases q : 60 * t + j ≤ w ∧ w < 60 * t + j + z
        · rw [if_pos q, if_pos (by omega)]
        · rw [if_neg q, if_neg (by omega)]
  · have xn : x < n := by omega
    rw [if_neg (nI_ge xn (by omega)), nI_add, ck_nI (show 60 * s + i + x < 240 by omega) (by decide), ck_nI (show x < 60 by omega) (by decide), ux_nI (by omega), ia_nI (by omega), nm_eq, nm_eq, show nI x + (1 : Int32) = nI (x + 1) from nI_1 x, g1 71 (by decide)]
    refine ih (g - 1) _ _ (by omega) ⟨x + 1, rfl, by omega, fun c q => by rw [uf_ne q]; exact g1 c q, fun x' hx' => ?_⟩
    rw [uf_get]
    by_cases e : x' = x
    · rw [if_pos ⟨rfl, e⟩, e]
    · rw [if_neg (fun y => e y.2)]; exact g2 x' (by omega)
theorem lc_gt {a c z : Nat} (ha : a < 2 ^ 31) (hc : c < 2 ^ 31) (hz : z < 2 ^ 31) : (0 < lg_cmp ((nI a).toInt64 + (nI c).toInt64) (nI z).toInt64) ↔ z < a + c := by
  rw [lg_cmp_gt, nI_l ha, nI_l hc, nI_l hz, lN_add, pk_lLT (by omega) (by omega)]
theorem lc_le {a c z : Nat} (ha : a < 2 ^ 31) (hc : c < 2 ^ 31) (hz : z < 2 ^ 31) : (lg_cmp ((nI a).toInt64 + (nI c).toInt64) (nI z).toInt64 ≤ 0) ↔ a + c ≤ z := by
  rw [lg_cmp_le, nI_l ha, nI_l hc, nI_l hz, lN_add, pk_lLE (by omega) (by omega)]
theorem op_copy {h : Hp} (I : Inv h) (a i b j n : Int32) : Step (f_X7_copy h a i b j n) (fun h1 => f_X8_copy h1 a i b j n) := by
  obtain ⟨m, M, C, P⟩ := I
  by_cases r1 : inR a 0 3
  · by_cases r2 : inR b 0 3
    · obtain ⟨s, -, hs, rfl⟩ := inR_ex r1 (by decide) (by decide)
      obtain ⟨t, -, ht, rfl⟩ := inR_ex r2 (by decide) (by decide)
      have hs4 : s < 4 := by omega
      have ht4 : t < 4 := by omega
      have s31 : s < 2 ^ 31 := by omega
      have t31 : t < 2 ^ 31 := by omega
      obtain ⟨le1, ez1⟩ := (M.2.2.2.2.2.2 s hs4).2
      obtain ⟨le2, ez2⟩ := (M.2.2.2.2.2.2 t ht4).2
      have fnd : ∀ v : Int32, CR (uf m 68 4 v) (uf h 0 15 v) := fun v => c_found C v
      by_cases ns : m.1 69 s < 0
      · refine comb (v := -11) P (mok_found M 1) ?_ (r_X7_copy h _ _ _ _ _) (fun h1 P1 => ?_) (fun h1 => r_X8_copy h1 _ _ _ _ _)
        · unfold f_X7_copy
          rw [cs_eq, bdr_some, if_pos r1, if_neg one_ne, cs_eq, bdr_some, if_pos r2, if_neg one_ne, ck_nI hs4 (by decide), ck_nI ht4 (by decide), lt1_eq, nI_clamp s31, if_neg ((C.2.2.2.1 s hs4).1 ns), fo_eq, bnd_some]
          exact ok_some ⟨rfl, fnd 1⟩
        · unfold f_X8_copy
          rw [ms_eq, bdr_some, if_pos r1, if_neg one_ne, ms_eq, bdr_some, if_pos r2, if_neg one_ne, ck_nI hs4 (by decide), lt1_eq, ia_nI s31, P1.2.2.2.2.2.1, if_pos ns, fd_eq, bnd_some]
          exact ok_some ⟨rfl, P1.uf _ _ _⟩
      · obtain ⟨c1, c2, c3, c4⟩ := (C.2.2.2.1 s hs4).2 ns
        by_cases nt : m.1 69 t < 0
        · refine comb (v := -11) P (mok_found M 1) ?_ (r_X7_copy h _ _ _ _ _) (fun h1 P1 => ?_) (fun h1 => r_X8_copy h1 _ _ _ _ _)
          · unfold f_X7_copy
            rw [cs_eq, bdr_some, if_pos r1, if_neg one_ne, cs_eq, bdr_some, if_pos r2, if_neg one_ne, ck_nI hs4 (by decide), ck_nI ht4 (by decide), lt1_eq, nI_clamp s31, if_pos c1, nI_clamp t31, if_neg ((C.2.2.2.1 t ht4).1 nt), fo_eq, bnd_some]
            exact ok_some ⟨rfl, fnd 1⟩
          · unfold f_X8_copy
            rw [ms_eq, bdr_some, if_pos r1, if_neg one_ne, ms_eq, bdr_some, if_pos r2, if_neg one_ne, ck_nI hs4 (by decide), lt1_eq, ia_nI s31, P1.2.2.2.2.2.1, if_neg ns, ck_nI ht4 (by decide), ia_nI t31, P1.2.2.2.2.2.1, if_neg (fun q => nneg.mpr q nt), fd_eq, bnd_some]
            exact ok_some ⟨rfl, P1.uf _ _ _⟩
        · obtain ⟨d1, d2, d3, d4⟩ := (C.2.2.2.1 t ht4).2 nt
          by_cases ff : m.1 69 s = m.1 69 t
          · by_cases ok : cpP m s i n ∧ cpP m t j n
            · obtain ⟨⟨x, c, rfl, rfl, hac⟩, ⟨y, c', rfl, ec, hbc⟩⟩ := id ok
              have ecc : c = c' ∨ True := Or.inr trivial
              by_cases hc31 : c < 2 ^ 31 ∧ c' < 2 ^ 31
              · have e := (nI_eq hc31.1 hc31.2).mp ec
                subst e
                refine comb (m' := cpM m s x t y c) (v := 1) P (cpM_ok M) ?_ (r_X7_copy h _ _ _ _ _) (fun h1 P1 => ?_) (fun h1 => r_X8_copy h1 _ _ _ _ _)
                · unfold f_X7_copy
                  rw [cs_eq, bdr_some, if_pos r1, if_neg one_ne, cs_eq, bdr_some, if_pos r2, if_neg one_ne, ck_nI hs4 (by decide), ck_nI ht4 (by decide), lt1_eq, nI_clamp s31, if_pos c1, nI_clamp t31, if_pos d1, c2, d2, if_pos ff, (c_hasRun M C hs4 ns _ _).1 ok.1, bdr_some, lt1_eq, if_neg one_ne, (c_hasRun M C ht4 nt _ _).1 ok.2, bdr_some, if_neg one_ne]
                  refine ok_cy ⟨nI_pos (by omega), nI_pos (by omega), nI_pos (by omega), by rw [nI_clamp (by omega), nI_clamp (by omega)]; omega, by rw [nI_clamp (by omega), nI_clamp (by omega)]; omega⟩ ?_
                  rw [nm_eq]
                  exact ok_some ⟨rfl, c_copy M C hs4 ht4 ns nt hac hbc⟩
                · unfold f_X8_copy
                  rw [ms_eq, bdr_some, if_pos r1, if_neg one_ne, ms_eq, bdr_some, if_pos r2, if_neg one_ne, ck_nI hs4 (by decide), lt1_eq, ia_nI s31, P1.2.2.2.2.2.1, if_neg ns, ck_nI ht4 (by decide), ia_nI t31, P1.2.2.2.2.2.1, if_pos (nneg.mp nt), ck_nI hs4 (by decide), ck_nI ht4 (by decide), if_pos ff, lt1_eq, if_neg (nI_pos (by omega)), if_neg (nI_pos (by omega)), if_neg (nI_pos (by omega)), ck_nI hs4 (by decide), ia_nI s31, P1.2.2.2.2.2.2.1, ez1, if_neg (fun q => by have := (lc_gt (by omega) (by omega) (by omega)).mp q; omega), ck_nI ht4 (by decide), ia_nI t31, P1.2.2.2.2.2.2.1, ez2, if_pos ((lc_le (by omega) (by omega) (by omega)).mpr hbc)]
                  exact m_copy P1 hs4 ht4 (by omega) (by omega)
              · omega
            · refine comb (v := -12) P (mok_found M 2) ?_ (r_X7_copy h _ _ _ _ _) (fun h1 P1 => ?_) (fun h1 => r_X8_copy h1 _ _ _ _ _)
              · unfold f_X7_copy
                rw [cs_eq, bdr_some, if_pos r1, if_neg one_ne, cs_eq, bdr_some, if_pos r2, if_neg one_ne, ck_nI hs4 (by decide), ck_nI ht4 (by decide), lt1_eq, nI_clamp s31, if_pos c1, nI_clamp t31, if_pos d1, c2, d2, if_pos ff]
                by_cases o1 : cpP m s i n
                · have o2 : ¬ cpP m t j n := fun q => ok ⟨o1, q⟩
                  rw [(c_hasRun M C hs4 ns _ _).1 o1, bdr_some, lt1_eq, if_neg one_ne, (c_hasRun M C ht4 nt _ _).2 o2, bdr_some, if_pos rfl, fo_eq, bnd_some]
                  exact ok_some ⟨rfl, fnd 2⟩
                · rw [(c_hasRun M C hs4 ns _ _).2 o1, bdr_some, lt1_eq, if_pos rfl, fo_eq, bnd_some]
                  exact ok_some ⟨rfl, fnd 2⟩
              · unfold f_X8_copy
                rw [ms_eq, bdr_some, if_pos r1, if_neg one_ne, ms_eq, bdr_some, if_pos r2, if_neg one_ne, ck_nI hs4 (by decide), lt1_eq, ia_nI s31, P1.2.2.2.2.2.1, if_neg ns, ck_nI ht4 (by decide), ia_nI t31, P1.2.2.2.2.2.1, if_pos (nneg.mp nt), ck_nI hs4 (by decide), ck_nI ht4 (by decide), if_pos ff, lt1_eq, fd_eq, bnd_some]
                have fin : Ok (some (uf h1 68 4 2, (-10 : Int32) - 2)) (fun u => u.2 = -12 ∧ PK (uf m 68 4 2) u.1) := ok_some ⟨rfl, P1.uf _ _ _⟩
                by_cases q1 : i < 0
                · rw [if_pos q1]; exact fin
                by_cases q2 : j < 0
                · rw [if_neg q1, if_pos q2]; exact fin
                by_cases q3 : n < 0
                · rw [if_neg q1, if_neg q2, if_pos q3]; exact fin
                obtain ⟨x, hx, rfl⟩ := nI_of q1
                obtain ⟨y, hy, rfl⟩ := nI_of q2
                obtain ⟨c, hc, rfl⟩ := nI_of q3
                rw [if_neg q1, if_neg q2, if_neg q3, ck_nI hs4 (by decide), ia_nI s31, P1.2.2.2.2.2.2.1, ez1]
                by_cases q4 : sSz m s < x + c
                · rw [if_pos ((lc_gt hx hc (by omega)).mpr q4)]; exact fin
                · rw [if_neg (fun q => q4 ((lc_gt hx hc (by omega)).mp q)), ck_nI ht4 (by decide), ia_nI t31, P1.2.2.2.2.2.2.1, ez2]
                  by_cases q5 : y + c ≤ sSz m t
                  · exact absurd ⟨⟨x, c, rfl, rfl, by omega⟩, ⟨y, c, rfl, rfl, q5⟩⟩ ok
                  · rw [if_neg (fun q => q5 ((lc_le hy hc (by omega)).mp q))]; exact fin
          · refine comb (v := -14) P (mok_found M 4) ?_ (r_X7_copy h _ _ _ _ _) (fun h1 P1 => ?_) (fun h1 => r_X8_copy h1 _ _ _ _ _)
            · unfold f_X7_copy
              rw [cs_eq, bdr_some, if_pos r1, if_neg one_ne, cs_eq, bdr_some, if_pos r2, if_neg one_ne, ck_nI hs4 (by decide), ck_nI ht4 (by decide), lt1_eq, nI_clamp s31, if_pos c1, nI_clamp t31, if_pos d1, c2, d2, if_neg ff, fo_eq, bnd_some]
              exact ok_some ⟨rfl, fnd 4⟩
            · unfold f_X8_copy
              rw [ms_eq, bdr_some, if_pos r1, if_neg one_ne, ms_eq, bdr_some, if_pos r2, if_neg one_ne, ck_nI hs4 (by decide), lt1_eq, ia_nI s31, P1.2.2.2.2.2.1, if_neg ns, ck_nI ht4 (by decide), ia_nI t31, P1.2.2.2.2.2.1, if_pos (nneg.mp nt), ck_nI hs4 (by decide), ck_nI ht4 (by decide), if_neg ff, fd_eq, bnd_some]
              exact ok_some ⟨rfl, P1.uf _ _ _⟩
    · refine comb (v := -2) P M ?_ (r_X7_copy h _ _ _ _ _) (fun h1 P1 => ?_) (fun h1 => r_X8_copy h1 _ _ _ _ _)
      · unfold f_X7_copy
        rw [cs_eq, bdr_some, if_pos r1, if_neg one_ne, cs_eq, bdr_some, if_neg r2, if_pos rfl]
        exact ok_some ⟨rfl, C⟩
      · unfold f_X8_copy
        rw [ms_eq, bdr_some, if_pos r1, if_neg one_ne, ms_eq, bdr_some, if_neg r2, if_pos rfl]
        exact ok_some ⟨rfl, P1⟩
  · refine comb (v := -2) P M ?_ (r_X7_copy h _ _ _ _ _) (fun h1 P1 => ?_) (fun h1 => r_X8_copy h1 _ _ _ _ _)
    · unfold f_X7_copy
      rw [cs_eq, bdr_some, if_neg r1, if_pos rfl]
      exact ok_some ⟨rfl, C⟩
    · unfold f_X8_copy
      rw [ms_eq, bdr_some, if_neg r1, if_pos rfl]
      exact ok_some ⟨rfl, P1⟩
