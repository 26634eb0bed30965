/-! shows by a seed -/
def loF (s : Int32) : Nat → Int32
  | 0 => s
  | b + 1 => (1103515245 : Int32) * loF s b + (12345 : Int32)
def q4 (x : Int32) : Int32 := ((x.toUInt32 >>> ((16 : Int32).toUInt32 &&& Int32.toUInt32 31)).toInt32) - ((x.toUInt32 >>> ((16 : Int32).toUInt32 &&& Int32.toUInt32 31)).toInt32) / (4 : Int32) * (4 : Int32)
theorem loF_s (s : Int32) (b : Nat) : (1103515245 : Int32) * loF s b + (12345 : Int32) = loF s (b + 1) := by rw [loF]
theorem lot_eq {h : Hp} {L : Nat → Int32} (Ls : ∀ b, (1103515245 : Int32) * L b + (12345 : Int32) = L (b + 1)) {b : Nat} (e : h.1 68 32 = L b) : f_X8_lot h 4 = some (uf h 68 32 (L (b + 1)), q4 (L (b + 1))) := by
  have e2 : (uf h 68 32 (L (b + 1))).1 68 32 = L (b + 1) := by rw [uf_get, if_pos ⟨rfl, rfl⟩]
  unfold f_X8_lot
  rw [nm_eq, e, Ls, e2]
  unfold cn q4
  rw [if_neg (show ¬ (4 : Int32) = 0 by decide)]
theorem q4_lt (x : Int32) : ∃ z, z < 4 ∧ q4 x = nI z := by
  have h1 := pk_ushr x 16 16 (by decide)
  have h2 : x.toBitVec.toNat < 2 ^ 32 := x.toBitVec.isLt
  have h3 : x.toBitVec.toNat / 2 ^ 16 < 2 ^ 16 := by omega
  have h4 : (x.toUInt32 >>> ((16 : Int32).toUInt32 &&& Int32.toUInt32 31)).toInt32 = nI (x.toBitVec.toNat / 2 ^ 16) := by
    apply Int32.toBitVec_inj.1
    apply BitVec.eq_of_toNat_eq
    rw [h1, pk_tn (by omega)]
  unfold q4
  rw [h4, show (4 : Int32) = nI 4 from rfl, pk_rem (by omega) (by decide) (by decide)]
  exact ⟨_, Nat.mod_lt _ (by decide), rfl⟩
def lotV (s : Int32) (n b : Nat) : Int32 := if b < n then q4 (loF s (b + 1)) else 0
def wM (i : Inp) (f : Nat → Int32) : Inp := (iN i, iSt i, iSo i, iPo i, f, iNe i, iEk i, iEb i, iEn i, iWo i, iLen i, iSla i, iLim i)
theorem ok_wM {i : Inp} (h : InOk i) {g : Nat → Int32} (g4 : ∀ b, ∃ z, z < 4 ∧ g b = nI z) : InOk (wM i g) := by
  obtain ⟨a1, a2, a3, a4, a5, a6, a7, a8⟩ := h
  exact ⟨a1, a2, a3, a4, a5, a6, a7, fun j hj => g4 j⟩
theorem lotV_4 (s : Int32) (n b : Nat) : ∃ z, z < 4 ∧ lotV s n b = nI z := by
  unfold lotV
  split
  · exact q4_lt _
  · exact ⟨0, by decide, rfl⟩
def shG (i : Inp) (g : Nat → Int32) (a : Int32) : Int32 := if a = 0 then ovr (wM i g) else (runF (wM i g) 24).1.2.1
def shV (i : Inp) (s : Int32) (n : Nat) (a : Int32) : Int32 := shG i (lotV s n) a
theorem c_showsG {m h : Hp} {n : Nat} {s : Int32} (M : MOK m) (C : CR m h) (hn : n ≤ 24) {a : Int32} (ha : inR a 0 1) {L g : Nat → Int32} (L0 : L 0 = s) (Ls : ∀ b, (1103515245 : Int32) * L b + (12345 : Int32) = L (b + 1)) (hg : ∀ b, g b = if b < n then q4 (L (b + 1)) else 0) (g4 : ∀ b, ∃ z, z < 4 ∧ g b = nI z) : Ok (f_X7_shows h s (nI n) a) (fun u => u.2 = shG (inp m) g a ∧ CR m u.1) := by
  unfold f_X7_shows
  rw [w_24, bdr_some, if_pos (inR_nI (by omega) hn (by decide)), if_neg one_ne, w_1, bdr_some, if_pos ha, if_neg one_ne, lt1_eq]
  refine ok_fx3 (fun f h1 x y => ∃ b, y = nI b ∧ b + f = 24 ∧ x = L b ∧ (∀ c, c ≠ 55 → h1.1 c = h.1 c) ∧ ∀ j, j < b → h1.1 55 j = g j) 24 (by decide) ⟨0, rfl, rfl, L0.symm, fun _ _ => rfl, fun j hj => by omega⟩ ?_
  rintro f self h1 x y ⟨b, rfl, hb, rfl, g1, g2⟩ ih
  by_cases hf : f = 0
  · have e : b = 24 := by omega
    subst e
    rw [if_pos (by decide)]
    dsimp only
    have K1 : KC h h1 := ⟨fun c q r => g1 c (by omega), g1 56 (by decide), fun c q r => g1 c (by omega), by rw [g1 0 (by decide)], by rw [g1 0 (by decide)], by rw [g1 0 (by decide)]⟩
    have T1 : TI (wM (inp m) g) 55 h1 := by
      obtain ⟨t1, t2, t3, t4, t5, t6, t7, t8⟩ := (C.kc K1).2.1
      exact ⟨t1, t2, t3, t4, t5, t6, g2, t8⟩
    refine ok_bdv (c_tr (ok_wM (inp_ok M) g4) (Or.inr rfl) rfl T1) (fun h4 H => ?_)
    have C4 : CR m h4 := (C.kc K1).kc (kc_fi H.2.2)
    unfold shG
    refine ok_ite (fun q => ?_) (fun q => ?_)
    · rw [if_pos q]; exact ok_some ⟨H.1.2.2.1, C4⟩
    · rw [if_neg q]; exact ok_some ⟨H.1.2.1, C4⟩
  · have b24 : b < 24 := by omega
    rw [if_neg ((show ∀ b, b < 24 → ¬ (24 : Int32) ≤ nI b by decide +kernel) b b24), Ls, nm_eq, lt1_if, ck_nI b24 (by decide), ux_nI (by omega), nm_eq, nm_eq, show nI b + (1 : Int32) = nI (b + 1) from nI_1 b]
    have ev : (if nI n ≤ nI b then (0 : Int32) else (((L (b + 1)).toUInt32 >>> ((16 : Int32).toUInt32 &&& Int32.toUInt32 31)).toInt32) - (((L (b + 1)).toUInt32 >>> ((16 : Int32).toUInt32 &&& Int32.toUInt32 31)).toInt32) / (4 : Int32) * (4 : Int32)) = g b := by
      rw [hg]; unfold q4
      by_cases q : b < n
      · rw [if_neg (nI_ge q (by omega)), if_pos q]
      · rw [if_pos (nI_le (by omega) (by omega)), if_neg q]
    rw [ev]
    refine ih (f - 1) _ _ _ (by omega) ⟨b + 1, rfl, by omega, rfl, fun c q => by rw [uf_ne q]; exact g1 c q, fun j hj => ?_⟩
    rw [uf_get]
    by_cases q : j = b
    · rw [if_pos ⟨rfl, q⟩, q]
    · rw [if_neg (fun t => q t.2)]; exact g2 j (by omega)
theorem m_showsG {m h : Hp} {n : Nat} {s : Int32} (M : MOK m) (T : MT m h) (hn : n ≤ 24) (a : Int32) {L g : Nat → Int32} (L0 : L 0 = s) (Ls : ∀ b, (1103515245 : Int32) * L b + (12345 : Int32) = L (b + 1)) (hg : ∀ b, g b = if b < n then q4 (L (b + 1)) else 0) (g4 : ∀ b, ∃ z, z < 4 ∧ g b = nI z) : Ok (f_X8_showsOf h s (nI n) a) (fun u => u.2 = shG (inp m) g a ∧ MT m u.1) := by
  have hN := nWk_le M
  unfold f_X8_showsOf
  rw [nm_eq, lt1_eq]
  refine ok_fx2 (fun f h1 y => ∃ b, y = nI b ∧ b + f = 24 ∧ (b ≤ n → h1.1 68 32 = L b) ∧ (∀ c, c ≠ 68 → c ≠ 76 → h1.1 c = h.1 c) ∧ (∀ z, z ≠ 32 → h1.1 68 z = h.1 68 z) ∧ ∀ j, j < b → h1.1 76 j = g j) 24 (by decide) ⟨0, rfl, rfl, fun _ => by rw [uf_get, if_pos ⟨rfl, rfl⟩]; exact L0.symm, fun c q _ => uf_ne q, fun z q => by rw [uf_get, if_neg (fun t => q t.2)], fun j hj => by omega⟩ ?_
  rintro f self h1 y ⟨b, rfl, hb, gs, g1, g3, g2⟩ ih
  by_cases hf : f = 0
  · have e : b = 24 := by omega
    subst e
    rw [if_pos (by decide)]
    dsimp only
    have P1 : PK m h1 := by
      obtain ⟨p1, p2, p3, p4, p5, p6, p7, p8, p9, p10, p11, p12⟩ := T.1
      exact ⟨(g1 73 (by decide) (by decide)).trans p1, (g1 74 (by decide) (by decide)).trans p2, (g1 77 (by decide) (by decide)).trans p3, (g1 78 (by decide) (by decide)).trans p4, (g1 91 (by decide) (by decide)).trans p5, (g1 69 (by decide) (by decide)).trans p6, (g1 70 (by decide) (by decide)).trans p7, (g1 71 (by decide) (by decide)).trans p8, (g3 4 (by decide)).trans p9, (g3 12 (by decide)).trans p10, (g3 14 (by decide)).trans p11, (g3 29 (by decide)).trans p12⟩
    have T1 : TM (wM (inp m) g) h1 := by
      obtain ⟨t1, t2, t3, t4, t5, t6, t7, t8, t9⟩ := T.2.1
      unfold TM
      rw [g1 75 (by decide) (by decide), g1 77 (by decide) (by decide), g1 78 (by decide) (by decide), g3 7 (by decide), g3 12 (by decide), g3 14 (by decide)]
      exact ⟨t1, t2, t3, t4, t5, t6, t7, g2, t9⟩
    refine ok_bdv (p_lives (ok_wM (inp_ok M) g4) T1) (fun h3 H => ?_)
    obtain ⟨R, -, K⟩ := H
    have P3 : PK m h3 := P1.km K
    have T3 := km_tm K T1
    have fin : ∀ x4, x4 = shG (inp m) g a → Ok (bnd (f_X8_readsRoutine h3) fun h5 _ => some (h5, x4)) (fun u => u.2 = shG (inp m) g a ∧ MT m u.1) := by
      rintro x4 e4
      refine ok_bnd (m_rr M P3) (fun h5 x5 H5 => ?_)
      obtain ⟨-, P5, R5, f1, f2⟩ := H5
      refine ok_some ⟨e4, mt_of M P5 ⟨(f2 7 (by decide)).trans T3.1, fun k hk => ?_⟩ R5⟩
      rw [show h5.1 75 = h3.1 75 from f1 75 (by decide) (by decide)]
      exact T3.2.2.2.2.2.2.1 k hk
    rw [lt1_eq]
    unfold shG at fin ⊢
    refine ok_ite (fun q => ?_) (fun q => ?_)
    · refine ok_bdr (m_many (N := iN (wM (inp m) g)) hN T3.1 (fun k hk => (R.1 k hk).1) 2) (fun x7 hx => ?_)
      exact fin x7 (by rw [if_pos q]; exact hx)
    · exact fin _ (by rw [if_neg q]; exact R.2)
  · have b24 : b < 24 := by omega
    rw [if_neg ((show ∀ b, b < 24 → ¬ (24 : Int32) ≤ nI b by decide +kernel) b b24), lt2_eq]
    by_cases q : b < n
    · rw [if_neg (nI_ge q (by omega))]
      rw [lot_eq Ls (gs (by omega)), bnd_some]
      dsimp only
      rw [ck_nI b24 (by decide), ux_nI (by omega), nm_eq, nm_eq, show nI b + (1 : Int32) = nI (b + 1) from nI_1 b]
      refine ih (f - 1) _ _ (by omega) ⟨b + 1, rfl, by omega, fun _ => by rw [uf_ne (by decide), uf_get, if_pos ⟨rfl, rfl⟩], fun c q r => by rw [uf_ne r, uf_ne q]; exact g1 c q r, fun z r => by rw [uf_ne (by decide), uf_get, if_neg (fun t => r t.2)]; exact g3 z r, fun j hj => ?_⟩
      rw [uf_get]
      by_cases qj : j = b
      · rw [if_pos ⟨rfl, qj⟩, qj]
        rw [hg, if_pos q]
      · rw [if_neg (fun t => qj t.2), uf_ne (by decide)]; exact g2 j (by omega)
    · rw [if_pos (nI_le (by omega) (by omega))]
      dsimp only
      rw [ck_nI b24 (by decide), ux_nI (by omega), nm_eq, nm_eq, show nI b + (1 : Int32) = nI (b + 1) from nI_1 b]
      refine ih (f - 1) _ _ (by omega) ⟨b + 1, rfl, by omega, fun t => by omega, fun c q r => by rw [uf_ne r]; exact g1 c q r, fun z r => by rw [uf_ne (by decide)]; exact g3 z r, fun j hj => ?_⟩
      rw [uf_get]
      by_cases qj : j = b
      · rw [if_pos ⟨rfl, qj⟩, qj]
        rw [hg, if_neg q]
      · rw [if_neg (fun t => qj t.2)]; exact g2 j (by omega)
theorem c_shows {m h : Hp} {n : Nat} (M : MOK m) (C : CR m h) (s : Int32) (hn : n ≤ 24) {a : Int32} (ha : inR a 0 1) : Ok (f_X7_shows h s (nI n) a) (fun u => u.2 = shV (inp m) s n a ∧ CR m u.1) :=
  c_showsG (L := loF s) (g := lotV s n) M C hn ha (by rw [loF]) (loF_s s) (fun b => by unfold lotV; rfl) (lotV_4 s n)
theorem m_showsOf {m h : Hp} {n : Nat} (M : MOK m) (T : MT m h) (s : Int32) (hn : n ≤ 24) (a : Int32) : Ok (f_X8_showsOf h s (nI n) a) (fun u => u.2 = shV (inp m) s n a ∧ MT m u.1) :=
  m_showsG (L := loF s) (g := lotV s n) M T hn a (by rw [loF]) (loF_s s) (fun b => by unfold lotV; rfl) (lotV_4 s n)
theorem op_shows {h : Hp} (I : Inv h) (a b c : Int32) : Step (f_X7_shows h a b c) (fun h1 => f_X8_shows h1 a b c) := by
  obtain ⟨m, M, C, P⟩ := I
  by_cases r1 : inR b 0 24
  · by_cases r2 : inR c 0 1
    · obtain ⟨n, -, hn, rfl⟩ := inR_ex r1 (by decide) (by decide)
      refine comb P M (c_shows M C a hn r2) (r_X7_shows h _ _ _) (fun h1 P1 => ?_) (fun h1 => r_X8_shows h1 _ _ _)
      unfold f_X8_shows
      refine ok_bdv (m_find M P1) (fun h2 H2 => ?_)
      rw [v_24, bdr_some, if_pos r1, if_neg one_ne, mt_eq, bdr_some, if_pos r2, if_neg one_ne]
      exact ok_bnd (m_showsOf M H2.1 a hn c) (fun h1 x H => ok_some ⟨H.1, H.2.1⟩)
    · refine comb (v := -2) P M ?_ (r_X7_shows h _ _ _) (fun h1 P1 => ?_) (fun h1 => r_X8_shows h1 _ _ _)
      · unfold f_X7_shows
        rw [w_24, bdr_some, if_pos r1, if_neg one_ne, w_1, bdr_some, if_neg r2, if_pos rfl]
        exact ok_some ⟨rfl, C⟩
      · unfold f_X8_shows
        refine ok_bdv (m_find M P1) (fun h2 H2 => ?_)
        rw [v_24, bdr_some, if_pos r1, if_neg one_ne, mt_eq, bdr_some, if_neg r2, if_pos rfl]
        exact ok_some ⟨rfl, H2.1.1⟩
  · refine comb (v := -2) P M ?_ (r_X7_shows h _ _ _) (fun h1 P1 => ?_) (fun h1 => r_X8_shows h1 _ _ _)
    · unfold f_X7_shows
      rw [w_24, bdr_some, if_neg r1, if_pos rfl]
      exact ok_some ⟨rfl, C⟩
    · unfold f_X8_shows
      refine ok_bdv (m_find M P1) (fun h2 H2 => ?_)
      rw [v_24, bdr_some, if_neg r1, if_pos rfl]
      exact ok_some ⟨rfl, H2.1.1⟩
