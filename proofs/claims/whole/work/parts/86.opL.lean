/-! bits; never; was (of what sort) -/
theorem fa_or (a b : Nat) : nI a ||| nI b = nI (a ||| b) := by
  apply Int32.toBitVec_inj.1
  show BitVec.ofNat 32 a ||| BitVec.ofNat 32 b = BitVec.ofNat 32 (a ||| b)
  apply BitVec.eq_of_getLsbD_eq
  intro i hi
  simp [hi]
theorem fb_bit_set (n j i : Nat) : (n ||| 2 ^ j).testBit i = (n.testBit i || decide (i = j)) := by
  rw [Nat.testBit_or]
  by_cases h : j = i
  · subst h; simp
  · have h2 : ¬ i = j := fun e => h e.symm
    first | (simp [Nat.testBit_two_pow, h, h2]; done) | (simp [Nat.testBit_two_pow_of_ne h, h2]; done)
theorem bt_eq {a : Nat} (ha : a < 31) : bt a = nI (2 ^ a) := (show ∀ a, a < 31 → bt a = nI (2 ^ a) by decide +kernel) a ha
theorem shb {y a : Nat} (hy : y < 2 ^ 31) (ha : a < 31) : ((nI y >>> (nI a &&& 31)) &&& 1 = 1) ↔ y.testBit a = true := by
  rw [pk_shrN hy _ a ((show ∀ a, a < 31 → ((nI a &&& 31).toBitVec.smod 32).toNat = a by decide +kernel) a ha), pk_andN (Nat.lt_of_le_of_lt (Nat.div_le_self _ _) (by omega)) 1 (by decide), show (1 : Int32) = nI 1 from rfl, nI_eq (by omega) (by decide), Nat.testBit_eq_decide_div_mod_eq]
  simp
/-- the bits of those below n that F takes -/
def bitF (F : Nat → Bool) : Nat → Int32
  | 0 => 0
  | e + 1 => if F e = true then bitF F e ||| bt e else bitF F e
theorem bitF_nat (F : Nat → Bool) : ∀ n, n ≤ 30 → ∃ y, y < 2 ^ n ∧ bitF F n = nI y ∧ ∀ a, y.testBit a = (decide (a < n) && F a)
  | 0, _ => ⟨0, by decide, rfl, fun a => by simp⟩
  | n + 1, hn => by
    obtain ⟨y, hy, ey, hb⟩ := bitF_nat F n (by omega)
    rw [bitF]
    by_cases q : F n = true
    · rw [if_pos q, ey, bt_eq (by omega), fa_or]
      refine ⟨_, Nat.or_lt_two_pow (by rw [Nat.pow_succ]; omega) (Nat.pow_lt_pow_right (by decide) (by omega)), rfl, fun a => ?_⟩
      rw [fb_bit_set, hb]
      by_cases e : a = n
      · subst e; simp [q]
      · have : decide (a < n + 1) = decide (a < n) := by rw [decide_eq_decide]; omega
        simp [e, this]
    · rw [if_neg q]
      refine ⟨y, by rw [Nat.pow_succ]; omega, ey, fun a => ?_⟩
      rw [hb]
      by_cases e : a = n
      · subst e; simp [q]
      · have : decide (a < n + 1) = decide (a < n) := by rw [decide_eq_decide]; omega
        simp [this]
theorem bitF_get {F : Nat → Bool} {n a : Nat} (hn : n ≤ 30) (ha : a < n) : ((bitF F n >>> (nI a &&& 31)) &&& 1 = 1) ↔ F a = true := by
  obtain ⟨y, hy, ey, hb⟩ := bitF_nat F n hn
  have : (2 : Nat) ^ n ≤ 2 ^ 30 := Nat.pow_le_pow_right (by decide) hn
  rw [ey, shb (by omega) (by omega), hb]
  simp [ha]
def nvV (m : Hp) : Int32 := bitF (fun e => ftB m (wWo (inp m) (bt e))) (nEv m)
theorem c_never {m h : Hp} (M : MOK m) (C : CR m h) : Ok (f_X7_never h) (fun u => u.2 = nvV m ∧ CR m u.1) := by
  have n8 := M.2.2.1.1
  unfold f_X7_never
  refine ok_fx3 (fun f h1 x y => ∃ e, y = nI e ∧ e + f = nEv m ∧ x = bitF (fun e => ftB m (wWo (inp m) (bt e))) e ∧ CR m h1) (nEv m) (by omega) ⟨0, rfl, by omega, rfl, C⟩ ?_
  rintro f self h1 x y ⟨e, rfl, he, rfl, C1⟩ ih
  rw [show h1.1 5 8 = nI (nEv m) from C1.2.1.2.1]
  by_cases hf : f = 0
  · have ee : e = nEv m := by omega
    rw [if_pos (nI_le (by omega) (by omega)), ee]
    exact ok_some ⟨rfl, C1⟩
  · have en : e < nEv m := by omega
    rw [if_neg (nI_ge en (by omega))]
    refine ok_bdv (c_tr (i := wWo (inp m) (bt e)) (ok_wWo (inp_ok M) _) (Or.inl rfl) rfl (ti_wWo C1.2.1 _)) (fun h4 H => ?_)
    have C4 : CR m h4 := C1.kc (kc_fi H.2.2)
    rw [show h4.1 5 7 = nI (iN (wWo (inp m) (bt e))) from C4.2.1.1]
    refine ok_bdr (c_fit M C4.2.2.1 (nWk_le M) (H.2.1 one_ne).2) (fun x5 hx => ?_)
    subst hx
    simp only [lt1_eq, nm_eq]
    rw [show nI e + (1 : Int32) = nI (e + 1) from nI_1 e]
    refine ok_w (fun q => ?_) (fun q => ?_)
    · exact ih (f - 1) _ _ _ (by omega) ⟨e + 1, rfl, by omega, by rw [bitF, if_pos q]; rfl, C4⟩
    · exact ih (f - 1) _ _ _ (by omega) ⟨e + 1, rfl, by omega, by rw [bitF, if_neg q], C4⟩
theorem or0 (x : Int32) : x ||| 0 = x := Int32.or_zero
/-- as told, but for what is left out -/
def MG (m h : Hp) : Prop := MT m (uf h 68 14 0)
theorem mg_of {m h : Hp} (M : MOK m) (T : MT m h) : MG m h := by
  unfold MG
  rw [uf_sm]
  · exact T
  · exact (T.1.2.2.2.2.2.2.2.2.2.2.1.trans M.2.2.2.2.1).symm
theorem mg_tm {m h : Hp} (G : MG m h) (w : Int32) : TM (wWo (inp m) w) (uf h 68 14 w) := by
  have := tm_14 (w := w) G.2.1
  rw [uf_uf] at this
  exact this
theorem mg_km {m h h2 : Hp} {w : Int32} (M : MOK m) (G : MG m h) (K : KM (uf h 68 14 w) h2) : MG m h2 := by
  refine MT.km G (km_14 (w := w) M G ?_)
  rw [uf_uf]; exact K
theorem mg_12 {m h : Hp} (G : MG m h) : h.1 68 12 = nI (nEv m) := by
  have := G.2.1.2.1
  rw [uf_get, if_neg (by decide)] at this
  exact this
theorem m_neverNow {m h : Hp} (M : MOK m) (T : MT m h) : Ok (f_X8_neverNow h) (fun u => u.2 = nvV m ∧ MT m u.1) := by
  have n8 := M.2.2.1.1
  unfold f_X8_neverNow
  refine ok_fx3 (fun f h1 x y => ∃ e, y = nI e ∧ e + f = nEv m ∧ x = bitF (fun e => ftB m (wWo (inp m) (bt e))) e ∧ MG m h1) (nEv m) (by omega) ⟨0, rfl, by omega, rfl, mg_of M T⟩ ?_
  rintro f self h1 x y ⟨e, rfl, he, rfl, G1⟩ ih
  rw [mg_12 G1]
  by_cases hf : f = 0
  · have ee : e = nEv m := by omega
    rw [if_pos (nI_le (by omega) (by omega)), nm_eq, ee]
    exact ok_some ⟨rfl, G1⟩
  · have en : e < nEv m := by omega
    rw [if_neg (nI_ge en (by omega)), nm_eq]
    have P := G1.1
    refine ok_bnd (m_isSeen (i := wWo (inp m) (bt e)) M (ok_wWo (inp_ok M) _) (mg_tm G1 _) ?_ ?_) (fun h6 x7 H => ?_)
    · have := P.2.2.2.2.1
      rw [uf_ne (by decide)] at this ⊢
      exact this
    · have := P.2.2.2.2.2.2.2.2.2.2.2
      rw [uf_get, if_neg (by decide)] at this ⊢
      exact this
    · obtain ⟨rfl, -, K⟩ : x7 = _ ∧ ML _ h6 ∧ KM _ h6 := H
      simp only [lt1_eq, nm_eq]
      rw [show nI e + (1 : Int32) = nI (e + 1) from nI_1 e]
      refine ok_w (fun q => ?_) (fun q => ?_)
      · exact ih (f - 1) _ _ _ (by omega) ⟨e + 1, rfl, by omega, by rw [bitF, if_pos q]; rfl, mg_km M G1 K⟩
      · exact ih (f - 1) _ _ _ (by omega) ⟨e + 1, rfl, by omega, by rw [bitF, if_neg q, or0], mg_km M G1 K⟩
theorem op_never {h : Hp} (I : Inv h) : Step (f_X7_never h) (fun h1 => f_X8_never h1) := by
  obtain ⟨m, M, C, P⟩ := I
  refine comb P M (c_never M C) (r_X7_never h) (fun h1 P1 => ?_) (fun h1 => r_X8_never h1)
  unfold f_X8_never
  refine ok_bdv (m_find M P1) (fun h2 H2 => ?_)
  exact ok_bnd (m_neverNow M H2.1) (fun h4 x H => ok_some ⟨H.1, H.2.1⟩)
def srtV (m : Hp) (k : Nat) : Int32 := bitF (fun v => ftB m (wSo (inp m) k (nI v))) 3
theorem c_sorts {m h : Hp} {k : Nat} (M : MOK m) (C : CR m h) (hk : k < nWk m) : Ok (f_X7_fittingSorts h (nI k)) (fun u => u.2 = srtV m k ∧ CR m u.1) := by
  have hN := nWk_le M
  have k6 : k < 6 := by omega
  have k31 : k < 2 ^ 31 := by omega
  unfold f_X7_fittingSorts
  rw [cw_eq hN C.2.1.1, bdr_some, if_pos (isW_nI hN hk), if_neg one_ne, ck_nI k6 (by decide), nm_eq, ia_nI k31, lt2_eq]
  refine ok_fx3 (fun f h1 x y => ∃ v, y = nI v ∧ v + f = 3 ∧ x = bitF (fun v => ftB m (wSo (inp m) k (nI v))) v ∧ KT 7 k h h1) 3 (by decide) ⟨0, rfl, rfl, rfl, kt_rf⟩ ?_
  rintro f self h1 x y ⟨v, rfl, hv, rfl, K1⟩ ih
  by_cases hf : f = 0
  · have ev : v = 3 := by omega
    rw [ev, if_pos (by decide)]
    dsimp only
    rw [ck_nI k6 (by decide), ux_nI k31, nm_eq]
    exact ok_some ⟨rfl, C.kc (kt_end K1 (by decide))⟩
  · have v3 : v < 3 := by omega
    have K7 : KT 7 k h (uf h1 7 k (nI v)) := kt_uf K1 (by decide)
    have T7 := ti_wSo C.2.1 K7 (show (uf h1 7 k (nI v)).1 7 k = nI v by rw [uf_get, if_pos ⟨rfl, rfl⟩])
    rw [if_neg ((show ∀ v, v < 3 → ¬ (3 : Int32) ≤ nI v by decide +kernel) v v3), ck_nI k6 (by decide), ux_nI k31, nm_eq]
    refine ok_bdv (c_tr (ok_wSo (inp_ok M) k v3) (Or.inl rfl) rfl T7) (fun h4 H => ?_)
    have K4 : KT 7 k h h4 := K7.kc (kc_fi H.2.2) (by decide)
    have S4 : SG m h4 := C.2.2.1.ke (fun c q r => K4.1 c (by omega) (by omega) (by omega))
    rw [show h4.1 5 7 = nI (iN (wSo (inp m) k (nI v))) from by rw [K4.1 5 (by decide) (by decide) (by decide)]; exact C.2.1.1]
    refine ok_bdr (c_fit M S4 hN (H.2.1 one_ne).2) (fun x5 hx => ?_)
    subst hx
    simp only [lt1_eq, nm_eq]
    rw [show nI v + (1 : Int32) = nI (v + 1) from nI_1 v]
    refine ok_w (fun q => ?_) (fun q => ?_)
    · exact ih (f - 1) _ _ _ (by omega) ⟨v + 1, rfl, by omega, by rw [bitF, if_pos q]; rfl, K4⟩
    · exact ih (f - 1) _ _ _ (by omega) ⟨v + 1, rfl, by omega, by rw [bitF, if_neg q], K4⟩
theorem m_sortOf {m h : Hp} {k : Nat} (M : MOK m) (T : MT m h) (hk : k < nWk m) : Ok (f_X8_sortOf h (nI k)) (fun u => u.2 = srtV m k ∧ MT m u.1) := by
  have hN := nWk_le M
  have k18 : 3 * k + 1 < 18 := by omega
  have k31 : 3 * k + 1 < 2 ^ 31 := by omega
  unfold f_X8_sortOf
  rw [show (3 : Int32) * nI k + 1 = nI (3 * k + 1) by rw [t30]; exact nI_1 _, nm_eq, ck_nI k18 (by decide), nm_eq, ia_nI k31]
  refine ok_fx3 (fun f h1 x y => ∃ v, y = nI v ∧ v + f = 3 ∧ x = bitF (fun v => ftB m (wSo (inp m) k (nI v))) v ∧ KW 75 (3 * k + 1) h h1) 3 (by decide) ⟨0, rfl, rfl, rfl, kw_rf⟩ ?_
  rintro f self h1 x y ⟨v, rfl, hv, rfl, K1⟩ ih
  by_cases hf : f = 0
  · have ev : v = 3 := by omega
    rw [ev, if_pos (by decide), ck_nI k18 (by decide), ux_nI k31, nm_eq]
    exact ok_some ⟨rfl, T.km (kw_end K1 (by decide))⟩
  · have v3 : v < 3 := by omega
    have K7 : KW 75 (3 * k + 1) h (uf h1 75 (3 * k + 1) (nI v)) := kw_uf K1 (by decide)
    have T7 := tm_wSo T.2.1 K7 (show (uf h1 75 (3 * k + 1) (nI v)).1 75 (3 * k + 1) = nI v by rw [uf_get, if_pos ⟨rfl, rfl⟩])
    rw [if_neg ((show ∀ v, v < 3 → ¬ (3 : Int32) ≤ nI v by decide +kernel) v v3), ck_nI k18 (by decide), ux_nI k31, nm_eq]
    refine ok_bnd (m_isSeen M (ok_wSo (inp_ok M) k v3) T7 ((K7.1 91 (by decide) (by decide) (by decide)).trans T.1.2.2.2.2.1) ((K7.2.1 29 (by decide) (by decide)).trans T.1.2.2.2.2.2.2.2.2.2.2.2)) (fun h6 x7 H => ?_)
    obtain ⟨rfl, -, K⟩ : x7 = _ ∧ ML _ h6 ∧ KM _ h6 := H
    have K6 : KW 75 (3 * k + 1) h h6 := K7.km K (by decide)
    simp only [lt1_eq, nm_eq]
    rw [show nI v + (1 : Int32) = nI (v + 1) from nI_1 v]
    refine ok_w (fun q => ?_) (fun q => ?_)
    · exact ih (f - 1) _ _ _ (by omega) ⟨v + 1, rfl, by omega, by rw [bitF, if_pos q]; rfl, K6⟩
    · exact ih (f - 1) _ _ _ (by omega) ⟨v + 1, rfl, by omega, by rw [bitF, if_neg q, or0], K6⟩
