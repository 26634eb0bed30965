/-! what poles let all be so; was; the marks of the places -/
theorem wb_tb (n : Nat) : (lN n).toBitVec = BitVec.ofNat 64 n := rfl
theorem wb_inj {a b : Int64} (h : a.toBitVec = b.toBitVec) : a = b := Int64.toBitVec_inj.mp h
theorem wb_c : ∀ k, k < 64 → ((nI k).toInt64 &&& 63) = lN k := by decide +kernel
theorem wb_sm : ∀ k, k < 64 → (BitVec.ofNat 64 k).smod 64 = BitVec.ofNat 64 k := by decide +kernel
theorem wb_shl (n : Nat) {k : Nat} (hk : k < 64) : lN n <<< ((nI k).toInt64 &&& 63) = lN (n * 2 ^ k) := by
  rw [wb_c k hk]
  apply wb_inj
  rw [Int64.toBitVec_shiftLeft, wb_tb, wb_tb, wb_tb, wb_sm k hk]
  apply BitVec.eq_of_toNat_eq
  rw [BitVec.shiftLeft_eq', BitVec.toNat_shiftLeft, BitVec.toNat_ofNat, BitVec.toNat_ofNat, BitVec.toNat_ofNat, Nat.mod_eq_of_lt (show k < 2 ^ 64 by omega), Nat.shiftLeft_eq, Nat.mul_mod, Nat.mod_mod, ← Nat.mul_mod]
theorem fb_orL (a b : Nat) : lN a ||| lN b = lN (a ||| b) := by
  apply Int64.toBitVec_inj.1
  show BitVec.ofNat 64 a ||| BitVec.ofNat 64 b = BitVec.ofNat 64 (a ||| b)
  apply BitVec.eq_of_getLsbD_eq
  intro i hi
  simp [hi]
theorem fb_or_sumL {a k : Nat} (b : Nat) (h : a < 2 ^ k) : lN (2 ^ k * b) ||| lN a = lN (2 ^ k * b + a) := by rw [fb_orL, Nat.two_pow_add_eq_or_of_lt h]
def mkV (i : Inp) (b : Nat) : Nat → Int64
  | 0 => 0
  | k + 1 => (mkV i b k <<< ((6 : Int32).toInt64 &&& 63)) ||| (plV i b k + 1).toInt64
def rwV (i : Inp) (b : Nat) : Nat → Int64
  | 0 => 0
  | k + 1 => 42 * rwV i b k + (plV i b k).toInt64 + 1
def poly (B : Nat) (g : Nat → Nat) : Nat → Nat
  | 0 => 0
  | k + 1 => B * poly B g k + g k
def pz (i : Inp) (b k : Nat) : Nat := (plV i b k + 1).toNatClampNeg
theorem pz_eq {i : Inp} (hI : InOk i) {b k : Nat} (hk : k < iN i) : pz i b k ≤ 41 ∧ plV i b k + 1 = nI (pz i b k) := by
  obtain ⟨z, hz, ez⟩ := (run_qi hI (b + 1) k hk).1
  have ez' : plV i b k + 1 = nI z := ez
  unfold pz
  rw [ez', nI_clamp (by omega)]
  exact ⟨hz, rfl⟩
theorem poly_lt {B : Nat} {g : Nat → Nat} : ∀ {n : Nat}, (∀ k, k < n → g k < B) → poly B g n < B ^ n
  | 0, _ => by simp [poly]
  | n + 1, h => by
    have ih : poly B g n < B ^ n := poly_lt (n := n) (fun k hk => h k (Nat.lt_succ_of_lt hk))
    have hn := h n (by omega)
    rw [poly, Nat.pow_succ, Nat.mul_comm (B ^ n) B]
    have : B * (poly B g n + 1) ≤ B * B ^ n := Nat.mul_le_mul_left B ih
    rw [Nat.mul_add] at this
    omega
theorem poly_inj {B : Nat} {g g' : Nat → Nat} : ∀ {n : Nat}, (∀ k, k < n → g k < B) → (∀ k, k < n → g' k < B) → poly B g n = poly B g' n → ∀ k, k < n → g k = g' k
  | 0, _, _, _, k, hk => by omega
  | n + 1, h, h', e, k, hk => by
    rw [poly, poly] at e
    have a := h n (by omega)
    have a' := h' n (by omega)
    have B0 : 0 < B := by omega
    have d1 : (B * poly B g n + g n) / B = poly B g n := by rw [Nat.mul_add_div B0, Nat.div_eq_of_lt a]; rfl
    have d2 : (B * poly B g' n + g' n) / B = poly B g' n := by rw [Nat.mul_add_div B0, Nat.div_eq_of_lt a']; rfl
    have e1 : poly B g n = poly B g' n := by rw [← d1, ← d2, e]
    by_cases q : k = n
    · rw [q]
      rw [e1] at e
      omega
    · exact poly_inj (n := n) (fun k hk => h k (Nat.lt_succ_of_lt hk)) (fun k hk => h' k (Nat.lt_succ_of_lt hk)) e1 k (by omega)
theorem poly_cg {B : Nat} {g g' : Nat → Nat} : ∀ {n : Nat}, (∀ k, k < n → g k = g' k) → poly B g n = poly B g' n
  | 0, _ => rfl
  | n + 1, h => by rw [poly, poly, h n (by omega), poly_cg (n := n) (fun k hk => h k (Nat.lt_succ_of_lt hk))]
theorem mkV_eq {i : Inp} (hI : InOk i) (b : Nat) : ∀ n, n ≤ iN i → mkV i b n = lN (poly 64 (pz i b) n)
  | 0, _ => rfl
  | n + 1, hn => by
    obtain ⟨hz, ez⟩ := pz_eq hI (b := b) (show n < iN i by omega)
    rw [mkV, mkV_eq hI b n (by omega), ez, nI_l (by omega), show (6 : Int32) = nI 6 from rfl, wb_shl _ (by decide), Nat.mul_comm, fb_or_sumL _ (show pz i b n < 2 ^ 6 by omega)]
    rfl
theorem rwV_eq {i : Inp} (hI : InOk i) (b : Nat) : ∀ n, n ≤ iN i → rwV i b n = lN (poly 42 (pz i b) n)
  | 0, _ => rfl
  | n + 1, hn => by
    obtain ⟨z, hz, ez⟩ := (run_qi hI (b + 1) n (show n < iN i by omega)).1
    have ez' : plV i b n + 1 = nI z := ez
    obtain ⟨hz2, ez2⟩ := pz_eq hI (b := b) (show n < iN i by omega)
    have e1 : (plV i b n).toInt64 + 1 = lN (pz i b n) := by
      rw [← nI_l (show pz i b n < 2 ^ 31 by omega), ← ez2]
      have e : plV i b n = nI (pz i b n) - 1 := by rw [← ez2]; exact (Int32.add_sub_cancel _ _).symm
      rw [e]
      exact (show ∀ y, y < 42 → (nI y - 1).toInt64 + 1 = (nI y - 1 + 1).toInt64 by decide +kernel) _ (by omega)
    rw [rwV, rwV_eq hI b n (by omega), Int64.add_assoc, e1, show (42 : Int64) = lN 42 from rfl, lN_mul, lN_add]
    rfl
/-- the marks tell the same places, by sixty-fours or by forty-twos -/
abbrev smP (i i' : Inp) (b : Nat) : Prop := ∀ k, k < iN i → plV i b k = plV i' b k
theorem pz_sm {i i' : Inp} (hI : InOk i) (hI' : InOk i') (hN : iN i' = iN i) (b : Nat) : (∀ k, k < iN i → pz i b k = pz i' b k) ↔ smP i i' b := by
  constructor
  · intro h k hk
    have e1 := (pz_eq hI (b := b) hk).2
    have e2 := (pz_eq hI' (b := b) (show k < iN i' by omega)).2
    rw [h k hk] at e1
    have e3 := congrArg (fun x => x - 1) (e1.trans e2.symm)
    simp only [Int32.add_sub_cancel] at e3
    exact e3
  · intro h k hk
    unfold pz; rw [h k hk]
theorem p6 {B n : Nat} (hB : B ≤ 64) (hn : n ≤ 6) (h0 : 0 < B) : B ^ n < 2 ^ 63 := by
  have h1 : B ^ n ≤ B ^ 6 := Nat.pow_le_pow_right h0 hn
  have h2 : B ^ 6 ≤ 64 ^ 6 := Nat.pow_le_pow_left hB 6
  have : (64 : Nat) ^ 6 < 2 ^ 63 := by decide
  omega
theorem mk_sm {i i' : Inp} (hI : InOk i) (hI' : InOk i') (hN : iN i' = iN i) (b : Nat) : mkV i b (iN i) = mkV i' b (iN i) ↔ smP i i' b := by
  have n6 := hI.1
  have h1 : ∀ k, k < iN i → pz i b k < 64 := fun k hk => by have := (pz_eq hI (b := b) hk).1; omega
  have h2 : ∀ k, k < iN i → pz i' b k < 64 := fun k hk => by have := (pz_eq hI' (b := b) (show k < iN i' by omega)).1; omega
  have l1 := poly_lt h1
  have l2 := poly_lt h2
  have l3 := p6 (B := 64) (by decide) n6 (by decide)
  rw [mkV_eq hI b _ (Nat.le_refl _), mkV_eq hI' b _ (by omega), pk_lEQ (by omega) (by omega), ← pz_sm hI hI' hN b]
  exact ⟨poly_inj h1 h2, poly_cg⟩
theorem rw_sm {i i' : Inp} (hI : InOk i) (hI' : InOk i') (hN : iN i' = iN i) (b : Nat) : rwV i b (iN i) = rwV i' b (iN i) ↔ smP i i' b := by
  have n6 := hI.1
  have h1 : ∀ k, k < iN i → pz i b k < 42 := fun k hk => by have := (pz_eq hI (b := b) hk).1; omega
  have h2 : ∀ k, k < iN i → pz i' b k < 42 := fun k hk => by have := (pz_eq hI' (b := b) (show k < iN i' by omega)).1; omega
  have l1 := poly_lt h1
  have l2 := poly_lt h2
  have l3 := p6 (B := 42) (by decide) n6 (by decide)
  rw [rwV_eq hI b _ (Nat.le_refl _), rwV_eq hI' b _ (by omega), pk_lEQ (by omega) (by omega), ← pz_sm hI hI' hN b]
  exact ⟨poly_inj h1 h2, poly_cg⟩
theorem c_mark {i : Inp} {h : Hp} {b : Nat} (hN : iN i ≤ 6) (L : LG i 36 h 24) (hb : b < 24) : Ok (f_X0_markOfPlaces h 41 (nI b) (nI (iN i))) (fun l => l = mkV i b (iN i)) := by
  unfold f_X0_markOfPlaces
  refine ok_fx2 (fun f l y => ∃ k, y = nI k ∧ k + f = iN i ∧ l = mkV i b k) (iN i) (by omega) ⟨0, rfl, by omega, rfl⟩ ?_
  rintro f self l y ⟨k, rfl, hk, rfl⟩ ih
  by_cases hf : f = 0
  · have e : k = iN i := by omega
    rw [if_pos (nI_le (by omega) (by omega)), e]
    exact ok_some rfl
  · have kN : k < iN i := by omega
    rw [if_neg (nI_ge kN (by omega)), row_eq hb (show k < 6 by omega), bdr_some, lt1_eq, if_neg (show ¬ nI (6 * b + k) = -1 from (show ∀ r, r < 144 → ¬ nI r = -1 by decide +kernel) _ (by omega)), ck_nI (show 6 * b + k < 144 by omega) (by decide), ia_nI (show 6 * b + k < 2 ^ 31 by omega)]
    dsimp only
    rw [nm_eq, nm_eq, show h.1 (41 + 2) (6 * b + k) = plV i b k from ((L b hb).1 k kN).2.1, show nI k + (1 : Int32) = nI (k + 1) from nI_1 k]
    exact ih (f - 1) _ _ (by omega) ⟨k + 1, rfl, by omega, rfl⟩
theorem m_rowOf {i : Inp} {h : Hp} {b : Nat} (hN : iN i ≤ 6) (e7 : h.1 68 7 = nI (iN i)) (L : LM i h 24) (hb : b < 24) : Ok (f_X8_rowOf h (nI b)) (fun l => l = rwV i b (iN i)) := by
  unfold f_X8_rowOf
  refine ok_fx2 (fun f l y => ∃ k, y = nI k ∧ k + f = iN i ∧ l = rwV i b k) (iN i) (by omega) ⟨0, rfl, by omega, rfl⟩ ?_
  rintro f self l y ⟨k, rfl, hk, rfl⟩ ih
  rw [e7]
  by_cases hf : f = 0
  · have e : k = iN i := by omega
    rw [if_pos (nI_le (by omega) (by omega)), e]
    exact ok_some rfl
  · have kN : k < iN i := by omega
    rw [if_neg (nI_ge kN (by omega)), e6, ck_nI (by omega) (by decide), nm_eq, nm_eq, ia_nI (by omega), show h.1 88 (6 * b + k) = plV i b k from ((L b hb).1 k kN).2.1, show nI k + (1 : Int32) = nI (k + 1) from nI_1 k]
    exact ih (f - 1) _ _ (by omega) ⟨k + 1, rfl, by omega, rfl⟩
theorem c_markPlaces {i : Inp} {h : Hp} {v : Nat} (hN : iN i ≤ 6) (e7 : h.1 5 7 = nI (iN i)) (L : LG i 36 h 24) (hv : v < 10) : Ok (f_X7_markPlaces h (nI v)) (fun h' => h'.1 = h.1 ∧ (∀ b, b < 24 → h'.2 57 (24 * v + b) = mkV i b (iN i)) ∧ ∀ z, (z < 24 * v ∨ 24 * v + 24 ≤ z) → h'.2 57 z = h.2 57 z) := by
  unfold f_X7_markPlaces
  refine ok_fx2 (fun f h1 y => ∃ b, y = nI b ∧ b + f = 24 ∧ h1.1 = h.1 ∧ (∀ b', b' < b → h1.2 57 (24 * v + b') = mkV i b' (iN i)) ∧ ∀ z, (z < 24 * v ∨ 24 * v + 24 ≤ z) → h1.2 57 z = h.2 57 z) 24 (by decide) ⟨0, rfl, rfl, rfl, fun b hb => by omega, fun _ _ => rfl⟩ ?_
  rintro f self h1 y ⟨b, rfl, hb, g1, g2, g3⟩ ih
  by_cases hf : f = 0
  · have e : b = 24 := by omega
    subst e
    rw [if_pos (by decide)]
    exact ok_some ⟨g1, g2, g3⟩
  · have b24 : b < 24 := by omega
    have e24 : nI v * (24 : Int32) + nI b = nI (24 * v + b) := by rw [show (24 : Int32) = nI 24 from rfl, pk_mul, nI_add, Nat.mul_comm]
    have LG1 : LG i 36 h1 24 := by unfold LG; rw [g1]; exact L
    rw [if_neg ((show ∀ b, b < 24 → ¬ (24 : Int32) ≤ nI b by decide +kernel) b b24), e24, nm_eq, lt1_eq, if_neg (nI_pos (by omega)), if_neg (nI_ge (by omega) (by decide)), show h1.1 5 7 = nI (iN i) by rw [g1]; exact e7]
    refine ok_bdr (c_mark hN LG1 b24) (fun l hl => ?_)
    subst hl
    rw [ck_nI (by omega) (by decide), uy_nI (by omega), nm_eq]
    dsimp only
    rw [nm_eq, show nI b + (1 : Int32) = nI (b + 1) from nI_1 b]
    refine ih (f - 1) _ _ (by omega) ⟨b + 1, rfl, by omega, g1, fun b' hb' => ?_, fun z hz => ?_⟩
    · rw [ul_get]
      by_cases q : b' = b
      · rw [if_pos ⟨rfl, by rw [q]⟩, q]
      · rw [if_neg (by omega)]; exact g2 b' (by omega)
    · rw [ul_get, if_neg (by omega)]; exact g3 z hz
def polF (m : Hp) (k v : Nat) : Inp := wPo (inp m) k (nI v)
def polB (m : Hp) (k v : Nat) : Bool := ftB m (polF m k v)
def polV (m : Hp) (k : Nat) : Int32 := bitF (polB m k) 10
theorem kt_1 {c k : Nat} {h h1 h2 : Hp} (K : KT c k h h1) (e : h2.1 = h1.1) : KT c k h h2 := by unfold KT; rw [e]; exact K
theorem c_poles {m h : Hp} {k : Nat} (M : MOK m) (C : CR m h) (hk : k < nWk m) : Ok (f_X7_fittingPoles h (nI k)) (fun u => u.2 = polV m k ∧ CR m u.1 ∧ ∀ v, v < 10 → polB m k v = true → ∀ b, b < 24 → u.1.2 57 (24 * v + b) = mkV (polF m k v) b (iN (inp m))) := by
  have hN := nWk_le M
  have k6 : k < 6 := by omega
  have k31 : k < 2 ^ 31 := by omega
  unfold f_X7_fittingPoles
  rw [cw_eq hN C.2.1.1, bdr_some, if_pos (isW_nI hN hk), if_neg one_ne, ck_nI k6 (by decide), nm_eq, ia_nI k31, lt2_eq]
  refine ok_fx3 (fun f h1 x y => ∃ v, y = nI v ∧ v + f = 10 ∧ x = bitF (polB m k) v ∧ KT 8 k h h1 ∧ ∀ v', v' < v → polB m k v' = true → ∀ b, b < 24 → h1.2 57 (24 * v' + b) = mkV (polF m k v') b (iN (inp m))) 10 (by decide) ⟨0, rfl, rfl, rfl, kt_rf, fun v' hv' => by omega⟩ ?_
  rintro f self h1 x y ⟨v, rfl, hv, rfl, K1, G1⟩ ih
  by_cases hf : f = 0
  · have ev : v = 10 := by omega
    rw [ev, if_pos (by decide)]
    dsimp only
    rw [ck_nI k6 (by decide), ux_nI k31, nm_eq]
    exact ok_some ⟨rfl, C.kc (kt_end K1 (by decide)), fun v' hv' => G1 v' (by omega)⟩
  · have v10 : v < 10 := by omega
    have K7 : KT 8 k h (uf h1 8 k (nI v)) := kt_uf K1 (by decide)
    have T7 := ti_wPo C.2.1 K7 (show (uf h1 8 k (nI v)).1 8 k = nI v by rw [uf_get, if_pos ⟨rfl, rfl⟩])
    rw [if_neg ((show ∀ v, v < 10 → ¬ (10 : Int32) ≤ nI v by decide +kernel) v v10), ck_nI k6 (by decide), ux_nI k31, nm_eq]
    refine ok_bdv (c_tr (ok_wPo (inp_ok M) k v10) (Or.inl rfl) rfl T7) (fun h4 H => ?_)
    have K4 : KT 8 k h h4 := K7.kc (kc_fi H.2.2) (by decide)
    have S4 : SG m h4 := C.2.2.1.ke (fun c q r => K4.1 c (by omega) (by omega) (by omega))
    have L4 : LG (polF m k v) 36 h4 24 := (H.2.1 one_ne).2
    have e57 : h4.1 5 7 = nI (iN (polF m k v)) := by rw [K4.1 5 (by decide) (by decide) (by decide)]; exact C.2.1.1
    have e2 : h4.2 57 = h1.2 57 := (H.2.2 57 (by decide)).2
    rw [e57]
    refine ok_bdr (c_fit M S4 hN L4) (fun x5 hx => ?_)
    subst hx
    simp only [lt2_eq, nm_eq]
    rw [show nI v + (1 : Int32) = nI (v + 1) from nI_1 v]
    refine ok_w (fun q => ?_) (fun q => ?_)
    · refine ok_bdv (c_markPlaces (i := polF m k v) hN e57 L4 v10) (fun h5 H5 => ?_)
      obtain ⟨g1, g2, g3⟩ := H5
      refine ih (f - 1) _ _ _ (by omega) ⟨v + 1, rfl, by omega, by rw [bitF, if_pos (show polB m k v = true from q)]; rfl, kt_1 K4 g1, fun v' hv' q' b hb => ?_⟩
      by_cases ev : v' = v
      · rw [ev]; exact g2 b hb
      · rw [g3 _ (by omega), e2]; exact G1 v' (by omega) q' b hb
    · refine ih (f - 1) _ _ _ (by omega) ⟨v + 1, rfl, by omega, by rw [bitF, if_neg (show ¬ polB m k v = true from q)], K4, fun v' hv' q' b hb => ?_⟩
      by_cases ev : v' = v
      · rw [ev] at q'; exact absurd q' q
      · rw [e2]; exact G1 v' (by omega) q' b hb
/-- as KW, but the rows of marks may change -/
def KX (c k : Nat) (h h' : Hp) : Prop := (∀ d, (d < 79 ∨ 91 ≤ d) → d ≠ 68 → d ≠ c → h'.1 d = h.1 d) ∧ (∀ z, z ≠ 27 → z ≠ 28 → h'.1 68 z = h.1 68 z) ∧ (∀ z, z ≠ k → h'.1 c z = h.1 c z)
theorem kx_kw {c k : Nat} {h h' : Hp} (K : KX c k h h') : KW c k h (h'.1, h.2) := ⟨K.1, K.2.1, K.2.2, rfl⟩
theorem TM.e1 {i : Inp} {h h' : Hp} (e : h'.1 = h.1) (T : TM i h) : TM i h' := by unfold TM; rw [e]; exact T
theorem MT.e1 {m h h' : Hp} (e : h'.1 = h.1) (T : MT m h) : MT m h' := ⟨by unfold PK; rw [e]; exact T.1, T.2.1.e1 e, by rw [e]; exact T.2.2⟩
theorem KX.km {c k : Nat} {h h1 h2 : Hp} (a : KX c k h h1) (b : KM h1 h2) (hc : c < 79 ∧ c ≠ 68) : KX c k h h2 := ⟨fun d q r s => (b.1 d q r).trans (a.1 d q r s), fun z q r => (b.2.1 z q r).trans (a.2.1 z q r), fun z q => by rw [b.1 c (Or.inl hc.1) hc.2]; exact a.2.2 z q⟩
theorem kx_uf {c k : Nat} {h h1 : Hp} {v : Int32} (a : KX c k h h1) (hc : c < 79 ∧ c ≠ 68) : KX c k h (uf h1 c k v) := ⟨fun d q r s => by rw [uf_ne s]; exact a.1 d q r s, fun z q r => by rw [uf_ne (Ne.symm hc.2)]; exact a.2.1 z q r, fun z q => by rw [uf_get, if_neg (fun x => q x.2)]; exact a.2.2 z q⟩
theorem kx_end {c k : Nat} {m h h1 : Hp} (T : MT m h) (a : KX c k h h1) (hc : c < 79 ∧ c ≠ 68) : MT m (uf h1 c k (h.1 c k)) := by
  have b := kw_end (kx_kw a) hc
  have T2 := T.km b
  exact T2.e1 rfl
theorem m_poles {m h : Hp} {k : Nat} (M : MOK m) (T : MT m h) (hk : k < nWk m) : Ok (f_X8_polesOf h (nI k)) (fun u => u.2 = polV m k ∧ MT m u.1 ∧ ∀ v, v < 10 → ∀ b, b < 24 → u.1.2 92 (24 * v + b) = rwV (polF m k v) b (iN (inp m))) := by
  have hN := nWk_le M
  have k18 : 3 * k + 2 < 18 := by omega
  have k31 : 3 * k + 2 < 2 ^ 31 := by omega
  unfold f_X8_polesOf
  rw [show (3 : Int32) * nI k + 2 = nI (3 * k + 2) by rw [t30]; exact nI_add _ 2, nm_eq, ck_nI k18 (by decide), nm_eq, ia_nI k31]
  refine ok_fx3 (fun f h1 x y => ∃ v, y = nI v ∧ v + f = 10 ∧ x = bitF (polB m k) v ∧ KX 75 (3 * k + 2) h h1 ∧ ∀ v', v' < v → ∀ b, b < 24 → h1.2 92 (24 * v' + b) = rwV (polF m k v') b (iN (inp m))) 10 (by decide) ⟨0, rfl, rfl, rfl, ⟨fun _ _ _ _ => rfl, fun _ _ _ => rfl, fun _ _ => rfl⟩, fun v' hv' => by omega⟩ ?_
  rintro f self h1 x y ⟨v, rfl, hv, rfl, K1, G1⟩ ih
  by_cases hf : f = 0
  · have ev : v = 10 := by omega
    rw [ev, if_pos (by decide), ck_nI k18 (by decide), ux_nI k31, nm_eq]
    exact ok_some ⟨rfl, kx_end T K1 (by decide), fun v' hv' => G1 v' (by omega)⟩
  · have v10 : v < 10 := by omega
    have K7 : KX 75 (3 * k + 2) h (uf h1 75 (3 * k + 2) (nI v)) := kx_uf K1 (by decide)
    have T7 : TM (polF m k v) (uf h1 75 (3 * k + 2) (nI v)) := (tm_wPo T.2.1 (kx_kw K7) (show (uf h1 75 (3 * k + 2) (nI v)).1 75 (3 * k + 2) = nI v by rw [uf_get, if_pos ⟨rfl, rfl⟩])).e1 rfl
    rw [if_neg ((show ∀ v, v < 10 → ¬ (10 : Int32) ≤ nI v by decide +kernel) v v10), ck_nI k18 (by decide), ux_nI k31, nm_eq]
    refine ok_bnd (m_isSeen M (ok_wPo (inp_ok M) k v10) T7 ((K7.1 91 (by decide) (by decide) (by decide)).trans T.1.2.2.2.2.1) ((K7.2.1 29 (by decide) (by decide)).trans T.1.2.2.2.2.2.2.2.2.2.2.2)) (fun h6 x7 H => ?_)
    obtain ⟨rfl, L6, K⟩ : x7 = _ ∧ ML (polF m k v) h6 ∧ KM _ h6 := H
    have K6 : KX 75 (3 * k + 2) h h6 := K7.km K (by decide)
    have T6 : TM (polF m k v) h6 := km_tm K T7
    have e2 : h6.2 = h1.2 := K.2.2
    have inner : ∀ (x4 x10 : Int32), x4 ||| x10 = bitF (polB m k) (v + 1) → Ok (nm (x4 ||| x10) fun x11 =>
          lt1 (fun (h12 : Hp) =>
            nm (nI v + (1 : Int32)) fun x13 =>
            self h12 x11 x13) fun k3 =>
          fx2 FU (fun s4 (h14 : Hp) (x15 : Int32) =>
            if (24 : Int32) ≤ x15 then (
              k3 h14)
            else (
              bdr (f_X8_rowOf h14 x15) fun l16 =>
              ck (((24 : Int32) * nI v) + x15) 240 (nm (uy h14 92 (((24 : Int32) * nI v) + x15) l16) fun h17 =>
              nm (x15 + (1 : Int32)) fun x18 =>
              s4 h17 x18))) h6 (0 : Int32)) (fun u => u.2 = polV m k ∧ MT m u.1 ∧ ∀ v, v < 10 → ∀ b, b < 24 → u.1.2 92 (24 * v + b) = rwV (polF m k v) b (iN (inp m))) := by
      intro x4 x10 e10
      rw [nm_eq, e10, lt1_eq]
      refine ok_fx2 (fun g h2 y => ∃ b, y = nI b ∧ b + g = 24 ∧ h2.1 = h6.1 ∧ (∀ b', b' < b → h2.2 92 (24 * v + b') = rwV (polF m k v) b' (iN (inp m))) ∧ ∀ z, (z < 24 * v ∨ 24 * v + 24 ≤ z) → h2.2 92 z = h6.2 92 z) 24 (by decide) ⟨0, rfl, rfl, rfl, fun b hb => by omega, fun _ _ => rfl⟩ ?_
      rintro g self2 h2 y ⟨b, rfl, hb, g1, g2, g3⟩ ih2
      by_cases hg : g = 0
      · have e : b = 24 := by omega
        subst e
        rw [if_pos (by decide)]
        dsimp only
        rw [nm_eq, show nI v + (1 : Int32) = nI (v + 1) from nI_1 v]
        refine ih (f - 1) _ _ _ (by omega) ⟨v + 1, rfl, by omega, rfl, ?_, fun v' hv' b hb => ?_⟩
        · unfold KX; rw [g1]; exact K6
        · by_cases ev : v' = v
          · rw [ev]; exact g2 b hb
          · rw [g3 _ (by omega), e2]; exact G1 v' (by omega) b hb
      · have b24 : b < 24 := by omega
        have e24 : (24 : Int32) * nI v + nI b = nI (24 * v + b) := by rw [show (24 : Int32) = nI 24 from rfl, pk_mul, nI_add]
        have L2 : LM (polF m k v) h2 24 := by unfold LM; rw [g1]; exact L6.2
        rw [if_neg ((show ∀ b, b < 24 → ¬ (24 : Int32) ≤ nI b by decide +kernel) b b24), e24]
        refine ok_bdr (m_rowOf (i := polF m k v) hN (by rw [g1]; exact T6.1) L2 b24) (fun l hl => ?_)
        subst hl
        rw [ck_nI (by omega) (by decide), uy_nI (by omega), nm_eq, nm_eq, show nI b + (1 : Int32) = nI (b + 1) from nI_1 b]
        refine ih2 (g - 1) _ _ (by omega) ⟨b + 1, rfl, by omega, g1, fun b' hb' => ?_, fun z hz => ?_⟩
        · rw [ul_get]
          by_cases q : b' = b
          · rw [if_pos ⟨rfl, by rw [q]⟩, q]; rfl
          · rw [if_neg (by omega)]; exact g2 b' (by omega)
        · rw [ul_get, if_neg (by omega)]; exact g3 z hz
    rw [lt1_eq]
    refine ok_w (fun q => ?_) (fun q => ?_)
    · exact inner _ _ (by rw [bitF, if_pos (show polB m k v = true from q)]; rfl)
    · exact inner _ _ (by rw [bitF, if_neg (show ¬ polB m k v = true from q), or0])
def wasV (m : Hp) (a b : Int32) : Int32 := if isW (nWk m) a then (if inR b 0 1 then (if b = 0 then polV m a.toNatClampNeg else srtV m a.toNatClampNeg) else -2) else -2
theorem c_was {m h : Hp} (M : MOK m) (C : CR m h) (a b : Int32) : Ok (f_X7_was h a b) (fun u => u.2 = wasV m a b ∧ CR m u.1) := by
  have hN := nWk_le M
  unfold f_X7_was wasV
  rw [cw_eq (nWk_le M) C.2.1.1, bdr_some]
  refine ok_w (fun r2 => ?_) (fun r2 => by rw [if_neg r2]; exact ok_some ⟨rfl, C⟩)
  rw [if_pos r2, w_1, bdr_some]
  refine ok_w (fun r3 => ?_) (fun r3 => by rw [if_neg r3]; exact ok_some ⟨rfl, C⟩)
  rw [if_pos r3]
  obtain ⟨k, hk, rfl⟩ := isW_ex (nWk_le M) r2
  rw [nI_clamp (by omega)]
  refine ok_ite (fun q => ?_) (fun q => ?_)
  · rw [if_pos q]
    exact ok_bnd (c_poles M C hk) (fun h1 x H => ok_some ⟨H.1, H.2.1⟩)
  · rw [if_neg q]
    exact ok_bnd (c_sorts M C hk) (fun h1 x H => ok_some H)
theorem op_was {h : Hp} (I : Inv h) (a b : Int32) : Step (f_X7_was h a b) (fun h1 => f_X8_was h1 a b) := by
  obtain ⟨m, M, C, P⟩ := I
  have hN := nWk_le M
  refine comb P M (c_was M C a b) (r_X7_was h _ _) (fun h1 P1 => ?_) (fun h1 => r_X8_was h1 _ _)
  unfold f_X8_was f_X8_wasOf wasV
  refine ok_bdv (m_find M P1) (fun h2 H2 => ?_)
  obtain ⟨T2, L2⟩ := H2
  rw [mw_eq T2.2.1.1, bdr_some]
  refine ok_w (fun r2 => ?_) (fun r2 => by rw [if_neg (show ¬ isW (nWk m) a from r2)]; exact ok_some ⟨rfl, T2.1⟩)
  rw [if_pos (show isW (nWk m) a from r2), mt_eq, bdr_some]
  refine ok_w (fun r3 => ?_) (fun r3 => by rw [if_neg r3]; exact ok_some ⟨rfl, T2.1⟩)
  rw [if_pos r3]
  obtain ⟨k, hk, rfl⟩ := isW_ex (nWk_le M) r2
  have hk' : k < nWk m := hk
  rw [nI_clamp (by omega)]
  by_cases q : b = 0
  · rw [if_pos q, if_pos q]
    exact ok_bnd (ok_bnd (m_poles M T2 hk) (fun h1 x H => ok_some (P := fun u : Hp × Int32 => u.2 = polV m k ∧ MT m u.1) ⟨H.1, H.2.1⟩)) (fun h1 x H => ok_some ⟨H.1, H.2.1⟩)
  · rw [if_neg q, if_neg q]
    exact ok_bnd (ok_bnd (m_sortOf M T2 hk) (fun h1 x H => ok_some (P := fun u : Hp × Int32 => u.2 = srtV m k ∧ MT m u.1) H)) (fun h1 x H => ok_some ⟨H.1, H.2.1⟩)
