/-! what had better be done: start, hold, act -/
def wSt (i : Inp) (k : Nat) (v : Int32) : Inp := (iN i, fun j => if j = k then v else iSt i j, iSo i, iPo i, iMv i, iNe i, iEk i, iEb i, iEn i, iWo i, iLen i, iSla i, iLim i)
def wSo (i : Inp) (k : Nat) (v : Int32) : Inp := (iN i, iSt i, fun j => if j = k then v else iSo i j, iPo i, iMv i, iNe i, iEk i, iEb i, iEn i, iWo i, iLen i, iSla i, iLim i)
def wPo (i : Inp) (k : Nat) (v : Int32) : Inp := (iN i, iSt i, iSo i, fun j => if j = k then v else iPo i j, iMv i, iNe i, iEk i, iEb i, iEn i, iWo i, iLen i, iSla i, iLim i)
def wMv (i : Inp) (k : Nat) (v : Int32) : Inp := (iN i, iSt i, iSo i, iPo i, fun j => if j = k then v else iMv i j, iNe i, iEk i, iEb i, iEn i, iWo i, iLen i, iSla i, iLim i)
theorem ok_wSt {i : Inp} (h : InOk i) (k : Nat) {v : Nat} (hv : v < 24) : InOk (wSt i k (nI v)) := by
  obtain ⟨a1, a2, a3, a4, a5, a6, a7, a8⟩ := h
  refine ⟨a1, a2, a3, a4, a5, a6, fun j hj => ⟨?_, (a7 j hj).2.1, (a7 j hj).2.2⟩, a8⟩
  show ∃ z, z < 24 ∧ (if j = k then nI v else iSt i j) = nI z
  by_cases e : j = k
  · rw [if_pos e]; exact ⟨v, hv, rfl⟩
  · rw [if_neg e]; exact (a7 j hj).1
theorem ok_wSo {i : Inp} (h : InOk i) (k : Nat) {v : Nat} (hv : v < 3) : InOk (wSo i k (nI v)) := by
  obtain ⟨a1, a2, a3, a4, a5, a6, a7, a8⟩ := h
  refine ⟨a1, a2, a3, a4, a5, a6, fun j hj => ⟨(a7 j hj).1, ?_, (a7 j hj).2.2⟩, a8⟩
  show ∃ z, z < 3 ∧ (if j = k then nI v else iSo i j) = nI z
  by_cases e : j = k
  · rw [if_pos e]; exact ⟨v, hv, rfl⟩
  · rw [if_neg e]; exact (a7 j hj).2.1
theorem ok_wPo {i : Inp} (h : InOk i) (k : Nat) {v : Nat} (hv : v < 10) : InOk (wPo i k (nI v)) := by
  obtain ⟨a1, a2, a3, a4, a5, a6, a7, a8⟩ := h
  refine ⟨a1, a2, a3, a4, a5, a6, fun j hj => ⟨(a7 j hj).1, (a7 j hj).2.1, ?_⟩, a8⟩
  show ∃ z, z < 10 ∧ (if j = k then nI v else iPo i j) = nI z
  by_cases e : j = k
  · rw [if_pos e]; exact ⟨v, hv, rfl⟩
  · rw [if_neg e]; exact (a7 j hj).2.2
theorem ok_wMv {i : Inp} (h : InOk i) (k : Nat) {v : Nat} (hv : v < 4) : InOk (wMv i k (nI v)) := by
  obtain ⟨a1, a2, a3, a4, a5, a6, a7, a8⟩ := h
  refine ⟨a1, a2, a3, a4, a5, a6, a7, fun j hj => ?_⟩
  show ∃ z, z < 4 ∧ (if j = k then nI v else iMv i j) = nI z
  by_cases e : j = k
  · rw [if_pos e]; exact ⟨v, hv, rfl⟩
  · rw [if_neg e]; exact a8 j hj
/-- all that the class was told is the same, but for cell c at k -/
def KT (c k : Nat) (h h' : Hp) : Prop := (∀ d, 0 < d → d < 36 → d ≠ c → h'.1 d = h.1 d) ∧ (∀ z, z ≠ k → h'.1 c z = h.1 c z) ∧ h'.1 56 = h.1 56 ∧ (∀ d, 60 ≤ d → d < 68 → h'.1 d = h.1 d) ∧ h'.1 0 11 = h.1 0 11 ∧ h'.1 0 12 = h.1 0 12 ∧ h'.1 0 15 = h.1 0 15
theorem KT.kc {c k : Nat} {h h1 h2 : Hp} (a : KT c k h h1) (b : KC h1 h2) (hc : 0 < c ∧ c < 36) : KT c k h h2 := ⟨fun d q r s => (b.1 d q r).trans (a.1 d q r s), fun z q => by rw [b.1 c hc.1 hc.2]; exact a.2.1 z q, b.2.1.trans a.2.2.1, fun d q r => (b.2.2.1 d q r).trans (a.2.2.2.1 d q r), b.2.2.2.1.trans a.2.2.2.2.1, b.2.2.2.2.1.trans a.2.2.2.2.2.1, b.2.2.2.2.2.trans a.2.2.2.2.2.2⟩
theorem kt_uf {c k : Nat} {h h1 : Hp} {v : Int32} (a : KT c k h h1) (hc : 0 < c ∧ c < 36) : KT c k h (uf h1 c k v) := ⟨fun d q r s => by rw [uf_ne s]; exact a.1 d q r s, fun z q => by rw [uf_get, if_neg (fun x => q x.2)]; exact a.2.1 z q, by rw [uf_ne (by omega)]; exact a.2.2.1, fun d q r => by rw [uf_ne (by omega)]; exact a.2.2.2.1 d q r, by rw [uf_ne (by omega)]; exact a.2.2.2.2.1, by rw [uf_ne (by omega)]; exact a.2.2.2.2.2.1, by rw [uf_ne (by omega)]; exact a.2.2.2.2.2.2⟩
theorem kt_rf {c k : Nat} {h : Hp} : KT c k h h := ⟨fun _ _ _ _ => rfl, fun _ _ => rfl, rfl, fun _ _ _ => rfl, rfl, rfl, rfl⟩
theorem kt_end {c k : Nat} {h h1 : Hp} (a : KT c k h h1) (hc : 0 < c ∧ c < 36) : KC h (uf h1 c k (h.1 c k)) := by
  have b := kt_uf (v := h.1 c k) a hc
  refine ⟨fun d q r => ?_, b.2.2.1, b.2.2.2.1, b.2.2.2.2.1, b.2.2.2.2.2.1, b.2.2.2.2.2.2⟩
  by_cases e : d = c
  · rw [e]
    funext z
    by_cases ez : z = k
    · rw [ez, uf_get, if_pos ⟨rfl, rfl⟩]
    · exact b.2.1 z ez
  · exact b.1 d q r e
theorem kc_u0 {h : Hp} {z : Nat} {v : Int32} (q1 : z ≠ 11) (q2 : z ≠ 12) (q3 : z ≠ 15) : KC h (uf h 0 z v) := ⟨fun c q r => uf_ne (by omega), uf_ne (by decide), fun c q r => uf_ne (by omega), by rw [uf_get, if_neg (fun x => q1 x.2.symm)], by rw [uf_get, if_neg (fun x => q2 x.2.symm)], by rw [uf_get, if_neg (fun x => q3 x.2.symm)]⟩
theorem ti_wSt {i : Inp} {k : Nat} {v : Int32} {h h' : Hp} (T : TI i 9 h) (K : KT 6 k h h') (e : h'.1 6 k = v) : TI (wSt i k v) 9 h' := by
  obtain ⟨t1, t2, t3, t4, t5, t6, t7, t8⟩ := T
  have g : ∀ d, 0 < d → d < 36 → d ≠ 6 → h'.1 d = h.1 d := K.1
  refine ⟨by rw [g 5 (by decide) (by decide) (by decide)]; exact t1, by rw [g 5 (by decide) (by decide) (by decide)]; exact t2, by rw [g 5 (by decide) (by decide) (by decide)]; exact t3, by rw [g 5 (by decide) (by decide) (by decide)]; exact t4, by rw [g 5 (by decide) (by decide) (by decide)]; exact t5, fun j hj => ⟨?_, ?_, ?_⟩, fun j hj => by rw [g 9 (by decide) (by decide) (by decide)]; exact t7 j hj, fun z hz => by rw [g 10 (by decide) (by decide) (by decide), g 11 (by decide) (by decide) (by decide), g 12 (by decide) (by decide) (by decide)]; exact t8 z hz⟩
  · show _ = if j = k then v else iSt i j
    by_cases q : j = k
    · rw [if_pos q, q, e]
    · rw [if_neg q, K.2.1 j q]; exact (t6 j hj).1
  · rw [g 7 (by decide) (by decide) (by decide)]; exact (t6 j hj).2.1
  · rw [g 8 (by decide) (by decide) (by decide)]; exact (t6 j hj).2.2
theorem ti_wSo {i : Inp} {k : Nat} {v : Int32} {h h' : Hp} (T : TI i 9 h) (K : KT 7 k h h') (e : h'.1 7 k = v) : TI (wSo i k v) 9 h' := by
  obtain ⟨t1, t2, t3, t4, t5, t6, t7, t8⟩ := T
  have g : ∀ d, 0 < d → d < 36 → d ≠ 7 → h'.1 d = h.1 d := K.1
  refine ⟨by rw [g 5 (by decide) (by decide) (by decide)]; exact t1, by rw [g 5 (by decide) (by decide) (by decide)]; exact t2, by rw [g 5 (by decide) (by decide) (by decide)]; exact t3, by rw [g 5 (by decide) (by decide) (by decide)]; exact t4, by rw [g 5 (by decide) (by decide) (by decide)]; exact t5, fun j hj => ⟨?_, ?_, ?_⟩, fun j hj => by rw [g 9 (by decide) (by decide) (by decide)]; exact t7 j hj, fun z hz => by rw [g 10 (by decide) (by decide) (by decide), g 11 (by decide) (by decide) (by decide), g 12 (by decide) (by decide) (by decide)]; exact t8 z hz⟩
  · rw [g 6 (by decide) (by decide) (by decide)]; exact (t6 j hj).1
  · show _ = if j = k then v else iSo i j
    by_cases q : j = k
    · rw [if_pos q, q, e]
    · rw [if_neg q, K.2.1 j q]; exact (t6 j hj).2.1
  · rw [g 8 (by decide) (by decide) (by decide)]; exact (t6 j hj).2.2
theorem ti_wPo {i : Inp} {k : Nat} {v : Int32} {h h' : Hp} (T : TI i 9 h) (K : KT 8 k h h') (e : h'.1 8 k = v) : TI (wPo i k v) 9 h' := by
  obtain ⟨t1, t2, t3, t4, t5, t6, t7, t8⟩ := T
  have g : ∀ d, 0 < d → d < 36 → d ≠ 8 → h'.1 d = h.1 d := K.1
  refine ⟨by rw [g 5 (by decide) (by decide) (by decide)]; exact t1, by rw [g 5 (by decide) (by decide) (by decide)]; exact t2, by rw [g 5 (by decide) (by decide) (by decide)]; exact t3, by rw [g 5 (by decide) (by decide) (by decide)]; exact t4, by rw [g 5 (by decide) (by decide) (by decide)]; exact t5, fun j hj => ⟨?_, ?_, ?_⟩, fun j hj => by rw [g 9 (by decide) (by decide) (by decide)]; exact t7 j hj, fun z hz => by rw [g 10 (by decide) (by decide) (by decide), g 11 (by decide) (by decide) (by decide), g 12 (by decide) (by decide) (by decide)]; exact t8 z hz⟩
  · rw [g 6 (by decide) (by decide) (by decide)]; exact (t6 j hj).1
  · rw [g 7 (by decide) (by decide) (by decide)]; exact (t6 j hj).2.1
  · show _ = if j = k then v else iPo i j
    by_cases q : j = k
    · rw [if_pos q, q, e]
    · rw [if_neg q, K.2.1 j q]; exact (t6 j hj).2.2
theorem ti_wMv {i : Inp} {k : Nat} {v : Int32} {h h' : Hp} (T : TI i 9 h) (K : KT 9 k h h') (e : h'.1 9 k = v) : TI (wMv i k v) 9 h' := by
  obtain ⟨t1, t2, t3, t4, t5, t6, t7, t8⟩ := T
  have g : ∀ d, 0 < d → d < 36 → d ≠ 9 → h'.1 d = h.1 d := K.1
  refine ⟨by rw [g 5 (by decide) (by decide) (by decide)]; exact t1, by rw [g 5 (by decide) (by decide) (by decide)]; exact t2, by rw [g 5 (by decide) (by decide) (by decide)]; exact t3, by rw [g 5 (by decide) (by decide) (by decide)]; exact t4, by rw [g 5 (by decide) (by decide) (by decide)]; exact t5, fun j hj => by rw [g 6 (by decide) (by decide) (by decide), g 7 (by decide) (by decide) (by decide), g 8 (by decide) (by decide) (by decide)]; exact t6 j hj, fun j hj => ?_, fun z hz => by rw [g 10 (by decide) (by decide) (by decide), g 11 (by decide) (by decide) (by decide), g 12 (by decide) (by decide) (by decide)]; exact t8 z hz⟩
  show _ = if j = k then v else iMv i j
  by_cases q : j = k
  · rw [if_pos q, q, e]
  · rw [if_neg q, K.2.1 j q]; exact t7 j hj
theorem c_tr {i : Inp} {h : Hp} {mc : Nat} {wo a4 : Int32} (hI : InOk i) (hmc : mc = 9 ∨ mc = 55) (hw : wo = iWo i) (T : TI i mc h) : Ok (f_X2_play h 36 mc wo a4) (fun h' => RE i 36 h' ∧ (a4 ≠ 0 → RC i 36 h' (runF i 24).1.1 (runF i 24).1.2.1 (runF i 24).1.2.2 ∧ LG i 36 h' 24) ∧ FI 36 55 h h') := by
  obtain ⟨h1, e1, H⟩ := p_play (i := i) (S := 36) (mc := mc) (h := h) (wo := wo) (a4 := a4) hI (by decide) (by omega) (by rcases hmc with rfl | rfl <;> decide) hw T
  exact ⟨h1, e1, H.1, H.2, r_X2_play h 36 mc wo a4 h1 e1⟩
def ovr (i : Inp) : Int32 := nI (cntW (iN i) (runF i 24).1.1 2)
/-- the best choice below v, and how many are over by it -/
def bst (V : Nat → Inp) : Nat → Int32 × Int32
  | 0 => (-1, -1)
  | v + 1 => if ovr (V v) ≤ (bst V v).2 then bst V v else (nI v, ovr (V v))
theorem c_choose {m h : Hp} {c k n : Nat} {V : Nat → Inp} (hc : 0 < c ∧ c < 36) (hk : k < sl c) (hl : sl c ≤ 24) (hn : n ≤ 24) (hV : ∀ v, v < n → InOk (V v) ∧ iWo (V v) = 0 ∧ ∀ h', KT c k h h' → h'.1 c k = nI v → TI (V v) 9 h') : Ok (f_X7_chooseFor h c (nI k) (nI n)) (fun h' => h'.1 0 13 = (bst V n).1 ∧ h'.1 0 14 = (bst V n).2 ∧ KC h h') := by
  have k31 : k < 2 ^ 31 := by omega
  unfold f_X7_chooseFor
  rw [nm_eq, nm_eq, if_neg (nI_pos k31), if_pos (nI_lt hk (by omega)), ck_nI hk (by omega), nm_eq, ia_nI k31]
  have K0 : KC h (uf (uf h 0 13 (-1)) 0 14 (-1)) := KC.tr (kc_u0 (by decide) (by decide) (by decide)) (kc_u0 (by decide) (by decide) (by decide))
  rw [show (uf (uf h 0 13 (-1)) 0 14 (-1)).1 c k = h.1 c k by rw [K0.1 c hc.1 hc.2]]
  refine ok_fx2 (fun f h1 x => ∃ v, x = nI v ∧ v + f = n ∧ h1.1 0 13 = (bst V v).1 ∧ h1.1 0 14 = (bst V v).2 ∧ KT c k h h1) n (by omega) ⟨0, rfl, by omega, by simp [uf_get, bst], by simp [uf_get, bst], kt_rf.kc K0 hc⟩ ?_
  rintro f self h1 x ⟨v, rfl, hv, g1, g2, K⟩ ih
  by_cases hf : f = 0
  · have ev : v = n := by omega
    rw [if_pos (nI_le (by omega) (by omega)), ck_nI hk (by omega), ux_nI k31, nm_eq]
    refine ok_some ⟨?_, ?_, kt_end K hc⟩
    · rw [uf_ne (by omega), g1, ev]
    · rw [uf_ne (by omega), g2, ev]
  · have vn : v < n := by omega
    obtain ⟨o1, o2, o3⟩ := hV v vn
    have K7 : KT c k h (uf h1 c k (nI v)) := kt_uf K hc
    rw [if_neg (nI_ge vn (by omega)), ck_nI hk (by omega), ux_nI k31, nm_eq]
    refine ok_bdv (c_tr o1 (Or.inl rfl) o2.symm (o3 _ K7 (by rw [uf_get, if_pos ⟨rfl, rfl⟩]))) (fun h8 H => ?_)
    obtain ⟨r1, -, F⟩ := H
    have e14 : h8.1 0 14 = (bst V v).2 := by rw [(F 0 (by decide)).1, uf_ne (by omega)]; exact g2
    have e13 : h8.1 0 13 = (bst V v).1 := by rw [(F 0 (by decide)).1, uf_ne (by omega)]; exact g1
    have eo : h8.1 36 13 = ovr (V v) := r1.2.2.1
    have K8 : KT c k h h8 := K7.kc (kc_fi F) hc
    simp only [lt1_eq, nm_eq]
    rw [show nI v + (1 : Int32) = nI (v + 1) from nI_1 v, e14, eo]
    refine ok_ite (fun q => ?_) (fun q => ?_)
    · exact ih (f - 1) _ _ (by omega) ⟨v + 1, rfl, by omega, by rw [bst, if_pos q]; exact e13, by rw [bst, if_pos q]; exact e14, K8⟩
    · exact ih (f - 1) _ _ (by omega) ⟨v + 1, rfl, by omega, by rw [bst, if_neg q]; simp [uf_get], by rw [bst, if_neg q]; simp [uf_get], (K8.kc (kc_u0 (by decide) (by decide) (by decide)) hc).kc (kc_u0 (by decide) (by decide) (by decide)) hc⟩
/-- all that the reference was told is the same, but for cell c at k -/
def KW (c k : Nat) (h h' : Hp) : Prop := (∀ d, (d < 79 ∨ 91 ≤ d) → d ≠ 68 → d ≠ c → h'.1 d = h.1 d) ∧ (∀ z, z ≠ 27 → z ≠ 28 → h'.1 68 z = h.1 68 z) ∧ (∀ z, z ≠ k → h'.1 c z = h.1 c z) ∧ h'.2 = h.2
theorem kw_rf {c k : Nat} {h : Hp} : KW c k h h := ⟨fun _ _ _ _ => rfl, fun _ _ _ => rfl, fun _ _ => rfl, rfl⟩
theorem KW.km {c k : Nat} {h h1 h2 : Hp} (a : KW c k h h1) (b : KM h1 h2) (hc : c < 79 ∧ c ≠ 68) : KW c k h h2 := ⟨fun d q r s => (b.1 d q r).trans (a.1 d q r s), fun z q r => (b.2.1 z q r).trans (a.2.1 z q r), fun z q => by rw [b.1 c (Or.inl hc.1) hc.2]; exact a.2.2.1 z q, b.2.2.trans a.2.2.2⟩
theorem kw_uf {c k : Nat} {h h1 : Hp} {v : Int32} (a : KW c k h h1) (hc : c < 79 ∧ c ≠ 68) : KW c k h (uf h1 c k v) := ⟨fun d q r s => by rw [uf_ne s]; exact a.1 d q r s, fun z q r => by rw [uf_ne (Ne.symm hc.2)]; exact a.2.1 z q r, fun z q => by rw [uf_get, if_neg (fun x => q x.2)]; exact a.2.2.1 z q, a.2.2.2⟩
theorem kw_end {c k : Nat} {h h1 : Hp} (a : KW c k h h1) (hc : c < 79 ∧ c ≠ 68) : KM h (uf h1 c k (h.1 c k)) := by
  have b := kw_uf (v := h.1 c k) a hc
  refine ⟨fun d q r => ?_, b.2.1, b.2.2.2⟩
  by_cases e : d = c
  · rw [e]
    funext z
    by_cases ez : z = k
    · rw [ez, uf_get, if_pos ⟨rfl, rfl⟩]
    · exact b.2.2.1 z ez
  · exact b.1 d q r e
theorem tm_wk {i i' : Inp} {k a : Nat} {h h' : Hp} (T : TM i h) (K : KW 75 (3 * k + a) h h') (e1 : iN i' = iN i) (e2 : iMv i' = iMv i) (e3 : iNe i' = iNe i) (e4 : iEk i' = iEk i) (e5 : iEb i' = iEb i) (e6 : iEn i' = iEn i) (e7 : iWo i' = iWo i) (e8 : iLen i' = iLen i) (e9 : iSla i' = iSla i) (e10 : iLim i' = iLim i) (w : ∀ j, j < iN i → h'.1 75 (3 * j) = iSt i' j ∧ h'.1 75 (3 * j + 1) = iSo i' j ∧ h'.1 75 (3 * j + 2) = iPo i' j) : TM i' h' := by
  obtain ⟨t1, t2, t3, t4, t5, t6, t7, t8, t9⟩ := T
  obtain ⟨k1, k2, k3, k4⟩ := K
  unfold TM
  rw [e1, e2, e3, e4, e5, e6, e7, e8, e9, e10, k2 7 (by decide) (by decide), k2 12 (by decide) (by decide), k2 14 (by decide) (by decide), k1 76 (by decide) (by decide) (by decide), k1 77 (by decide) (by decide) (by decide), k1 78 (by decide) (by decide) (by decide)]
  exact ⟨t1, t2, t3, t4, t5, t6, w, t8, t9⟩
theorem tm_wSt {i : Inp} {k : Nat} {v : Int32} {h h' : Hp} (T : TM i h) (K : KW 75 (3 * k + 0) h h') (e : h'.1 75 (3 * k + 0) = v) : TM (wSt i k v) h' := by
  refine tm_wk T K rfl rfl rfl rfl rfl rfl rfl rfl rfl rfl (fun j hj => ?_)
  obtain ⟨t1, t2, t3⟩ := T.2.2.2.2.2.2.1 j hj
  refine ⟨?_, (K.2.2.1 _ (by omega)).trans t2, (K.2.2.1 _ (by omega)).trans t3⟩
  show _ = if j = k then v else iSt i j
  by_cases q : j = k
  · rw [if_pos q, q]; exact e
  · rw [if_neg q]; exact (K.2.2.1 _ (by omega)).trans t1
theorem tm_wSo {i : Inp} {k : Nat} {v : Int32} {h h' : Hp} (T : TM i h) (K : KW 75 (3 * k + 1) h h') (e : h'.1 75 (3 * k + 1) = v) : TM (wSo i k v) h' := by
  refine tm_wk T K rfl rfl rfl rfl rfl rfl rfl rfl rfl rfl (fun j hj => ?_)
  obtain ⟨t1, t2, t3⟩ := T.2.2.2.2.2.2.1 j hj
  refine ⟨(K.2.2.1 _ (by omega)).trans t1, ?_, (K.2.2.1 _ (by omega)).trans t3⟩
  show _ = if j = k then v else iSo i j
  by_cases q : j = k
  · rw [if_pos q, q]; exact e
  · rw [if_neg q]; exact (K.2.2.1 _ (by omega)).trans t2
theorem tm_wPo {i : Inp} {k : Nat} {v : Int32} {h h' : Hp} (T : TM i h) (K : KW 75 (3 * k + 2) h h') (e : h'.1 75 (3 * k + 2) = v) : TM (wPo i k v) h' := by
  refine tm_wk T K rfl rfl rfl rfl rfl rfl rfl rfl rfl rfl (fun j hj => ?_)
  obtain ⟨t1, t2, t3⟩ := T.2.2.2.2.2.2.1 j hj
  refine ⟨(K.2.2.1 _ (by omega)).trans t1, (K.2.2.1 _ (by omega)).trans t2, ?_⟩
  show _ = if j = k then v else iPo i j
  by_cases q : j = k
  · rw [if_pos q, q]; exact e
  · rw [if_neg q]; exact (K.2.2.1 _ (by omega)).trans t3
theorem tm_wMv {i : Inp} {k : Nat} {v : Int32} {h h' : Hp} (T : TM i h) (K : KW 76 k h h') (e : h'.1 76 k = v) : TM (wMv i k v) h' := by
  obtain ⟨t1, t2, t3, t4, t5, t6, t7, t8, t9⟩ := T
  obtain ⟨k1, k2, k3, k4⟩ := K
  have T' : TM (wMv i k v) h' := by
    unfold TM
    rw [k2 7 (by decide) (by decide), k2 12 (by decide) (by decide), k2 14 (by decide) (by decide), k1 75 (by decide) (by decide) (by decide), k1 77 (by decide) (by decide) (by decide), k1 78 (by decide) (by decide) (by decide)]
    refine ⟨t1, t2, t3, t4, t5, t6, t7, fun j hj => ?_, t9⟩
    show _ = if j = k then v else iMv i j
    by_cases q : j = k
    · rw [if_pos q, q]; exact e
    · rw [if_neg q]; exact (k3 j q).trans (t8 j hj)
  exact T'
theorem m_better {h : Hp} {k n : Nat} {V : Nat → Inp} (hk : k < 18) (hn : n ≤ 24) (hV : ∀ v, v < n → InOk (V v) ∧ ∀ h', KW 75 k h h' → h'.1 75 k = nI v → TM (V v) h') (a : Int32) : Ok (f_X8_walkerBetter h (nI k) (nI n) a) (fun u => u.2 = (if a = 0 then (bst V n).1 else (bst V n).2) ∧ KM h u.1) := by
  have k31 : k < 2 ^ 31 := by omega
  unfold f_X8_walkerBetter
  rw [ck_nI hk (by decide), nm_eq, ia_nI k31, lt3_eq]
  refine ok_fx4 (fun f h1 x y z => ∃ v, z = nI v ∧ v + f = n ∧ x = (bst V v).1 ∧ y = (bst V v).2 ∧ KW 75 k h h1) n (by omega) ⟨0, rfl, by omega, rfl, rfl, kw_rf⟩ ?_
  rintro f self h1 x y z ⟨v, rfl, hv, rfl, rfl, K⟩ ih
  by_cases hf : f = 0
  · have ev : v = n := by omega
    rw [if_pos (nI_le (by omega) (by omega))]
    dsimp only
    rw [ck_nI hk (by decide), ux_nI k31, nm_eq, ev]
    have K' := kw_end K (by decide)
    refine ok_ite (fun q => ?_) (fun q => ?_)
    · rw [if_pos q]; exact ok_some ⟨rfl, K'⟩
    · rw [if_neg q]; exact ok_some ⟨rfl, K'⟩
  · have vn : v < n := by omega
    obtain ⟨o1, o3⟩ := hV v vn
    have K7 : KW 75 k h (uf h1 75 k (nI v)) := kw_uf K (by decide)
    have T7 := o3 _ K7 (by rw [uf_get, if_pos ⟨rfl, rfl⟩])
    rw [if_neg (nI_ge vn (by omega)), ck_nI hk (by decide), ux_nI k31, nm_eq]
    refine ok_bdv (p_lives o1 T7) (fun h8 H => ?_)
    obtain ⟨r1, -, F⟩ := H
    have T8 := km_tm F T7
    refine ok_bdr (m_many o1.1 T8.1 (fun k hk => (r1.1 k hk).1) 2) (fun x12 hx => ?_)
    have eo : x12 = ovr (V v) := hx
    simp only [lt1_eq, nm_eq, gr_eq, bdr_some]
    rw [show nI v + (1 : Int32) = nI (v + 1) from nI_1 v, eo]
    have K8 : KW 75 k h h8 := K7.km F (by decide)
    refine ok_ite (fun q => ?_) (fun q => ?_)
    · rw [if_pos q]
      exact ih (f - 1) _ _ _ _ (by omega) ⟨v + 1, rfl, by omega, by rw [bst, if_pos q], by rw [bst, if_pos q], K8⟩
    · rw [if_neg q]
      exact ih (f - 1) _ _ _ _ (by omega) ⟨v + 1, rfl, by omega, by rw [bst, if_neg q], by rw [bst, if_neg q], K8⟩
theorem m_actOf {h : Hp} {k : Nat} {V : Nat → Inp} (hk : k < 24) (hV : ∀ v, v < 4 → InOk (V v) ∧ ∀ h', KW 76 k h h' → h'.1 76 k = nI v → TM (V v) h') (a : Int32) : Ok (f_X8_actOf h (nI k) a) (fun u => u.2 = (if a = 0 then (bst V 4).1 else (bst V 4).2) ∧ KM h u.1) := by
  have k31 : k < 2 ^ 31 := by omega
  unfold f_X8_actOf
  rw [ck_nI hk (by decide), nm_eq, ia_nI k31, lt3_eq]
  refine ok_fx4 (fun f h1 x y z => ∃ v, z = nI v ∧ v + f = 4 ∧ x = (bst V v).1 ∧ y = (bst V v).2 ∧ KW 76 k h h1) 4 (by decide) ⟨0, rfl, by omega, rfl, rfl, kw_rf⟩ ?_
  rintro f self h1 x y z ⟨v, rfl, hv, rfl, rfl, K⟩ ih
  by_cases hf : f = 0
  · have ev : v = 4 := by omega
    rw [ev, if_pos (by decide)]
    dsimp only
    rw [ck_nI hk (by decide), ux_nI k31, nm_eq]
    have K' := kw_end K (by decide)
    refine ok_ite (fun q => ?_) (fun q => ?_)
    · rw [if_pos q]; exact ok_some ⟨rfl, K'⟩
    · rw [if_neg q]; exact ok_some ⟨rfl, K'⟩
  · have vn : v < 4 := by omega
    obtain ⟨o1, o3⟩ := hV v vn
    have K7 : KW 76 k h (uf h1 76 k (nI v)) := kw_uf K (by decide)
    have T7 := o3 _ K7 (by rw [uf_get, if_pos ⟨rfl, rfl⟩])
    rw [if_neg ((show ∀ b, b < 4 → ¬ (4 : Int32) ≤ nI b by decide +kernel) v vn), ck_nI hk (by decide), ux_nI k31, nm_eq]
    refine ok_bdv (p_lives o1 T7) (fun h8 H => ?_)
    obtain ⟨r1, -, F⟩ := H
    have T8 := km_tm F T7
    refine ok_bdr (m_many o1.1 T8.1 (fun k hk => (r1.1 k hk).1) 2) (fun x12 hx => ?_)
    have eo : x12 = ovr (V v) := hx
    simp only [lt1_eq, nm_eq, gr_eq, bdr_some]
    rw [show nI v + (1 : Int32) = nI (v + 1) from nI_1 v, eo]
    have K8 : KW 76 k h h8 := K7.km F (by decide)
    refine ok_ite (fun q => ?_) (fun q => ?_)
    · rw [if_pos q]
      exact ih (f - 1) _ _ _ _ (by omega) ⟨v + 1, rfl, by omega, by rw [bst, if_pos q], by rw [bst, if_pos q], K8⟩
    · rw [if_neg q]
      exact ih (f - 1) _ _ _ _ (by omega) ⟨v + 1, rfl, by omega, by rw [bst, if_neg q], by rw [bst, if_neg q], K8⟩
