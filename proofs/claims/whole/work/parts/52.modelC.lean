theorem sGone_nI {i : Inp} {k p c L a m tt : Nat} {w : WS} (h1 : wpl w = nI p) (hL : iLen i = nI L) (hm : m = 1 + (if iSo i k = 1 then 1 else 0) + c) (hc : c < 2) (hL4 : L ≤ 40) (hpL : p < L) (hpa : p < a) (ha : a ≤ 1000) (htt : tt = min (p + m) (min L (a - 1)) - p) : sGone i (nI c) (nI a) k w = nI tt := by
  have m3 : m ≤ 3 := by rw [hm]; split <;> omega
  unfold sGone
  have e1 : nI p + 1 + (if iSo i k = 1 then (1 : Int32) else 0) + nI c = nI (p + m) := by
    rw [hm]
    by_cases q : iSo i k = 1
    · simp only [if_pos q]
      rw [m1_1, m1_1, nI_add]
      congr 1
      omega
    · simp only [if_neg q]
      rw [m1_1, Int32.add_zero, nI_add]
      congr 1
      omega
  rw [h1, e1, hL, show (1 : Int32) = nI 1 from rfl, pk_sub (by omega), jmin_nI (by omega) (by omega), jmin_nI (by omega) (by omega), pk_sub (by omega), htt]
theorem sub_neg (x y : Int32) : x - y = x + (0 - y) := by
  rw [Int32.sub_eq_add_neg, Int32.zero_sub]
set_option maxHeartbeats 1000000 in
theorem p_acting {i : Inp} {k b p L a c : Nat} {h : Hp} {w : WS} {push steps : Int32} (hN : iN i ≤ 6) (hk : k < iN i) (hL : L ≤ 40) (ha1 : a ≤ 1000) (T : TM i h) (tc : h.1 68 28 = nI c) (hc : c < 2) (tL : iLen i = nI L) (hmv : ∃ z, z < 4 ∧ iMv i (wow w) = nI z) (how : wow w < 24) (e1 : h.1 79 k = 1) (e2 : h.1 80 k = wpl w) (ep : wpl w = nI p) (e3 : h.1 81 k = wle w + push) (e4 : h.1 84 k = wen w) (e5 : h.1 85 k = wbl w) (e6 : h.1 68 27 = steps) (e7 : h.1 82 k = wpo w) (e8 : h.1 83 k = nI (wow w))
    (hpL : p < L) (hpa : p < a) (hfree : ∀ q, p < q → q < a → ∀ k', k' < iN i → k' ≠ k → ¬ (h.1 79 k' = 1 ∧ h.1 80 k' = nI q)) (hblock : a = 1000 ∨ ∃ k', k' < iN i ∧ k' ≠ k ∧ h.1 79 k' = 1 ∧ h.1 80 k' = nI a) :
    Ok (f_X8_acting h (nI b) (nI k)) (fun h' => (∀ x z, h'.1 x z = if x = 80 ∧ z = k then sPl i (nI c) (nI a) k w else if x = 81 ∧ z = k then (if sPl i (nI c) (nI a) k w < iLen i then sL1 i (nI c) push (nI a) k w else 0) else if x = 79 ∧ z = k then (if sPl i (nI c) (nI a) k w < iLen i then 1 else 2) else if x = 84 ∧ z = k then (if sPl i (nI c) (nI a) k w < iLen i then wen w else nI b) else if x = 85 ∧ z = k then sBl i (nI c) (nI a) k w else if x = 83 ∧ z = k then nI (wow w + 1) else if x = 68 ∧ z = 27 then steps + sGo i (nI c) (nI a) k w else h.1 x z) ∧ h'.2 = h.2) := by
  have hk6 : k < 6 := by omega
  have k31 : k < 2 ^ 31 := by omega
  obtain ⟨t1, t2, t3', t4, t5, t6, t7, t8, t9⟩ := T
  have tso : h.1 75 (3 * k + 1) = iSo i k := (t7 k hk).2.1
  unfold f_X8_acting
  rw [ck_nI hk6 (by decide), show (3 : Int32) * nI k + (1 : Int32) = nI (3 * k + 1) from t3 hk6 (by decide) 1 (by decide), ck_nI (show 3 * k + 1 < 18 by omega) (by decide), ia_nI (show 3 * k + 1 < 2 ^ 31 by omega), tso, lt1_if, ia_nI k31, e7]
  simp only [nm_eq, ck_nI hk6 (show 6 < 2 ^ 31 by decide), ia_nI k31, ux_nI k31]
  rw [e8, ck_nI how (by decide), ia_nI (show wow w < 2 ^ 31 by omega), t8 _ how, e3]
  -- behind what is done: one's own beat grows
  have fin : ∀ h5 : Hp, h5.1 83 k = nI (wow w) → (∀ x z, h5.1 x z = if x = 80 ∧ z = k then sPl i (nI c) (nI a) k w else if x = 81 ∧ z = k then (if sPl i (nI c) (nI a) k w < iLen i then sL1 i (nI c) push (nI a) k w else 0) else if x = 79 ∧ z = k then (if sPl i (nI c) (nI a) k w < iLen i then 1 else 2) else if x = 84 ∧ z = k then (if sPl i (nI c) (nI a) k w < iLen i then wen w else nI b) else if x = 85 ∧ z = k then sBl i (nI c) (nI a) k w else if x = 68 ∧ z = 27 then steps + sGo i (nI c) (nI a) k w else h.1 x z) → h5.2 = h.2 → Ok (some (uf h5 83 k (h5.1 83 k + 1))) (fun h' => (∀ x z, h'.1 x z = if x = 80 ∧ z = k then sPl i (nI c) (nI a) k w else if x = 81 ∧ z = k then (if sPl i (nI c) (nI a) k w < iLen i then sL1 i (nI c) push (nI a) k w else 0) else if x = 79 ∧ z = k then (if sPl i (nI c) (nI a) k w < iLen i then 1 else 2) else if x = 84 ∧ z = k then (if sPl i (nI c) (nI a) k w < iLen i then wen w else nI b) else if x = 85 ∧ z = k then sBl i (nI c) (nI a) k w else if x = 83 ∧ z = k then nI (wow w + 1) else if x = 68 ∧ z = 27 then steps + sGo i (nI c) (nI a) k w else h.1 x z) ∧ h'.2 = h.2) := by
    intro h5 h83 hv hg
    refine ok_some ⟨fun x z => ?_, hg⟩
    rw [uf_get, h83, m1_1, hv]
    by_cases q : x = 83 ∧ z = k
    · simp [q]
    · simp only [if_neg q]
  rw [lt1_eq]
  by_cases m0 : iMv i (wow w) = 0
  · rw [if_pos m0]
    have hg := sGone_nI (i := i) (k := k) (w := w) ep tL rfl hc hL hpL hpa ha1 rfl
    have hgo := p_goes (b := b) (a := a) (c := c) (L := L) (p := p) hN hk hL ha1 t1 tso tc hc (by rw [t3']; exact tL) e1 (by rw [e2]; exact ep) e3 e4 e5 e6 hpL hpa hfree hblock rfl rfl
    generalize htt : min (p + (1 + (if iSo i k = 1 then 1 else 0) + c)) (min L (a - 1)) - p = tt at hg hgo
    refine ok_bdv hgo (fun h5 ⟨v5, g5⟩ => fin h5 ?_ (fun x z => ?_) g5)
    · rw [v5]; simp [e8]
    · rw [v5]
      have s1 : sPl i (nI c) (nI a) k w = nI (p + tt) := by simp only [sPl, if_pos m0, hg, ep, nI_add]
      have s2 : sGo i (nI c) (nI a) k w = nI tt := by simp only [sGo, if_pos m0, hg]
      have s3 : sBl i (nI c) (nI a) k w = wbl w + (if tt = 0 then 1 else 0) := by
        simp only [sBl, if_pos m0, hg]
        have z0 : (nI tt = 0) = (tt = 0) := by
          have := nI_eq (a := tt) (b := 0) (by omega) (by decide)
          rw [nI_0] at this
          exact propext this
        simp only [z0]
      have s4 : (sPl i (nI c) (nI a) k w < iLen i) = ¬ (p + tt = L) := by
        rw [s1, tL]
        have := nI_ltI (a := p + tt) (b := L) (by omega) (by omega)
        rw [propext this]
        apply propext
        omega
      have s5 : sL1 i (nI c) push (nI a) k w = wle w + push + (if iSo i k = 1 then nI tt else 0) := by simp only [sL1, if_pos m0, hg]
      simp only [s4, s2, s3, s5]
      rw [s1]
      by_cases o : p + tt = L <;> simp only [o, if_true, if_false, not_true_eq_false, not_false_eq_true]
  · rw [if_neg m0]
    have s1 : sPl i (nI c) (nI a) k w = wpl w := by simp only [sPl, if_neg m0]
    have s2 : sGo i (nI c) (nI a) k w = 0 := by simp only [sGo, if_neg m0]
    have s3 : sBl i (nI c) (nI a) k w = wbl w := by simp only [sBl, if_neg m0]
    have s4 : sPl i (nI c) (nI a) k w < iLen i := by rw [s1, ep, tL]; exact nI_lt hpL (by omega)
    have only : ∀ l1 : Int32, sL1 i (nI c) push (nI a) k w = l1 → Ok (some (uf (uf h 81 k l1) 83 k ((uf h 81 k l1).1 83 k + 1))) (fun h' => (∀ x z, h'.1 x z = if x = 80 ∧ z = k then sPl i (nI c) (nI a) k w else if x = 81 ∧ z = k then (if sPl i (nI c) (nI a) k w < iLen i then sL1 i (nI c) push (nI a) k w else 0) else if x = 79 ∧ z = k then (if sPl i (nI c) (nI a) k w < iLen i then 1 else 2) else if x = 84 ∧ z = k then (if sPl i (nI c) (nI a) k w < iLen i then wen w else nI b) else if x = 85 ∧ z = k then sBl i (nI c) (nI a) k w else if x = 83 ∧ z = k then nI (wow w + 1) else if x = 68 ∧ z = 27 then steps + sGo i (nI c) (nI a) k w else h.1 x z) ∧ h'.2 = h.2) := by
      intro l1 hl1
      refine fin _ (by rw [uf_ne (by decide)]; exact e8) (fun x z => ?_) rfl
      rw [uf_get]
      simp only [if_pos s4, hl1, s2, s3, Int32.add_zero]
      rw [s1]
      by_cases q1 : x = 80 ∧ z = k
      · rw [if_neg (by omega), if_pos q1, q1.1, q1.2, e2]
      · rw [if_neg q1]
        by_cases q2 : x = 81 ∧ z = k
        · rw [if_pos q2, if_pos q2]
        · rw [if_neg q2, if_neg q2]
          by_cases q3 : x = 79 ∧ z = k
          · rw [if_pos q3, q3.1, q3.2, e1]
          · rw [if_neg q3]
            by_cases q4 : x = 84 ∧ z = k
            · rw [if_pos q4, q4.1, q4.2, e4]
            · rw [if_neg q4]
              by_cases q5 : x = 85 ∧ z = k
              · rw [if_pos q5, q5.1, q5.2, e5]
              · rw [if_neg q5]
                by_cases q6 : x = 68 ∧ z = 27
                · rw [if_pos q6, q6.1, q6.2, e6]
                · rw [if_neg q6]
    by_cases m1 : iMv i (wow w) = 1
    · rw [if_pos m1]
      have hs : ∀ (K : Int32 → Option Hp), (lt1 K fun k3 => if wle w + push ≤ 0 then (if 0 ≤ wle w + push then k3 0 else k3 (-1)) else k3 1) = K (sgn (wle w + push)) := by
        intro K
        unfold sgn
        rw [lt1_eq]
        split
        · split <;> rfl
        · rfl
      rw [hs]
      exact only _ (by simp only [sL1, if_neg m0, if_pos m1])
    · rw [if_neg m1]
      have hby : (1 : Int32) + wpo w / 3 + (if iSo i k = 2 then 1 else 0) = sBy i k w := rfl
      rw [hby]
      obtain ⟨z, hz, ez⟩ := hmv
      by_cases m2' : iMv i (wow w) = 2
      · rw [if_pos m2']
        exact only _ (by simp only [sL1, if_neg m0, if_neg m1]; rw [m2', if_neg (by decide)]; exact (sub_neg _ _).symm)
      · rw [if_neg m2']
        have m3' : iMv i (wow w) = 3 := by
          rw [ez] at m0 m1 m2' ⊢
          match z, hz with
          | 0, _ => exact absurd rfl m0
          | 1, _ => exact absurd rfl m1
          | 2, _ => exact absurd rfl m2'
          | 3, _ => rfl
          | z + 4, hz => omega
        exact only _ (by simp only [sL1, if_neg m0, if_neg m1, if_pos m3'])
