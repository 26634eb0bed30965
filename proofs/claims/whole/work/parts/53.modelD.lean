set_option maxHeartbeats 1000000 in
theorem p_moves {i : Inp} {k b p L a c : Nat} {h : Hp} {w : WS} {push steps : Int32} (hN : iN i ≤ 6) (hk : k < iN i) (hL : L ≤ 40) (ha1 : a ≤ 1000) (T : TM i h) (tc : h.1 68 28 = nI c) (hc : c < 2) (tL : iLen i = nI L) (hmv : ∃ z, z < 4 ∧ iMv i (wow w) = nI z) (how : wow w < 24) (e1 : h.1 79 k = 1) (e2 : h.1 80 k = wpl w) (ep : wpl w = nI p) (e3 : h.1 81 k = wle w + push) (e4 : h.1 84 k = wen w) (e5 : h.1 85 k = wbl w) (e6 : h.1 68 27 = steps) (e7 : h.1 82 k = wpo w) (e8 : h.1 83 k = nI (wow w))
    (hpL : p < L) (hpa : p < a) (hfree : ∀ q, p < q → q < a → ∀ k', k' < iN i → k' ≠ k → ¬ (h.1 79 k' = 1 ∧ h.1 80 k' = nI q)) (hblock : a = 1000 ∨ ∃ k', k' < iN i ∧ k' ≠ k ∧ h.1 79 k' = 1 ∧ h.1 80 k' = nI a) (hbd : -2147483648 < (sL1 i (nI c) push (nI a) k w).toInt) :
    Ok (f_X8_moves h (nI b) (nI k)) (fun h' => (∀ x z, h'.1 x z = if x = 80 ∧ z = k then wpl (stepW i b (nI c) push (nI a) k w) else if x = 81 ∧ z = k then wle (stepW i b (nI c) push (nI a) k w) else if x = 79 ∧ z = k then wst (stepW i b (nI c) push (nI a) k w) else if x = 84 ∧ z = k then wen (stepW i b (nI c) push (nI a) k w) else if x = 85 ∧ z = k then wbl (stepW i b (nI c) push (nI a) k w) else if x = 83 ∧ z = k then nI (wow (stepW i b (nI c) push (nI a) k w)) else if x = 68 ∧ z = 27 then steps + sGo i (nI c) (nI a) k w else h.1 x z) ∧ h'.2 = h.2) := by
  have hk6 : k < 6 := by omega
  have k31 : k < 2 ^ 31 := by omega
  have tso : h.1 75 (3 * k + 1) = iSo i k := (T.2.2.2.2.2.2.1 k hk).2.1
  have tli : h.1 77 2 = iLim i := T.2.2.2.2.1
  unfold f_X8_moves
  refine ok_bdv (p_acting (push := push) hN hk hL ha1 T tc hc tL hmv how e1 e2 ep e3 e4 e5 e6 e7 e8 hpL hpa hfree hblock) (fun h1 ⟨v, g⟩ => ?_)
  rw [show wpl (stepW i b (nI c) push (nI a) k w) = sPl i (nI c) (nI a) k w from stl_pl _ _ _ _ _ _, show wbl (stepW i b (nI c) push (nI a) k w) = sBl i (nI c) (nI a) k w from stl_bl _ _ _ _ _ _, show wow (stepW i b (nI c) push (nI a) k w) = wow w + 1 from stl_ow _ _ _ _ _ _]
  have h79 : h1.1 79 k = if sPl i (nI c) (nI a) k w < iLen i then 1 else 2 := by rw [v]; simp
  have h75 : h1.1 75 (3 * k + 1) = iSo i k := by rw [v]; simp [tso]
  have h77 : h1.1 77 2 = iLim i := by rw [v]; simp [tli]
  rw [ck_nI hk6 (by decide), ia_nI k31, h79]
  by_cases o : sPl i (nI c) (nI a) k w < iLen i
  · have h81 : h1.1 81 k = sL1 i (nI c) push (nI a) k w := by rw [v]; simp [o]
    rw [if_pos o, if_pos rfl, show (3 : Int32) * nI k + (1 : Int32) = nI (3 * k + 1) from t3 hk6 (by decide) 1 (by decide), ck_nI (show 3 * k + 1 < 18 by omega) (by decide), ia_nI (show 3 * k + 1 < 2 ^ 31 by omega), h75, lt1_if]
    simp only [ck_nI hk6 (show 6 < 2 ^ 31 by decide), nm_eq, ia_nI k31, ux_nI k31, h81, size_eq, bdr_some, lt1_if]
    -- the heap behind leaning on
    have fin : ∀ l2 : Int32, sL2 i (nI c) push (nI a) k w = l2 → ∀ h4 : Hp, (∀ x z, h4.1 x z = if x = 81 ∧ z = k then l2 else h1.1 x z) → h4.2 = h1.2 → Ok (if jabs (h4.1 81 k) < h4.1 77 2 then some h4 else some (uf (uf h4 79 k 3) 84 k (nI b))) (fun h' => (∀ x z, h'.1 x z = if x = 80 ∧ z = k then sPl i (nI c) (nI a) k w else if x = 81 ∧ z = k then wle (stepW i b (nI c) push (nI a) k w) else if x = 79 ∧ z = k then wst (stepW i b (nI c) push (nI a) k w) else if x = 84 ∧ z = k then wen (stepW i b (nI c) push (nI a) k w) else if x = 85 ∧ z = k then sBl i (nI c) (nI a) k w else if x = 83 ∧ z = k then nI (wow w + 1) else if x = 68 ∧ z = 27 then steps + sGo i (nI c) (nI a) k w else h.1 x z) ∧ h'.2 = h.2) := by
      intro l2 hl2 h4 v4 g4
      have w81 : h4.1 81 k = l2 := by rw [v4]; simp
      have w77 : h4.1 77 2 = iLim i := by rw [v4]; simp [h77]
      rw [w81, w77]
      by_cases f : jabs l2 < iLim i
      · rw [if_pos f]
        have st : stepW i b (nI c) push (nI a) k w = (1, sPl i (nI c) (nI a) k w, l2, wpo w, wow w + 1, wen w, sBl i (nI c) (nI a) k w, jmax (wfa w) (jabs l2)) := by
          unfold stepW stl
          rw [if_pos o, hl2, if_pos f]
        refine ok_some ⟨fun x z => ?_, g4.trans g⟩
        rw [v4, v, st]
        simp only [if_pos o, wle, wst, wen]
        by_cases q2 : x = 81 ∧ z = k
        · rw [if_pos q2, if_neg (by omega), if_pos q2]
        · simp only [if_neg q2]
      · rw [if_neg f]
        have st : stepW i b (nI c) push (nI a) k w = (3, sPl i (nI c) (nI a) k w, l2, wpo w, wow w + 1, nI b, sBl i (nI c) (nI a) k w, jmax (wfa w) (jabs l2)) := by
          unfold stepW stl
          rw [if_pos o, hl2, if_neg f]
        refine ok_some ⟨fun x z => ?_, g4.trans g⟩
        rw [uf_get, uf_get, v4, v, st]
        simp only [if_pos o, wle, wst, wen]
        by_cases q4 : x = 84 ∧ z = k
        · rw [if_pos q4, if_neg (by omega), if_neg (by omega), if_neg (by omega), if_pos q4]
        · simp only [if_neg q4]
          by_cases q3 : x = 79 ∧ z = k
          · rw [if_pos q3, if_neg (by omega), if_neg (by omega), if_pos q3]
          · simp only [if_neg q3]
            by_cases q2 : x = 81 ∧ z = k
            · rw [if_pos q2, if_neg (by omega), if_pos q2]
            · simp only [if_neg q2]
    have same : sL2 i (nI c) push (nI a) k w = sL1 i (nI c) push (nI a) k w → Ok (if jabs (sL1 i (nI c) push (nI a) k w) < h1.1 77 2 then some h1 else some (uf (uf h1 79 k 3) 84 k (nI b))) (fun h' => (∀ x z, h'.1 x z = if x = 80 ∧ z = k then sPl i (nI c) (nI a) k w else if x = 81 ∧ z = k then wle (stepW i b (nI c) push (nI a) k w) else if x = 79 ∧ z = k then wst (stepW i b (nI c) push (nI a) k w) else if x = 84 ∧ z = k then wen (stepW i b (nI c) push (nI a) k w) else if x = 85 ∧ z = k then sBl i (nI c) (nI a) k w else if x = 83 ∧ z = k then nI (wow w + 1) else if x = 68 ∧ z = 27 then steps + sGo i (nI c) (nI a) k w else h.1 x z) ∧ h'.2 = h.2) := by
      intro e
      have := fin _ e h1 (fun x z => by
        by_cases q : x = 81 ∧ z = k
        · rw [if_pos q, q.1, q.2, h81]
        · rw [if_neg q]) rfl
      rw [h81] at this
      exact this
    have more : ∀ d : Int32, sL2 i (nI c) push (nI a) k w = sL1 i (nI c) push (nI a) k w + d → Ok (if jabs ((uf h1 81 k (sL1 i (nI c) push (nI a) k w + d)).1 81 k) < (uf h1 81 k (sL1 i (nI c) push (nI a) k w + d)).1 77 2 then some (uf h1 81 k (sL1 i (nI c) push (nI a) k w + d)) else some (uf (uf (uf h1 81 k (sL1 i (nI c) push (nI a) k w + d)) 79 k 3) 84 k (nI b))) (fun h' => (∀ x z, h'.1 x z = if x = 80 ∧ z = k then sPl i (nI c) (nI a) k w else if x = 81 ∧ z = k then wle (stepW i b (nI c) push (nI a) k w) else if x = 79 ∧ z = k then wst (stepW i b (nI c) push (nI a) k w) else if x = 84 ∧ z = k then wen (stepW i b (nI c) push (nI a) k w) else if x = 85 ∧ z = k then sBl i (nI c) (nI a) k w else if x = 83 ∧ z = k then nI (wow w + 1) else if x = 68 ∧ z = 27 then steps + sGo i (nI c) (nI a) k w else h.1 x z) ∧ h'.2 = h.2) := by
      intro d e
      exact fin _ e _ (fun x z => by rw [uf_get]) rfl
    by_cases s0 : iSo i k = 0
    · simp only [if_pos s0]
      by_cases s2 : jabs (sL1 i (nI c) push (nI a) k w) ≤ 2
      · rw [if_pos s2, h81]
        exact same (by simp only [sL2, if_pos s0]; rw [nw_2 hbd, if_pos s2])
      · rw [if_neg s2]
        refine more _ ?_
        simp only [sL2, if_pos s0]
        rw [nw_2 hbd, if_neg s2]
        rw [sgn_ne]
        intro q
        apply s2
        rw [q]
        decide
    · simp only [if_neg s0]
      by_cases s2 : jabs (sL1 i (nI c) push (nI a) k w) ≤ 0
      · rw [if_pos s2, h81]
        refine same ?_
        simp only [sL2, if_neg s0]
        rw [nw_0]
        rw [(jabs_0 hbd).mp s2]
        decide
      · rw [if_neg s2]
        refine more _ ?_
        simp only [sL2, if_neg s0]
        rw [nw_0]
        rw [sgn_ne]
        intro q
        exact s2 ((jabs_0 hbd).mpr q)
  · rw [if_neg o, if_neg (show ¬ (2 : Int32) = 1 by decide)]
    have st : stepW i b (nI c) push (nI a) k w = (2, sPl i (nI c) (nI a) k w, 0, wpo w, wow w + 1, nI b, sBl i (nI c) (nI a) k w, jmax (wfa w) (jabs 0)) := by
      unfold stepW stl
      rw [if_neg o]
    refine ok_some ⟨fun x z => ?_, g⟩
    rw [v, st]
    simp only [if_neg o, wle, wst, wen]
