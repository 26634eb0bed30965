theorem find_some {n j : Nat} {p : Nat → Bool} (hj : j < n) (h1 : p j = true) (h2 : ∀ k, k < j → p k = false) : (List.range n).find? p = some j := by
  rw [List.find?_range_eq_some]
  exact ⟨h1, List.mem_range.mpr hj, fun k hk => by rw [h2 k hk]; rfl⟩
theorem find_none {n : Nat} {p : Nat → Bool} (h2 : ∀ k, k < n → p k = false) : (List.range n).find? p = none := by
  rw [List.find?_eq_none]
  intro x hx
  rw [h2 x (List.mem_range.mp hx)]
  decide
theorem p_startNext {i : Inp} {S b : Nat} {h : Hp} {ws : Nat → WS} {steps : Int32} {line : List Nat} (hN : iN i ≤ 6) (R : RC i S h ws steps line) (si : SI i ws line) (t1 : h.1 5 7 = nI (iN i)) (t2 : ∀ k, k < iN i → h.1 6 k = iSt i k) :
    Ok (f_X2_startNext h S (nI b)) (fun h' => (startF i b ws = none ∧ h' = h) ∨ ∃ k, startF i b ws = some k ∧ k < iN i ∧ wst (ws k) = 0 ∧ h' = uf (uf (uf (uf (uf h (S + 10) k 1) (S + 11) k 0) (S + 14) k (nI b)) (S + 18) line.length (nI k)) S 11 (nI (line.length + 1))) := by
  unfold f_X2_startNext
  refine ok_fx1 (fun m x => ∃ j, x = nI j ∧ j + m = iN i ∧ ∀ k, k < j → readyF i b ws k = false) (iN i) (by omega) ⟨0, rfl, by omega, fun k hk => by omega⟩ ?_
  rintro m self x ⟨j, rfl, hj, hn⟩ ih
  rw [t1]
  by_cases hm : m = 0
  · have e : j = iN i := by omega
    subst e
    rw [if_pos (nI_le (Nat.le_refl _) (by omega))]
    exact ok_some (Or.inl ⟨find_none hn, rfl⟩)
  · have hjn : j < iN i := by omega
    have hj6 : j < 6 := by omega
    have j31 : j < 2 ^ 31 := by omega
    obtain ⟨a1, a2, a3, a4, a5, a6, a7⟩ := R.1 j hjn
    rw [if_neg (nI_ge hjn (by omega)), if_neg (nI_lt6 hj6), ck_nI hj6 (by decide)]
    simp only [nm_eq, lt1_eq, ia_nI j31, ux_nI j31, a1, t2 j hjn, ck_nI hj6 (show 6 < 2 ^ 31 by decide), show nI j + (1 : Int32) = nI (j + 1) from nI_1 j]
    have next : readyF i b ws j = false → Ok (self (nI (j + 1))) (fun h' => (startF i b ws = none ∧ h' = h) ∨ ∃ k, startF i b ws = some k ∧ k < iN i ∧ wst (ws k) = 0 ∧ h' = uf (uf (uf (uf (uf h (S + 10) k 1) (S + 11) k 0) (S + 14) k (nI b)) (S + 18) line.length (nI k)) S 11 (nI (line.length + 1))) := by
      intro hr
      refine ih (m - 1) _ (by omega) ⟨j + 1, rfl, by omega, fun k hk => ?_⟩
      by_cases e : k = j
      · rw [e]; exact hr
      · exact hn k (by omega)
    by_cases c1 : wst (ws j) = 0
    · by_cases c2 : nI b < iSt i j
      · rw [if_pos c1, if_pos c2]
        exact next (by simp [readyF, c2])
      · rw [if_pos c1, if_neg c2]
        have hnl : j ∉ line := fun q => absurd c1 ((si.2.2.1 j hjn).mp q)
        have hll : line.length + 1 ≤ iN i := by
          have := nodup_lt (iN i) (l := j :: line) (List.nodup_cons.mpr ⟨hnl, si.1⟩) (fun k hk => by
            rcases List.mem_cons.mp hk with rfl | hk
            · exact hjn
            · exact si.2.1 k hk)
          simpa using this
        have l6 : line.length < 6 := by omega
        have l31 : line.length < 2 ^ 31 := by omega
        have hS11 : (uf (uf (uf h (S + 10) j 1) (S + 11) j 0) (S + 14) j (nI b)).1 S 11 = nI line.length := by
          rw [uf_ne (by omega), uf_ne (by omega), uf_ne (by omega)]; exact R.2.1
        simp only [hS11, ux_nI l31, ck_nI l6 (show 6 < 2 ^ 31 by decide)]
        rw [if_neg (nI_pos l31), if_neg (nI_lt6 l6), uf_ne (show S ≠ S + 18 by omega), hS11, show nI line.length + (1 : Int32) = nI (line.length + 1) from nI_1 _]
        exact ok_some (Or.inr ⟨j, find_some hjn (by simp [readyF, c1, c2]) hn, hjn, c1, rfl⟩)
    · rw [if_neg c1]
      exact next (by simp [readyF, c1])
theorem cnt_off {n k : Nat} {ws : Nat → WS} {v : WS} {c : Int32} (hk : k < n) (h0 : wst (ws k) ≠ c) (h1 : wst v ≠ c) : cntW n (va_up ws k v) c = cntW n ws c := by
  rw [cnt_up hk h0, if_neg h1]; rfl
set_option maxHeartbeats 1000000 in
theorem p_beat {i : Inp} {S b mc : Nat} {h : Hp} {ws : Nat → WS} {steps moved : Int32} {line : List Nat} (hN : iN i ≤ 6) (hS : 13 ≤ S) (hb : b < 24) (hmc : mc < S ∨ S + 19 ≤ mc) (hsl : sl mc = 24) (T : TI i mc h) (Wt : WF i S h) (R : RC i S h ws steps line) (si : SI i ws line) (bg : ∀ k, k < iN i → BG S h ws k b) :
    Ok (f_X2_playBeat h S mc (nI b) (swayF i b moved)) (fun h' => RC i S h' (beatF i b moved (ws, steps, line)).1 (beatF i b moved (ws, steps, line)).2.1 (beatF i b moved (ws, steps, line)).2.2 ∧ SI i (beatF i b moved (ws, steps, line)).1 (beatF i b moved (ws, steps, line)).2.2 ∧ (∀ k, k < iN i → BG S h' (beatF i b moved (ws, steps, line)).1 k (b + 1)) ∧ KP S h h') := by
  have b31 : b < 2 ^ 31 := by omega
  unfold f_X2_playBeat
  rw [if_neg (nI_pos b31), if_pos (ltb24 hb), ck_nI hb (by decide), ia_nI b31]
  refine ok_bdv (p_drop (i := i) (b := b)) (fun h2 ⟨d1, d2, d3⟩ => ?_)
  rw [ck_nI hb (by decide), ia_nI b31, d1 _ (by omega)]
  rw [show h.1 (S + 1 + 1) b = gustN i b (iNe i) from (Wt b hb).1]
  rw [nm_eq]
  have hd : h.1 (S + 1 + 3) b = dropN i b (iNe i) := (Wt b hb).2.2
  have kp2 : KP S h h2 := fun c c1 c2 => d1 c (by omega)
  have wsd : ∀ k, wst (dropF i b ws k) = wst (ws k) ∧ wpl (dropF i b ws k) = wpl (ws k) ∧ wle (dropF i b ws k) = wle (ws k) ∧ wow (dropF i b ws k) = wow (ws k) ∧ wen (dropF i b ws k) = wen (ws k) ∧ wbl (dropF i b ws k) = wbl (ws k) ∧ wfa (dropF i b ws k) = wfa (ws k) := by
    intro k
    unfold dropF
    split <;> exact ⟨rfl, rfl, rfl, rfl, rfl, rfl, rfl⟩
  have cntd : ∀ c, cntW (iN i) (dropF i b ws) c = cntW (iN i) ws c := fun c => by
    unfold cntW
    congr 1
    apply List.filter_congr
    intro x _
    rw [(wsd x).1]
  have R2 : RC i S h2 (dropF i b ws) steps line := by
    refine ⟨fun k hk => ?_, by rw [d1 S (by omega)]; exact R.2.1, fun j hj => by rw [d1 _ (by omega)]; exact R.2.2.1 j hj, by rw [d1 S (by omega)]; exact R.2.2.2.1, by rw [d1 S (by omega), cntd]; exact R.2.2.2.2.1, by rw [d1 S (by omega), cntd]; exact R.2.2.2.2.2⟩
    obtain ⟨a1, a2, a3, a4, a5, a6, a7⟩ := R.1 k hk
    obtain ⟨w1, w2, w3, w4, w5, w6, w7⟩ := wsd k
    refine ⟨by rw [d1 _ (by omega), w1]; exact a1, by rw [d1 _ (by omega), w2]; exact a2, by rw [d1 _ (by omega), w3]; exact a3, ?_, by rw [d1 _ (by omega), w5]; exact a5, by rw [d1 _ (by omega), w6]; exact a6, by rw [d1 _ (by omega), w7]; exact a7⟩
    rw [d3 k (by omega), hd]
    unfold dropF
    split
    · rfl
    · exact a4
  have si2 : SI i (dropF i b ws) line := ⟨si.1, si.2.1, fun k hk => by rw [(wsd k).1]; exact si.2.2.1 k hk, fun k hk => by rw [(wsd k).1]; exact si.2.2.2 k hk⟩
  have bg2 : ∀ k, k < iN i → BG S h2 (dropF i b ws) k b := fun k hk => by
    intro h1
    rw [(wsd k).1] at h1
    rw [(wsd k).2.2.2.1, d1 _ (by omega)]
    exact bg k hk h1
  refine ok_lt2 (fun h4 x5 => RC i S h4 (lineF i b (cheerN i b (iNe i)) (gustN i b (iNe i) + swayF i b moved) line (dropF i b ws, steps, 1000)).1 (lineF i b (cheerN i b (iNe i)) (gustN i b (iNe i) + swayF i b moved) line (dropF i b ws, steps, 1000)).2.1 line ∧ SI i (lineF i b (cheerN i b (iNe i)) (gustN i b (iNe i) + swayF i b moved) line (dropF i b ws, steps, 1000)).1 line ∧ (∀ k, k < iN i → BG S h4 (lineF i b (cheerN i b (iNe i)) (gustN i b (iNe i) + swayF i b moved) line (dropF i b ws, steps, 1000)).1 k (b + 1)) ∧ KP S h h4 ∧ x5 = (lineF i b (cheerN i b (iNe i)) (gustN i b (iNe i) + swayF i b moved) line (dropF i b ws, steps, 1000)).2.2) ?_ ?_
  · rintro h4 x5 ⟨R4, S4, B4, K4, rfl⟩
    generalize hr : lineF i b (cheerN i b (iNe i)) (gustN i b (iNe i) + swayF i b moved) line (dropF i b ws, steps, 1000) = r at R4 S4 B4 ⊢
    have hbe : beatF i b moved (ws, steps, line) = if r.2.2 ≤ 0 then (r.1, r.2.1, line) else match startF i b r.1 with
      | none => (r.1, r.2.1, line)
      | some k => (va_up r.1 k (onW (r.1 k)), r.2.1, line ++ [k]) := by
      rw [← hr]; rfl
    rw [hbe]
    by_cases c : r.2.2 ≤ 0
    · rw [if_pos c]
      simp only [if_pos c]
      exact ok_some ⟨R4, S4, B4, K4⟩
    · rw [if_neg c]
      simp only [if_neg c]
      have t5 : h4.1 5 = h.1 5 := K4 5 (by omega) (by omega)
      have t6 : h4.1 6 = h.1 6 := K4 6 (by omega) (by omega)
      refine ok_bdv (p_startNext (b := b) hN R4 S4 (by rw [t5]; exact T.1) (fun k hk => by rw [t6]; exact (T.2.2.2.2.2.1 k hk).1)) (fun h6 hh => ok_some ?_)
      rcases hh with ⟨e1, rfl⟩ | ⟨k, e1, hk, hk0, rfl⟩
      · rw [e1]; exact ⟨R4, S4, B4, K4⟩
      · rw [e1]
        have hnl : k ∉ line := fun q => absurd hk0 ((S4.2.2.1 k hk).mp q)
        refine ⟨⟨fun k' hk' => ?_, ?_, fun j hj => ?_, ?_, ?_, ?_⟩, ⟨?_, ?_, fun k' hk' => ?_, fun k' hk' => ?_⟩, fun k' hk' => ?_, ?_⟩
        · by_cases e : k' = k
          · subst e
            obtain ⟨a1, a2, a3, a4, a5, a6, a7⟩ := R4.1 k' hk'
            simp [uf_get, va_up, onW, wst, wpl, wle, wpo, wen, wbl, wfa] at a3 a4 a5 a6 a7 ⊢
            exact ⟨a3, a4, a5, a6, a7⟩
          · simpa [uf_get, va_up, e] using R4.1 k' hk'
        · simp [uf_get]
        · rw [uf_ne (by omega)]
          rw [uf_get]
          by_cases ej : j = line.length
          · subst ej; simp
          · have hj2 : j < line.length := by simp at hj; omega
            rw [if_neg (by simp [ej]), uf_ne (by omega), uf_ne (by omega), uf_ne (by omega), R4.2.2.1 j hj2]
            rw [List.getElem_append_left hj2]
        · simp [uf_get]; exact R4.2.2.2.1
        · rw [cnt_off hk (by rw [hk0]; decide) (by show (1 : Int32) ≠ _; decide)]
          simp [uf_get]; exact R4.2.2.2.2.1
        · rw [cnt_off hk (by rw [hk0]; decide) (by show (1 : Int32) ≠ _; decide)]
          simp [uf_get]; exact R4.2.2.2.2.2
        · rw [List.nodup_append]
          refine ⟨S4.1, by simp, fun a ha c hc => ?_⟩
          simp at hc
          rw [hc]
          exact fun q => hnl (q ▸ ha)
        · intro k' hk'
          rcases List.mem_append.mp hk' with q | q
          · exact S4.2.1 k' q
          · simp at q; rw [q]; exact hk
        · by_cases e : k' = k
          · subst e; simp [va_up, onW, wst]
          · have := S4.2.2.1 k' hk'
            simpa [va_up, e] using this
        · by_cases e : k' = k
          · subst e; simp [va_up, onW, wst]
          · simpa [va_up, e] using S4.2.2.2 k' hk'
        · by_cases e : k' = k
          · subst e
            intro _
            exact ⟨b, by simp [uf_get], by simp [va_up, onW, wow]⟩
          · intro h1
            simp only [va_up, if_neg e] at h1 ⊢
            obtain ⟨g, w1, w2⟩ := B4 k' hk' h1
            exact ⟨g, by simp [uf_get, e, w1], w2⟩
        · exact ((((K4.uf (by omega)).uf (by omega)).uf (by omega)).uf (by omega)).uf (by omega)
  · intro k1 hk1
    exact p_line hN hS hb hmc hsl T Wt R2 si2 bg2 kp2 hk1
