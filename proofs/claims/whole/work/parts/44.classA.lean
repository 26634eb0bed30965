/-! the class's show: one walker's turn -/
theorem wi6 {w : Nat} (hw : w < 6) : f_X7_within (nI w) (0 : Int32) (5 : Int32) = some 1 := (show ∀ w, w < 6 → f_X7_within (nI w) (0 : Int32) (5 : Int32) = some 1 by decide +kernel) w hw
theorem isb {b : Nat} (hb : b < 24) : f_X7_isBeat (nI b) = some 1 := (show ∀ b, b < 24 → f_X7_isBeat (nI b) = some 1 by decide +kernel) b hb
theorem ltk6 {k : Nat} (hk : k < 6) : nI k < (6 : Int32) := (show ∀ k, k < 6 → nI k < (6 : Int32) by decide +kernel) k hk
theorem ltb24 {b : Nat} (hb : b < 24) : nI b < (24 : Int32) := (show ∀ b, b < 24 → nI b < (24 : Int32) by decide +kernel) b hb
theorem geb24 {b : Nat} (hb : b < 24) : ¬ (24 : Int32) ≤ nI b := (show ∀ b, b < 24 → ¬ (24 : Int32) ≤ nI b by decide +kernel) b hb
theorem geb144 {b : Nat} (hb : b < 144) : ¬ (144 : Int32) ≤ nI b := (show ∀ b, b < 144 → ¬ (144 : Int32) ≤ nI b by decide +kernel) b hb
theorem wt_eq (x : Int32) : x + (if x ≤ 0 then (if 0 ≤ x then (0 : Int32) else 1) else -1) = x - sgn x := by
  unfold sgn
  by_cases a : x ≤ 0
  · rw [if_pos a, if_pos a]
    by_cases b : 0 ≤ x
    · rw [if_pos b, if_pos b, Int32.sub_eq_add_neg]; rfl
    · rw [if_neg b, if_neg b, Int32.sub_eq_add_neg]; rfl
  · rw [if_neg a, if_neg a, Int32.sub_eq_add_neg]
theorem uf_same {h : Hp} {k j : Nat} : uf h k j (h.1 k j) = h := by
  apply Prod.ext
  · funext a b
    rw [uf_get]
    by_cases e : a = k ∧ b = j
    · rw [if_pos e, e.1, e.2]
    · rw [if_neg e]
  · rfl
theorem uf_sm {h : Hp} {k j : Nat} {v : Int32} (e : v = h.1 k j) : uf h k j v = h := by rw [e]; exact uf_same
theorem uf_uf {h : Hp} {k j : Nat} {v w : Int32} : uf (uf h k j v) k j w = uf h k j w := by
  apply Prod.ext
  · funext a b
    rw [uf_get, uf_get, uf_get]
    by_cases e : a = k ∧ b = j
    · rw [if_pos e, if_pos e]
    · rw [if_neg e, if_neg e, if_neg e]
  · rfl
theorem p31 {k N : Nat} (h : k < N) (hN : N ≤ 1000) : k < 2 ^ 31 := by omega
theorem one_ne : ¬ ((1 : Int32) = 0) := by decide
theorem lt1_if {A Out : Type} (K : A → Option Out) (c : Prop) [Decidable c] (a b : A) : lt1 K (fun k => if c then k a else k b) = K (if c then a else b) := by
  unfold lt1; split <;> rfl
theorem lt1_if3 {A Out : Type} (K : A → Option Out) (c d : Prop) [Decidable c] [Decidable d] (a b e : A) : lt1 K (fun k => if c then k a else if d then k b else k e) = K (if c then a else if d then b else e) := by
  unfold lt1; split
  · rfl
  · split <;> rfl
theorem lt1_if4 {A Out : Type} (K : A → Option Out) (c d : Prop) [Decidable c] [Decidable d] (a b e : A) : lt1 K (fun k => if c then (if d then k a else k b) else k e) = K (if c then (if d then a else b) else e) := by
  unfold lt1; split
  · split <;> rfl
  · rfl
theorem p_perform {i : Inp} {S k : Nat} {h : Hp} {cheer push ahead : Int32} {w : WS} (hk : k < 6) (hso : h.1 7 k = iSo i k) (hlen : h.1 5 9 = iLen i) (e1 : h.1 (S + 11) k = wpl w) (e2 : h.1 (S + 12) k = wle w + push) (e3 : h.1 (S + 13) k = wpo w) (e4 : h.1 (S + 16) k = wbl w) :
    f_X2_perform h S (nI k) (iMv i (wow w)) cheer ahead = some (uf (uf (uf (uf h (S + 11) k (sPl i cheer ahead k w)) S 12 (h.1 S 12 + sGo i cheer ahead k w)) (S + 16) k (sBl i cheer ahead k w)) (S + 12) k (sL2 i cheer push ahead k w)) := by
  have h31 : k < 2 ^ 31 := p31 hk (by decide)
  unfold f_X2_perform
  rw [if_neg (nI_pos h31), if_pos (ltk6 hk)]
  simp only [ck_nI hk (show 6 < 2 ^ 31 by decide), nm_eq, ia_nI h31, ux_nI h31, hso, hlen, e1, e2, e3, e4, lt1_if, lt1_if3, lt1_if4, wt_eq]
  have end1 : ∀ (H : Hp) (l1 : Int32), H.1 (S + 12) k = l1 → (if H.1 (S + 12) k ≤ (if iSo i k = 0 then (2 : Int32) else 0) then (if 0 - (if iSo i k = 0 then (2 : Int32) else 0) ≤ H.1 (S + 12) k then some (uf H (S + 12) k (H.1 (S + 12) k + (0 : Int32))) else some (uf H (S + 12) k (H.1 (S + 12) k + (-1 : Int32)))) else some (uf H (S + 12) k (H.1 (S + 12) k + (1 : Int32)))) = some (uf H (S + 12) k (nw (if iSo i k = 0 then (2 : Int32) else 0) l1)) := by
    intro H l1 hl
    generalize (if iSo i k = 0 then (2 : Int32) else 0) = B
    simp only [hl]
    unfold nw
    by_cases a : l1 ≤ B
    · rw [if_pos a, if_pos a]
      by_cases b : 0 - B ≤ l1
      · rw [if_pos b, if_pos b]
      · rw [if_neg b, if_neg b]
    · rw [if_neg a, if_neg a]
  by_cases m0 : iMv i (wow w) = 0
  · simp only [if_pos m0]
    rw [end1 _ (sL1 i cheer push ahead k w)]
    · simp [sPl, sGo, sBl, sL2, sGone, m0, uf_uf, uf_get, e4]
      rfl
    · simp [uf_get, sL1, sGone, m0, e2]
  · by_cases m1 : iMv i (wow w) = 1
    · simp only [if_neg m0, if_pos m1]
      have z1 : uf h (S + 11) k (sPl i cheer ahead k w) = h := uf_sm (by simp [sPl, m1, e1])
      have z2 : uf h S 12 (h.1 S 12 + sGo i cheer ahead k w) = h := uf_sm (by simp [sGo, m1])
      have z3 : uf h (S + 16) k (sBl i cheer ahead k w) = h := uf_sm (by simp [sBl, m1, e4])
      rw [end1 _ (sL1 i cheer push ahead k w)]
      · rw [z1, z2, z3, uf_uf]
        rfl
      · simp [uf_get, sL1, m1]
    · simp only [if_neg m0, if_neg m1]
      have z1 : uf h (S + 11) k (sPl i cheer ahead k w) = h := uf_sm (by simp [sPl, m0, e1])
      have z2 : uf h S 12 (h.1 S 12 + sGo i cheer ahead k w) = h := uf_sm (by simp [sGo, m0])
      have z3 : uf h (S + 16) k (sBl i cheer ahead k w) = h := uf_sm (by simp [sBl, m0, e4])
      rw [end1 _ (sL1 i cheer push ahead k w)]
      · rw [z1, z2, z3, uf_uf]
        rfl
      · simp [uf_get, sL1, sBy, m0, m1]
theorem p_settle {i : Inp} {S k b : Nat} {h : Hp} {w : WS} {pl l2 bl : Int32} (hk : k < 6) (hlen : h.1 5 9 = iLen i) (hlim : h.1 5 11 = iLim i) (e1 : h.1 (S + 11) k = pl) (e2 : h.1 (S + 12) k = l2) (e5 : h.1 (S + 17) k = wfa w) (e6 : h.1 (S + 15) k = wen w) (e7 : h.1 (S + 10) k = 1) :
    f_X2_settle h S (nI k) (nI b) = some (uf (uf (uf (uf (uf (uf h (S + 10) k (wst (stl i b pl l2 w bl))) (S + 12) k (wle (stl i b pl l2 w bl))) (S + 15) k (wen (stl i b pl l2 w bl))) S 13 (if wst (stl i b pl l2 w bl) = 2 then h.1 S 13 + 1 else h.1 S 13)) S 14 (if wst (stl i b pl l2 w bl) = 3 then h.1 S 14 + 1 else h.1 S 14)) (S + 17) k (wfa (stl i b pl l2 w bl))) := by
  have h31 : k < 2 ^ 31 := p31 hk (by decide)
  unfold f_X2_settle
  rw [if_neg (nI_pos h31), if_pos (ltk6 hk)]
  simp only [ck_nI hk (show 6 < 2 ^ 31 by decide), nm_eq, ia_nI h31, ux_nI h31, hlen, hlim, e1, e2, lt1_eq]
  by_cases c1 : pl < iLen i
  · by_cases c2 : jabs l2 < iLim i
    · have z1 : uf h (S + 10) k (wst (stl i b pl l2 w bl)) = h := uf_sm (by simp [stl, c1, c2, wst, e7])
      have z2 : uf h (S + 12) k (wle (stl i b pl l2 w bl)) = h := uf_sm (by simp [stl, c1, c2, wle, e2])
      have z3 : uf h (S + 15) k (wen (stl i b pl l2 w bl)) = h := uf_sm (by simp [stl, c1, c2, wen, e6])
      have z4 : uf h S 13 (if wst (stl i b pl l2 w bl) = 2 then h.1 S 13 + 1 else h.1 S 13) = h := uf_sm (by simp [stl, c1, c2, wst])
      have z5 : uf h S 14 (if wst (stl i b pl l2 w bl) = 3 then h.1 S 14 + 1 else h.1 S 14) = h := uf_sm (by simp [stl, c1, c2, wst])
      rw [z1, z2, z3, z4, z5]
      simp [stl, c1, c2, wfa, e5, e2]
    · have z2 : ∀ H : Hp, H.1 (S + 12) k = l2 → uf H (S + 12) k (wle (stl i b pl l2 w bl)) = H := fun H hH => uf_sm (by simp [stl, c1, c2, wle, hH])
      have z4 : ∀ H : Hp, H.1 S 13 = h.1 S 13 → uf H S 13 (if wst (stl i b pl l2 w bl) = 2 then h.1 S 13 + 1 else h.1 S 13) = H := fun H hH => uf_sm (by simp [stl, c1, c2, wst, hH])
      rw [z2 _ (by simp [uf_get, e2]), z4 _ (by simp [uf_get])]
      simp [stl, c1, c2, wfa, wst, wen, e5, e2, uf_get]
  · have z5 : ∀ H : Hp, H.1 S 14 = h.1 S 14 → uf H S 14 (if wst (stl i b pl l2 w bl) = 3 then h.1 S 14 + 1 else h.1 S 14) = H := fun H hH => uf_sm (by simp [stl, c1, wst, hH])
    rw [z5 _ (by simp [uf_get])]
    simp [stl, c1, wfa, wst, wen, wle, e5, uf_get]
