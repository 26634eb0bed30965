theorem m1_1 {p : Nat} : nI p + (1 : Int32) = nI (p + 1) := nI_1 p
set_option maxHeartbeats 1000000 in
theorem p_goes {n k b p L a c m tt : Nat} {h : Hp} {so le en bl steps : Int32} (hn : n ≤ 6) (hk : k < n) (hL : L ≤ 40) (ha1 : a ≤ 1000) (t68 : h.1 68 7 = nI n) (tso : h.1 75 (3 * k + 1) = so) (tc : h.1 68 28 = nI c) (hc : c < 2) (tL : h.1 77 0 = nI L) (e1 : h.1 79 k = 1) (e2 : h.1 80 k = nI p) (e3 : h.1 81 k = le) (e4 : h.1 84 k = en) (e5 : h.1 85 k = bl) (e6 : h.1 68 27 = steps)
    (hpL : p < L) (hpa : p < a) (hfree : ∀ q, p < q → q < a → ∀ k', k' < n → k' ≠ k → ¬ (h.1 79 k' = 1 ∧ h.1 80 k' = nI q)) (hblock : a = 1000 ∨ ∃ k', k' < n ∧ k' ≠ k ∧ h.1 79 k' = 1 ∧ h.1 80 k' = nI a) (hm : m = 1 + (if so = 1 then 1 else 0) + c) (htt : tt = min (p + m) (min L (a - 1)) - p) :
    Ok (f_X8_goes h (nI b) (nI k)) (fun h' => (∀ x z, h'.1 x z = if x = 80 ∧ z = k then nI (p + tt) else if x = 81 ∧ z = k then (if p + tt = L then 0 else le + (if so = 1 then nI tt else 0)) else if x = 79 ∧ z = k then (if p + tt = L then 2 else 1) else if x = 84 ∧ z = k then (if p + tt = L then nI b else en) else if x = 85 ∧ z = k then bl + (if tt = 0 then 1 else 0) else if x = 68 ∧ z = 27 then steps + nI tt else h.1 x z) ∧ h'.2 = h.2) := by
  have hk6 : k < 6 := by omega
  have k31 : k < 2 ^ 31 := by omega
  have m3 : m ≤ 3 := by rw [hm]; split <;> omega
  unfold f_X8_goes
  rw [show (3 : Int32) * nI k + (1 : Int32) = nI (3 * k + 1) from t3 hk6 (by decide) 1 (by decide)]
  rw [ck_nI (show 3 * k + 1 < 18 by omega) (by decide), ia_nI (show 3 * k + 1 < 2 ^ 31 by omega), tso]
  simp only [lt1_if, nm_eq, tc, ck_nI hk6 (show 6 < 2 ^ 31 by decide), ia_nI k31, ux_nI k31]
  have hx1 : ((if so = (1 : Int32) then (1 : Int32) else 0) = 0) = ¬ (so = 1) := by
    by_cases q : so = 1 <;> simp [q]
  have hx4 : ((if ¬ (so = (1 : Int32)) then (1 : Int32) else 2) + if nI c = 0 then (0 : Int32) else 1) = nI m := by
    rcases (show c = 0 ∨ c = 1 by omega) with rfl | rfl <;> by_cases q : so = 1 <;> simp [q, hm] <;> decide
  simp only [hx1, hx4]
  rw [lt2_eq]
  refine ok_fx2 (fun r h10 x11 => ∃ t, x11 = nI t ∧ t + r = tt ∧ (∀ x z, h10.1 x z = if x = 80 ∧ z = k then nI (p + t) else if x = 81 ∧ z = k then (if p + t = L then 0 else le + (if so = 1 then nI t else 0)) else if x = 79 ∧ z = k then (if p + t = L then 2 else 1) else if x = 84 ∧ z = k then (if p + t = L then nI b else en) else h.1 x z) ∧ h10.2 = h.2) tt (by omega) ⟨0, rfl, by omega, fun x z => ?_, rfl⟩ ?_
  · have : ¬ (p + 0 = L) := by omega
    simp only [if_neg this]
    by_cases q1 : x = 80 ∧ z = k
    · rw [if_pos q1, q1.1, q1.2, e2]; rfl
    · rw [if_neg q1]
      by_cases q2 : x = 81 ∧ z = k
      · rw [if_pos q2, q2.1, q2.2, e3]
        split <;> simp [nI_0]
      · rw [if_neg q2]
        by_cases q3 : x = 79 ∧ z = k
        · rw [if_pos q3, q3.1, q3.2, e1]
        · rw [if_neg q3]
          by_cases q4 : x = 84 ∧ z = k
          · rw [if_pos q4, q4.1, q4.2, e4]
          · rw [if_neg q4]
  · rintro r self h10 x11 ⟨t, rfl, hr, v, g10⟩ ih
    have fin : t = tt → Ok (lt1 (fun (x7 : Int32) => some (uf (uf h10 85 k (h10.1 85 k + x7)) 68 27 ((uf h10 85 k (h10.1 85 k + x7)).1 68 27 + nI t))) fun k5 => if nI t = 0 then k5 1 else k5 0) (fun h' => (∀ x z, h'.1 x z = if x = 80 ∧ z = k then nI (p + tt) else if x = 81 ∧ z = k then (if p + tt = L then 0 else le + (if so = 1 then nI tt else 0)) else if x = 79 ∧ z = k then (if p + tt = L then 2 else 1) else if x = 84 ∧ z = k then (if p + tt = L then nI b else en) else if x = 85 ∧ z = k then bl + (if tt = 0 then 1 else 0) else if x = 68 ∧ z = 27 then steps + nI tt else h.1 x z) ∧ h'.2 = h.2) := by
      intro et
      subst et
      rw [lt1_if]
      have z0 : (nI t = 0) = (t = 0) := by
        have := nI_eq (a := t) (b := 0) (by omega) (by decide)
        rw [nI_0] at this
        exact propext this
      refine ok_some ⟨fun x z => ?_, g10⟩
      have s1 : h10.1 68 27 = steps := by rw [v]; simp [e6]
      have s2 : h10.1 85 k = bl := by rw [v]; simp [e5]
      rw [uf_get, uf_ne (show (68 : Nat) ≠ 85 by decide), s1, uf_get, s2, v]
      simp only [z0]
      by_cases q5 : x = 68 ∧ z = 27
      · simp [q5]
      · by_cases q6 : x = 85 ∧ z = k
        · simp [q6]
        · simp only [if_neg q5, if_neg q6]
    have h79 : h10.1 79 k = if p + t = L then 2 else 1 := by rw [v]; simp
    have h80 : h10.1 80 k = nI (p + t) := by rw [v]; simp
    have h81 : h10.1 81 k = if p + t = L then 0 else le + (if so = 1 then nI t else 0) := by rw [v]; simp
    have h77 : h10.1 77 0 = nI L := by rw [v]; simp [tL]
    have t10 : h10.1 68 7 = nI n := by rw [v]; simp [t68]
    simp only [lt1_if] at fin
    by_cases c1 : t = m
    · subst c1
      rw [if_pos (nI_le (Nat.le_refl _) (by omega))]
      exact fin (by omega)
    · have htm : t < m := by omega
      rw [if_neg (nI_ge htm (by omega)), h79]
      by_cases c2 : p + t = L
      · rw [if_pos c2, if_neg (show ¬ (2 : Int32) = 1 by decide)]
        exact fin (by omega)
      · rw [if_neg c2, if_pos rfl, h80, m1_1]
        refine ok_bdr (p_whoAt (n := n) hn t10) (fun x12 hx => ?_)
        have hother : ∀ k', k' < n → k' ≠ k → h10.1 79 k' = h.1 79 k' ∧ h10.1 80 k' = h.1 80 k' := fun k' _ hne => by
          rw [v, v]; simp [hne]
        by_cases c3 : p + t + 1 = a
        · have hne : ¬ (x12 = -1) := by
            rw [hx]
            intro hall
            rcases hblock with hb1 | ⟨k', w1, w2, w3, w4⟩
            · omega
            · have := hall k' w1
              rw [(hother k' w1 w2).1, (hother k' w1 w2).2] at this
              exact this ⟨w3, by rw [w4, c3]⟩
          rw [if_neg hne]
          exact fin (by omega)
        · have hyes : x12 = -1 := by
            rw [hx]
            intro k' hk' ⟨w1, w2⟩
            by_cases ek : k' = k
            · subst ek
              rw [h80] at w2
              have := (nI_eq (a := p + t) (b := p + t + 1) (by omega) (by omega)).mp w2
              omega
            · rw [(hother k' hk' ek).1] at w1
              rw [(hother k' hk' ek).2] at w2
              exact hfree (p + t + 1) (by omega) (by omega) k' hk' ek ⟨w1, w2⟩
          have u80 : ∀ X Y, (uf (uf h10 80 k X) 81 k Y).1 80 k = X := fun X Y => by simp [uf_get]
          have u77 : ∀ X Y, (uf (uf h10 80 k X) 81 k Y).1 77 0 = nI L := fun X Y => by simp [uf_get, h77]
          rw [if_pos hyes, uf_ne (show (81 : Nat) ≠ 80 by decide), h81, if_neg c2, u80, u77, m1_1]
          have htt1 : t + 1 ≤ tt := by omega
          have hle : le + (if so = 1 then nI t else 0) + (if ¬ (so = 1) then (0 : Int32) else 1) = le + (if so = 1 then nI (t + 1) else 0) := by
            by_cases q : so = 1
            · rw [if_pos q, if_neg (fun z => z q), if_pos q, Int32.add_assoc, m1_1]
            · simp [q]
          rw [hle]
          by_cases c4 : p + t + 1 = L
          · rw [if_pos (by rw [c4])]
            refine ih (r - 1) _ _ (by omega) ⟨t + 1, rfl, by omega, fun x z => ?_, g10⟩
            have c4' : p + (t + 1) = L := by omega
            simp only [uf_get, v, if_pos c4', if_neg c2]
            by_cases q1 : x = 80 ∧ z = k
            · simp [q1, ← c4]; rfl
            · by_cases q2 : x = 81 ∧ z = k
              · simp [q2]
              · by_cases q3 : x = 79 ∧ z = k
                · simp [q3]
                · by_cases q4 : x = 84 ∧ z = k
                  · simp [q4]
                  · simp only [if_neg q1, if_neg q2, if_neg q3, if_neg q4]
          · rw [if_neg (fun q => c4 ((nI_eq (by omega) (by omega)).mp q))]
            refine ih (r - 1) _ _ (by omega) ⟨t + 1, rfl, by omega, fun x z => ?_, g10⟩
            have c4' : ¬ (p + (t + 1) = L) := by omega
            simp only [uf_get, v, if_neg c4', if_neg c2]
            by_cases q1 : x = 80 ∧ z = k
            · simp [q1]; rfl
            · by_cases q2 : x = 81 ∧ z = k
              · simp [q2]
              · simp only [if_neg q1, if_neg q2]
theorem size_eq (x : Int32) : f_X8_size x = some (jabs x) := by
  unfold f_X8_size jabs
  split <;> rfl
theorem great_eq (x y : Int32) : f_X8_greater x y = some (jmax y x) := by
  unfold f_X8_greater jmax
  by_cases h : x ≤ y
  · rw [if_pos h, if_neg (by rw [Int32.lt_iff_toInt_lt]; rw [Int32.le_iff_toInt_le] at h; omega)]
  · rw [if_neg h, if_pos (by rw [Int32.lt_iff_toInt_lt]; rw [Int32.le_iff_toInt_le] at h; omega)]
theorem jmin_nI {a b : Nat} (ha : a < 2 ^ 31) (hb : b < 2 ^ 31) : jmin (nI a) (nI b) = nI (min a b) := by
  unfold jmin
  by_cases h : b < a
  · rw [if_pos (nI_lt h ha), Nat.min_eq_right (by omega)]
  · rw [if_neg (nI_nlt (by omega) hb), Nat.min_eq_left (by omega)]
theorem sgn_ne {x : Int32} (h : ¬ x = 0) : sgn x = if x ≤ 0 then -1 else 1 := by
  unfold sgn
  by_cases c : x ≤ 0
  · rw [if_pos c, if_pos c, if_neg]
    intro q
    apply h
    rw [Int32.le_iff_toInt_le] at c q
    apply Int32.toInt_inj.mp
    omega
  · rw [if_neg c, if_neg c]
theorem jabs_0 {x : Int32} (hx : -2147483648 < x.toInt) : jabs x ≤ 0 ↔ x = 0 := by
  unfold jabs
  have z : (0 : Int32).toInt = 0 := by decide
  by_cases c : 0 ≤ x
  · rw [if_pos c]
    constructor
    · intro q
      rw [Int32.le_iff_toInt_le] at c q
      apply Int32.toInt_inj.mp
      omega
    · rintro rfl; decide
  · rw [if_neg c]
    rw [Int32.le_iff_toInt_le] at c
    have e : (0 - x).toInt = - x.toInt := by
      rw [Int32.toInt_sub, z]
      have h1 := Int32.toInt_lt x
      have h2 := Int32.le_toInt x
      rw [show (0 : Int) - x.toInt = - x.toInt by omega]
      rw [Int.bmod_eq_of_le (by omega) (by omega)]
    constructor
    · intro q
      rw [Int32.le_iff_toInt_le, e] at q
      omega
    · rintro rfl
      exact absurd (by decide) c
theorem nw_0 {x : Int32} : nw 0 x = x + sgn x := by
  unfold nw sgn
  rw [show (0 : Int32) - 0 = 0 by decide]
  by_cases a : x ≤ 0
  · rw [if_pos a, if_pos a]
    by_cases b : 0 ≤ x
    · rw [if_pos b, if_pos b]
    · rw [if_neg b, if_neg b]
  · rw [if_neg a, if_neg a]
theorem nw_2 {x : Int32} (hx : -2147483648 < x.toInt) : nw 2 x = if jabs x ≤ 2 then x else x + sgn x := by
  have z0 : (0 : Int32).toInt = 0 := by decide
  have z2 : (2 : Int32).toInt = 2 := by decide
  have zm : ((0 : Int32) - 2).toInt = -2 := by decide
  have e : (0 - x).toInt = - x.toInt := by
    rw [Int32.toInt_sub, z0]
    have h1 := Int32.toInt_lt x
    have h2 := Int32.le_toInt x
    rw [show (0 : Int) - x.toInt = - x.toInt by omega]
    rw [Int.bmod_eq_of_le (by omega) (by omega)]
  unfold nw jabs sgn
  simp only [Int32.le_iff_toInt_le, z0, z2, zm]
  by_cases p : 0 ≤ x.toInt
  · simp only [if_pos p, z2]
    by_cases a : x.toInt ≤ 2
    · rw [if_pos a, if_pos (show -2 ≤ x.toInt by omega), if_pos a, Int32.add_zero]
    · rw [if_neg a, if_neg a, if_neg (show ¬ x.toInt ≤ 0 by omega)]
  · simp only [if_neg p, e]
    by_cases a : - x.toInt ≤ 2
    · rw [if_pos (show x.toInt ≤ 2 by omega), if_pos (show -2 ≤ x.toInt by omega), if_pos a, Int32.add_zero]
    · rw [if_pos (show x.toInt ≤ 2 by omega), if_neg (show ¬ -2 ≤ x.toInt by omega), if_neg a, if_pos (show x.toInt ≤ 0 by omega)]
