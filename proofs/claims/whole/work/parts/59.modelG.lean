def recF (b j : Nat) (h : Hp) (c z : Nat) : Int32 := if c = 86 ∧ z < j then jmax (h.1 86 z) (jabs (h.1 81 z)) else if c = 87 ∧ 6 * b ≤ z ∧ z < 6 * b + j then h.1 79 (z - 6 * b) else if c = 88 ∧ 6 * b ≤ z ∧ z < 6 * b + j then h.1 80 (z - 6 * b) else if c = 89 ∧ 6 * b ≤ z ∧ z < 6 * b + j then h.1 81 (z - 6 * b) else h.1 c z
theorem rec_0 (b : Nat) (h : Hp) (c z : Nat) : h.1 c z = recF b 0 h c z := by
  unfold recF
  rw [if_neg (by omega), if_neg (by omega), if_neg (by omega), if_neg (by omega)]
theorem rec_o {b j : Nat} {h : Hp} {c z : Nat} (h1 : c ≠ 86) (h2 : c ≠ 87) (h3 : c ≠ 88) (h4 : c ≠ 89) : recF b j h c z = h.1 c z := by
  unfold recF
  rw [if_neg (by omega), if_neg (by omega), if_neg (by omega), if_neg (by omega)]
theorem rec_86 {b j : Nat} {h : Hp} {z : Nat} : recF b j h 86 z = if z < j then jmax (h.1 86 z) (jabs (h.1 81 z)) else h.1 86 z := by
  simp [recF]
theorem rec_87 {b j : Nat} {h : Hp} {z : Nat} : recF b j h 87 z = if 6 * b ≤ z ∧ z < 6 * b + j then h.1 79 (z - 6 * b) else h.1 87 z := by
  simp [recF]
theorem rec_88 {b j : Nat} {h : Hp} {z : Nat} : recF b j h 88 z = if 6 * b ≤ z ∧ z < 6 * b + j then h.1 80 (z - 6 * b) else h.1 88 z := by
  simp [recF]
theorem rec_89 {b j : Nat} {h : Hp} {z : Nat} : recF b j h 89 z = if 6 * b ≤ z ∧ z < 6 * b + j then h.1 81 (z - 6 * b) else h.1 89 z := by
  simp [recF]
theorem rec_s {b j : Nat} {h h1 : Hp} (e : ∀ c z, h1.1 c z = recF b j h c z) (c z : Nat) : (uf (uf (uf (uf h1 86 j (jmax (h1.1 86 j) (jabs (h1.1 81 j)))) 87 (6 * b + j) (h1.1 79 j)) 88 (6 * b + j) (h1.1 80 j)) 89 (6 * b + j) (h1.1 81 j)).1 c z = recF b (j + 1) h c z := by
  have e79 : ∀ z, h1.1 79 z = h.1 79 z := fun z => (e 79 z).trans (rec_o (by decide) (by decide) (by decide) (by decide))
  have e80 : ∀ z, h1.1 80 z = h.1 80 z := fun z => (e 80 z).trans (rec_o (by decide) (by decide) (by decide) (by decide))
  have e81 : ∀ z, h1.1 81 z = h.1 81 z := fun z => (e 81 z).trans (rec_o (by decide) (by decide) (by decide) (by decide))
  simp only [uf_get, e79, e80, e81]
  by_cases c6 : c = 86
  · subst c6
    rw [if_neg (by omega), if_neg (by omega), if_neg (by omega), rec_86, e 86 z, e 86 j, rec_86, rec_86, if_neg (Nat.lt_irrefl j)]
    by_cases q : z = j
    · subst q
      rw [if_pos ⟨rfl, rfl⟩, if_pos (by omega)]
    · rw [if_neg (by omega)]
      by_cases q2 : z < j
      · rw [if_pos q2, if_pos (by omega)]
      · rw [if_neg q2, if_neg (by omega)]
  by_cases c7 : c = 87
  · subst c7
    rw [if_neg (by omega), if_neg (by omega), rec_87, e 87 z, rec_87]
    by_cases q : z = 6 * b + j
    · subst q
      rw [if_pos ⟨rfl, rfl⟩, if_pos (by omega), show 6 * b + j - 6 * b = j by omega]
    · rw [if_neg (by omega), if_neg (by omega)]
      by_cases q2 : 6 * b ≤ z ∧ z < 6 * b + j
      · rw [if_pos q2, if_pos (by omega)]
      · rw [if_neg q2, if_neg (by omega)]
  by_cases c8 : c = 88
  · subst c8
    rw [if_neg (by omega), rec_88, e 88 z, rec_88]
    by_cases q : z = 6 * b + j
    · subst q
      rw [if_pos ⟨rfl, rfl⟩, if_pos (by omega), show 6 * b + j - 6 * b = j by omega]
    · rw [if_neg (by omega), if_neg (by omega), if_neg (by omega)]
      by_cases q2 : 6 * b ≤ z ∧ z < 6 * b + j
      · rw [if_pos q2, if_pos (by omega)]
      · rw [if_neg q2, if_neg (by omega)]
  by_cases c9 : c = 89
  · subst c9
    rw [rec_89, e 89 z, rec_89]
    by_cases q : z = 6 * b + j
    · subst q
      rw [if_pos ⟨rfl, rfl⟩, if_pos (by omega), show 6 * b + j - 6 * b = j by omega]
    · rw [if_neg (by omega), if_neg (by omega), if_neg (by omega), if_neg (by omega)]
      by_cases q2 : 6 * b ≤ z ∧ z < 6 * b + j
      · rw [if_pos q2, if_pos (by omega)]
      · rw [if_neg q2, if_neg (by omega)]
  rw [if_neg (by omega), if_neg (by omega), if_neg (by omega), if_neg (by omega), e, rec_o c6 c7 c8 c9, rec_o c6 c7 c8 c9]
theorem p_rec {h : Hp} {n b : Nat} (hn : n ≤ 6) (hb : b < 24) (t : h.1 68 7 = nI n) :
    Ok (fx2 FU (fun s5 (h8 : Hp) (x9 : Int32) =>
              if (h8.1 68 7) ≤ x9 then (
                some h8)
              else (
                ck x9 6 (
                  bdr (f_X8_size (ia h8 81 x9)) fun x10 =>
                  ck x9 6 (
                    bdr (f_X8_greater x10 (ia h8 86 x9)) fun x11 =>
                    ck x9 6 (nm (ux h8 86 x9 x11) fun h12 =>
                    ck x9 6 (
                      ck (((6 : Int32) * nI b) + x9) 144 (nm (ux h12 87 (((6 : Int32) * nI b) + x9) (ia h12 79 x9)) fun h13 =>
                      ck x9 6 (
                        ck (((6 : Int32) * nI b) + x9) 144 (nm (ux h13 88 (((6 : Int32) * nI b) + x9) (ia h13 80 x9)) fun h14 =>
                        ck x9 6 (
                          ck (((6 : Int32) * nI b) + x9) 144 (nm (ux h14 89 (((6 : Int32) * nI b) + x9) (ia h14 81 x9)) fun h15 =>
                          nm (x9 + (1 : Int32)) fun x16 =>
                          s5 h15 x16))))))))))) h (0 : Int32)) (fun h' => (∀ c z, h'.1 c z = recF b n h c z) ∧ h'.2 = h.2) := by
  refine ok_fx2 (fun m h1 x => ∃ j, x = nI j ∧ j + m = n ∧ (∀ c z, h1.1 c z = recF b j h c z) ∧ h1.2 = h.2) n (by omega) ⟨0, rfl, by omega, rec_0 b h, rfl⟩ ?_
  rintro m self h1 x ⟨j, rfl, hj, h2, h3⟩ ih
  rw [h2 68 7, rec_o (by decide) (by decide) (by decide) (by decide), t]
  by_cases hm : m = 0
  · have e : j = n := by omega
    subst e
    rw [if_pos (nI_le (Nat.le_refl _) (by omega))]
    exact ok_some ⟨h2, h3⟩
  · have hjn : j < n := by omega
    have hj6 : j < 6 := by omega
    have j31 : j < 2 ^ 31 := by omega
    have e6 : (6 : Int32) * nI b + nI j = nI (6 * b + j) := by rw [show (6 : Int32) = nI 6 from rfl, pk_mul, nI_add]
    have b144 : 6 * b + j < 144 := by omega
    have b31 : 6 * b + j < 2 ^ 31 := by omega
    rw [if_neg (nI_ge hjn (by omega))]
    simp only [e6, ck_nI hj6 (show 6 < 2 ^ 31 by decide), ck_nI b144 (show 144 < 2 ^ 31 by decide), nm_eq, ia_nI j31, ux_nI j31, ux_nI b31, size_eq, great_eq, bdr_some, show nI j + (1 : Int32) = nI (j + 1) from nI_1 j]
    refine ih (m - 1) _ _ (by omega) ⟨j + 1, rfl, by omega, fun c z => ?_, h3⟩
    simp only [uf_ne (show 79 ≠ 86 by decide), uf_ne (show 80 ≠ 87 by decide), uf_ne (show 80 ≠ 86 by decide), uf_ne (show 81 ≠ 88 by decide), uf_ne (show 81 ≠ 87 by decide), uf_ne (show 81 ≠ 86 by decide)]
    exact rec_s h2 c z
