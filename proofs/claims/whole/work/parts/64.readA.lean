/-! the reference reads its texts -/
def mvO (v : Int32) : Int32 := if v = 102 then 0 else if v = 119 then 1 else if v = 108 then 2 else if v = 114 then 3 else -9
theorem mvO_cases (v : Int32) : mvO v = -9 ∨ ∃ z, z < 4 ∧ mvO v = nI z := by
  unfold mvO
  split
  · exact Or.inr ⟨0, by decide, rfl⟩
  · split
    · exact Or.inr ⟨1, by decide, rfl⟩
    · split
      · exact Or.inr ⟨2, by decide, rfl⟩
      · split
        · exact Or.inr ⟨3, by decide, rfl⟩
        · exact Or.inl rfl
def plF (j : Nat) (h : Hp) (c z : Nat) : Int32 := if c = 68 ∧ z = 9 then 0 else if c = 76 ∧ z < j then 0 else h.1 c z
theorem p_plain (h : Hp) : Ok (f_X8_plain h) (fun h' => (∀ c z, h'.1 c z = plF 24 h c z) ∧ h'.2 = h.2) := by
  unfold f_X8_plain
  rw [nm_eq]
  refine ok_fx2 (fun m h1 x => ∃ j, x = nI j ∧ j + m = 24 ∧ (∀ c z, h1.1 c z = plF j h c z) ∧ h1.2 = h.2) 24 (by decide) ⟨0, rfl, rfl, fun c z => by
    rw [uf_get]; unfold plF
    by_cases q : c = 68 ∧ z = 9
    · rw [if_pos q, if_pos q]
    · rw [if_neg q, if_neg q, if_neg (by omega)], rfl⟩ ?_
  rintro m self h1 x ⟨j, rfl, hj, h2, h3⟩ ih
  by_cases hm : m = 0
  · have e : j = 24 := by omega
    subst e
    rw [if_pos (by decide)]
    exact ok_some ⟨h2, h3⟩
  · have hj6 : j < 24 := by omega
    have j31 : j < 2 ^ 31 := by omega
    rw [if_neg ((show ∀ b, b < 24 → ¬ (24 : Int32) ≤ nI b by decide +kernel) j hj6)]
    simp only [ck_nI hj6 (show 24 < 2 ^ 31 by decide), nm_eq, ux_nI j31, show nI j + (1 : Int32) = nI (j + 1) from nI_1 j]
    refine ih (m - 1) _ _ (by omega) ⟨j + 1, rfl, by omega, fun c z => ?_, h3⟩
    rw [uf_get, h2]
    unfold plF
    by_cases q : c = 76 ∧ z = j
    · rw [if_pos q, if_neg (by omega), if_pos (by omega)]
    · rw [if_neg q]
      by_cases q1 : c = 68 ∧ z = 9
      · rw [if_pos q1, if_pos q1]
      · rw [if_neg q1, if_neg q1]
        by_cases q2 : c = 76 ∧ z < j
        · rw [if_pos q2, if_pos (by omega)]
        · rw [if_neg q2, if_neg (by omega)]
/-- where a routine is at fault -/
def rtF (sz : Nat) (w : Nat → Int32) : Option Nat := (List.range sz).find? (fun j => decide (mvO (w j) = -9))
def rtH (sz : Nat) (w : Nat → Int32) (h : Hp) (c z : Nat) : Int32 := match rtF sz w with
  | none => if c = 68 ∧ z = 9 then nI sz else if c = 76 ∧ z < 24 then (if z < sz then mvO (w z) else 0) else h.1 c z
  | some _ => if c = 68 ∧ z = 9 then 0 else if c = 76 ∧ z < 24 then 0 else h.1 c z
def rtR (sz : Nat) (w : Nat → Int32) : Int32 := match rtF sz w with
  | none => -1
  | some f => nI f
theorem p_readsRoutine {h : Hp} {sz : Nat} (hs : sz ≤ 24) (t : h.1 74 1 = nI sz) : Ok (f_X8_readsRoutine h) (fun u => u.2 = rtR sz (fun j => h.1 73 (24 + j)) ∧ (∀ c z, u.1.1 c z = rtH sz (fun j => h.1 73 (24 + j)) h c z) ∧ u.1.2 = h.2) := by
  unfold f_X8_readsRoutine
  refine ok_bdv (p_plain h) (fun h0 H0 => ?_)
  rw [lt1_eq]
  refine ok_fx2 (fun m h1 x => ∃ j, x = nI j ∧ j + m = sz ∧ (∀ k, k < j → mvO (h.1 73 (24 + k)) ≠ -9) ∧ (∀ c z, h1.1 c z = if c = 68 ∧ z = 9 then 0 else if c = 76 ∧ z < 24 then (if z < j then mvO (h.1 73 (24 + z)) else 0) else h.1 c z) ∧ h1.2 = h.2) sz (by omega) ⟨0, rfl, by omega, fun k hk => by omega, fun c z => ?_, H0.2⟩ ?_
  · rw [H0.1]; unfold plF
    simp
  rintro m self h1 x ⟨j, rfl, hj, hg, h2, h3⟩ ih
  have t1 : h1.1 74 1 = nI sz := by rw [h2]; simp [t]
  have t73 : ∀ z, h1.1 73 z = h.1 73 z := fun z => by rw [h2]; simp
  rw [t1]
  by_cases hm : m = 0
  · have e : j = sz := by omega
    subst e
    have en : rtF j (fun j => h.1 73 (24 + j)) = none := find_none (fun k hk => decide_eq_false (hg k hk))
    rw [if_pos (nI_le (Nat.le_refl _) (by omega))]
    dsimp only
    rw [nm_eq, t1]
    refine ok_some ⟨?_, fun c z => ?_, h3⟩
    · unfold rtR; rw [en]
    · unfold rtH; rw [en, uf_get, h2]
      by_cases q : c = 68 ∧ z = 9
      · rw [if_pos q]; exact (if_pos q).symm
      · rw [if_neg q, if_neg q]; exact (if_neg q).symm
  · have hjn : j < sz := by omega
    have hj6 : j < 24 := by omega
    have j31 : j < 2 ^ 31 := by omega
    have e24 : (24 : Int32) + nI j = nI (24 + j) := by rw [show (24 : Int32) = nI 24 from rfl, nI_add]
    have j48 : 24 + j < 48 := by omega
    have j4831 : 24 + j < 2 ^ 31 := by omega
    rw [if_neg (nI_ge hjn (by omega))]
    simp only [e24, ck_nI j48 (show 48 < 2 ^ 31 by decide), ck_nI hj6 (show 24 < 2 ^ 31 by decide), nm_eq, ia_nI j4831, ux_nI j31, t73, lt1_eq, show nI j + (1 : Int32) = nI (j + 1) from nI_1 j]
    have key : ∀ x7, x7 = mvO (h.1 73 (24 + j)) → Ok (if x7 = (-9 : Int32) then bdv (f_X8_plain h1) (fun h10 => some (h10, nI j)) else self (uf h1 76 j x7) (nI (j + 1))) (fun u => u.2 = rtR sz (fun j => h.1 73 (24 + j)) ∧ (∀ c z, u.1.1 c z = rtH sz (fun j => h.1 73 (24 + j)) h c z) ∧ u.1.2 = h.2) := by
      rintro x7 e7
      by_cases h9 : x7 = -9
      · rw [if_pos h9]
        refine ok_bdv (p_plain h1) (fun h10 H10 => ?_)
        have en : rtF sz (fun j => h.1 73 (24 + j)) = some j := find_some hjn (decide_eq_true (e7.symm.trans h9)) (fun k hk => decide_eq_false (hg k hk))
        refine ok_some ⟨?_, fun c z => ?_, H10.2.trans h3⟩
        · unfold rtR; rw [en]
        · show h10.1 c z = _
          unfold rtH; rw [en, H10.1]; unfold plF
          rw [h2]
          by_cases q : c = 68 ∧ z = 9
          · rw [if_pos q]; exact (if_pos q).symm
          · by_cases q2 : c = 76 ∧ z < 24
            · rw [if_neg q, if_pos q2]; exact ((if_neg q).trans (if_pos q2)).symm
            · rw [if_neg q, if_neg q2, if_neg q, if_neg q2]; exact ((if_neg q).trans (if_neg q2)).symm
      · rw [if_neg h9]
        refine ih (m - 1) _ _ (by omega) ⟨j + 1, rfl, by omega, fun k hk => ?_, fun c z => ?_, h3⟩
        · by_cases e : k = j
          · rw [e, ← e7]; exact h9
          · exact hg k (by omega)
        · rw [uf_get, h2]
          by_cases q : c = 68 ∧ z = 9
          · rw [if_neg (by omega), if_pos q, if_pos q]
          · rw [if_neg q, if_neg q]
            by_cases q2 : c = 76 ∧ z < 24
            · rw [if_pos q2, if_pos q2]
              by_cases q3 : z = j
              · rw [if_pos ⟨q2.1, q3⟩, if_pos (by omega), e7, q3]
              · rw [if_neg (by omega)]
                by_cases q4 : z < j
                · rw [if_pos q4, if_pos (by omega)]
                · rw [if_neg q4, if_neg (by omega)]
            · rw [if_neg (by omega), if_neg q2, if_neg q2]
    by_cases c1 : h.1 73 (24 + j) = 102
    · rw [if_pos c1]; exact key 0 (by simp [mvO, c1])
    rw [if_neg c1]
    by_cases c2 : h.1 73 (24 + j) = 119
    · rw [if_pos c2]; exact key 1 (by simp [mvO, c2])
    rw [if_neg c2]
    by_cases c3 : h.1 73 (24 + j) = 108
    · rw [if_pos c3]; exact key 2 (by simp [mvO, c3])
    rw [if_neg c3]
    by_cases c4 : h.1 73 (24 + j) = 114
    · rw [if_pos c4]; exact key 3 (by simp [mvO, c4])
    rw [if_neg c4]
    exact key (-9) (by simp [mvO, c1, c2, c3, c4])
