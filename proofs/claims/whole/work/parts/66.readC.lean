/-! walkers, letter by letter -/
theorem in_eq (a b c : Int32) : f_X8_in a.toInt64 b.toInt64 c.toInt64 = f_X7_within a b c := by
  have h1 : lg_cmp a.toInt64 b.toInt64 < 0 ↔ a < b := by
    rw [lg_cmp_lt, Int64.lt_iff_toInt_lt, Int32.lt_iff_toInt_lt, Int32.toInt_toInt64, Int32.toInt_toInt64]
  have h2 : 0 < lg_cmp a.toInt64 c.toInt64 ↔ c < a := by
    rw [lg_cmp_gt, Int64.lt_iff_toInt_lt, Int32.lt_iff_toInt_lt, Int32.toInt_toInt64, Int32.toInt_toInt64]
  unfold f_X8_in f_X7_within
  simp only [h1, h2]
def rgO (v : Int32) (lo hi : Nat) : Int32 := if v < nI lo then -9 else if nI hi < v then -9 else v - nI lo
theorem rgO_in {v : Int32} {lo hi : Nat} (hh : hi < 2 ^ 31) (hl : lo ≤ hi) (h1 : ¬ v < nI lo) (h2 : ¬ nI hi < v) : ∃ z, z ≤ hi - lo ∧ v - nI lo = nI z := by
  have h0 : ¬ v < 0 := fun q => h1 (by
    rw [Int32.lt_iff_toInt_lt] at q ⊢
    rw [nI_toInt (by omega)]
    have z : (0 : Int32).toInt = 0 := by decide
    omega)
  obtain ⟨j, hj, e⟩ := nI_of h0
  rw [e] at h1 h2 ⊢
  have g1 : lo ≤ j := Nat.le_of_not_lt (fun q => h1 (nI_lt q (by omega)))
  have g2 : j ≤ hi := Nat.le_of_not_lt (fun q => h2 (nI_lt q hj))
  exact ⟨j - lo, by omega, pk_sub g1⟩
def soO (v : Int32) : Int32 := if v = 115 then 0 else if v = 98 then 1 else if v = 111 then 2 else -9
def wkO (q : Nat) (v : Int32) : Int32 := if q = 0 then rgO v 97 120 else if q = 1 then soO v else if q = 2 then rgO v 48 57 else if v = 59 then 0 else -9
theorem rg_m {v : Int32} (lo hi : Nat) : (bdr (f_X7_within v (nI lo) (nI hi)) fun x1 => if x1 = 0 then some (-9 : Int32) else some (v - nI lo)) = some (rgO v lo hi) := by
  unfold f_X7_within rgO
  by_cases h1 : v < nI lo
  · rw [if_pos h1, if_pos h1]; rfl
  · rw [if_neg h1, if_neg h1]
    by_cases h2 : nI hi < v
    · rw [if_pos h2, if_pos h2]; rfl
    · rw [if_neg h2, if_neg h2]; rfl
theorem walkerOf_eq {q : Nat} (hq : q < 4) (v : Int32) : f_X8_walkerOf (nI q) v = some (wkO q v) := by
  have r1 := rg_m (v := v) 97 120
  have r2 := rg_m (v := v) 48 57
  rw [← in_eq] at r1 r2
  unfold f_X8_walkerOf
  rcases (show q = 0 ∨ q = 1 ∨ q = 2 ∨ q = 3 by omega) with rfl | rfl | rfl | rfl
  · rw [if_pos (show nI 0 = 0 from rfl)]; exact r1
  · rw [if_neg (show ¬ nI 1 = 0 by decide), if_pos (show nI 1 = 1 from rfl), show wkO 1 v = soO v from rfl]
    unfold soO
    by_cases c1 : v = 115
    · rw [if_pos c1, if_pos c1]
    by_cases c2 : v = 98
    · rw [if_neg c1, if_neg c1, if_pos c2, if_pos c2]
    by_cases c3 : v = 111
    · rw [if_neg c1, if_neg c1, if_neg c2, if_neg c2, if_pos c3, if_pos c3]
    rw [if_neg c1, if_neg c1, if_neg c2, if_neg c2, if_neg c3, if_neg c3]
  · rw [if_neg (show ¬ nI 2 = 0 by decide), if_neg (show ¬ nI 2 = 1 by decide), if_pos (show nI 2 = 2 from rfl)]
    exact r2
  · rw [if_neg (show ¬ nI 3 = 0 by decide), if_neg (show ¬ nI 3 = 1 by decide), if_neg (show ¬ nI 3 = 2 by decide), show wkO 3 v = (if v = 59 then 0 else -9) from rfl]
    by_cases c : v = 59
    · rw [if_pos c, if_pos c]
    · rw [if_neg c, if_neg c]
theorem within_rg {v : Int32} {lo hi : Nat} (hh : hi < 1000) (hl : lo ≤ hi) : f_X7_within v (nI lo) (nI hi) = some (if rgO v lo hi = -9 then 0 else 1) := by
  unfold f_X7_within
  by_cases h1 : v < nI lo
  · rw [if_pos h1, show rgO v lo hi = -9 by unfold rgO; rw [if_pos h1]]; rfl
  · by_cases h2 : nI hi < v
    · rw [if_neg h1, if_pos h2, show rgO v lo hi = -9 by unfold rgO; rw [if_neg h1, if_pos h2]]; rfl
    · obtain ⟨z, hz, e⟩ := rgO_in (by omega) hl h1 h2
      rw [if_neg h1, if_neg h2, show rgO v lo hi = nI z by unfold rgO; rw [if_neg h1, if_neg h2, e], if_neg ((show ∀ z, z < 1000 → ¬ nI z = -9 by decide +kernel) z (by omega))]
theorem sortOf_eq (v : Int32) : f_X4_sortOf v = some (if soO v = -9 then -1 else soO v) := by
  unfold f_X4_sortOf soO
  by_cases c1 : v = 98
  · have c2 : ¬ v = 115 := by rw [c1]; decide
    rw [if_pos c1, if_neg c2, if_pos c1]; rfl
  rw [if_neg c1]
  by_cases c3 : v = 111
  · have c2 : ¬ v = 115 := by rw [c3]; decide
    rw [if_pos c3, if_neg c2, if_neg c1, if_pos c3]; rfl
  rw [if_neg c3]
  by_cases c2 : v = 115
  · rw [if_pos c2, if_pos c2]; rfl
  rw [if_neg c2, if_neg c2, if_neg c1, if_neg c3]; rfl
theorem fits_eq {q : Nat} (hq : q < 4) (v : Int32) : f_X4_fitsWalkers (nI q) v = some (if wkO q v = -9 then 0 else 1) := by
  have r1 := within_rg (v := v) (lo := 97) (hi := 120) (by decide) (by decide)
  have r2 := within_rg (v := v) (lo := 48) (hi := 57) (by decide) (by decide)
  have cy1 : ∀ (c : Prop) [Decidable c], cy ((if c then (0 : Int32) else 1) = 0 ∨ (if c then (0 : Int32) else 1) = 1) (some (if c then (0 : Int32) else 1)) = some (if c then (0 : Int32) else 1) := by
    intro c _
    by_cases hc : c
    · simp only [if_pos hc]; rfl
    · simp only [if_neg hc]; rfl
  unfold f_X4_fitsWalkers
  rcases (show q = 0 ∨ q = 1 ∨ q = 2 ∨ q = 3 by omega) with rfl | rfl | rfl | rfl
  · rw [if_pos (show nI 0 = 0 from rfl), show f_X7_within v 97 120 = _ from r1, bdr_some]
    exact cy1 _
  · rw [if_neg (show ¬ nI 1 = 0 by decide), if_pos (show nI 1 = 1 from rfl), sortOf_eq, bdr_some, show wkO 1 v = soO v from rfl]
    unfold soO
    by_cases c1 : v = 115
    · simp only [if_pos c1]; rfl
    by_cases c2 : v = 98
    · simp only [if_neg c1, if_pos c2]; rfl
    by_cases c3 : v = 111
    · simp only [if_neg c1, if_neg c2, if_pos c3]; rfl
    simp only [if_neg c1, if_neg c2, if_neg c3]; rfl
  · rw [if_neg (show ¬ nI 2 = 0 by decide), if_neg (show ¬ nI 2 = 1 by decide), if_pos (show nI 2 = 2 from rfl), show f_X7_within v 48 57 = _ from r2, bdr_some]
    exact cy1 _
  · rw [if_neg (show ¬ nI 3 = 0 by decide), if_neg (show ¬ nI 3 = 1 by decide), if_neg (show ¬ nI 3 = 2 by decide), show wkO 3 v = (if v = 59 then 0 else -9) from rfl]
    by_cases c : v = 59
    · simp only [if_pos c]; rfl
    · simp only [if_neg c]; rfl
