/-! the walkers' text -/
def wkF (sz : Nat) (w : Nat → Int32) : Option Nat := (List.range sz).find? (fun j => decide (wkO (j % 4) (w j) = -9))
def wkR (sz : Nat) (w : Nat → Int32) : Int32 := match wkF sz w with
  | none => if sz = 0 then -1 else if sz % 4 = 3 then -1 else nI sz
  | some f => nI f
theorem mod4 {j : Nat} (hj : j < 25) : nI j - nI j / (4 : Int32) * (4 : Int32) = nI (j % 4) := (show ∀ j, j < 25 → nI j - nI j / (4 : Int32) * (4 : Int32) = nI (j % 4) by decide +kernel) j hj
theorem p_faultOfWalkers {h : Hp} {sz : Nat} (hs : sz ≤ 23) (t : h.1 1 1 = nI sz) : Ok (f_X4_faultOfWalkers h 1) (fun x => x = wkR sz (h.1 2)) := by
  unfold f_X4_faultOfWalkers
  rw [lt1_eq]
  refine ok_fx1 (fun m x => ∃ j, x = nI j ∧ j + m = sz ∧ ∀ k, k < j → wkO (k % 4) (h.1 2 k) ≠ -9) sz (by omega) ⟨0, rfl, by omega, fun k hk => by omega⟩ ?_
  rintro m self x ⟨j, rfl, hj, hg⟩ ih
  simp only [t]
  by_cases hm : m = 0
  · have e : j = sz := by omega
    subst e
    have en : wkF j (h.1 2) = none := find_none (fun k hk => decide_eq_false (hg k hk))
    rw [if_pos (nI_le (Nat.le_refl _) (by omega)), mod4 (by omega)]
    by_cases h0 : j = 0
    · rw [if_pos (by rw [h0]; rfl)]
      exact ok_some (by unfold wkR; rw [en]; exact (if_pos h0).symm)
    · rw [if_neg (nI_ne0 (by omega) (by omega))]
      by_cases h3 : j % 4 = 3
      · rw [if_pos (by rw [h3]; rfl)]
        exact ok_some (by unfold wkR; rw [en]; exact ((if_neg h0).trans (if_pos h3)).symm)
      · rw [if_neg (show ¬ nI (j % 4) = 3 from fun q => h3 ((nI_eq (by omega) (by decide)).mp (show nI (j % 4) = nI 3 from q)))]
        exact ok_some (by unfold wkR; rw [en]; exact ((if_neg h0).trans (if_neg h3)).symm)
  · have hjn : j < sz := by omega
    rw [if_neg (nI_ge hjn (by omega)), byteAt_eq t hjn hs (by decide), bdr_some, mod4 (by omega), fits_eq (Nat.mod_lt _ (by decide)), bdr_some]
    by_cases h9 : wkO (j % 4) (h.1 (1 + 1) j) = -9
    · rw [if_pos (if_pos h9)]
      have en : wkF sz (h.1 2) = some j := find_some hjn (decide_eq_true h9) (fun k hk => decide_eq_false (hg k hk))
      exact ok_some (by unfold wkR; rw [en])
    · rw [if_neg (by rw [if_neg h9]; decide), nm_eq, show nI j + (1 : Int32) = nI (j + 1) from nI_1 j]
      refine ih (m - 1) _ (by omega) ⟨j + 1, rfl, by omega, fun k hk => ?_⟩
      by_cases e : k = j
      · rw [e]; exact h9
      · exact hg k (by omega)
