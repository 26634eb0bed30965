def tkH (sz : Nat) (w : Nat → Int32) (h h' : Hp) : Prop := h'.1 5 7 = (if wkR sz w = -1 then nI ((sz + 1) / 4) else 0) ∧ (∀ c, c ≠ 5 → c ≠ 6 → c ≠ 7 → c ≠ 8 → h'.1 c = h.1 c) ∧ (∀ z, z ≠ 7 → h'.1 5 z = h.1 5 z) ∧ h'.2 = h.2 ∧ (wkR sz w = -1 → ∀ k, k < (sz + 1) / 4 → h'.1 6 k = wkO 0 (w (4 * k)) ∧ h'.1 7 k = wkO 1 (w (4 * k + 1)) ∧ h'.1 8 k = wkO 2 (w (4 * k + 2)))
theorem rgO_ok {v : Int32} {lo hi : Nat} (h : rgO v lo hi ≠ -9) : v - nI lo = rgO v lo hi := by
  unfold rgO at h ⊢
  by_cases h1 : v < nI lo
  · rw [if_pos h1] at h; exact absurd rfl h
  · rw [if_neg h1] at h ⊢
    by_cases h2 : nI hi < v
    · rw [if_pos h2] at h; exact absurd rfl h
    · rw [if_neg h2]
theorem wk0_ok {v : Int32} (h : wkO 0 v ≠ -9) : v - 97 = wkO 0 v := by
  have e : wkO 0 v = rgO v 97 120 := by simp [wkO]
  rw [e] at h ⊢
  exact rgO_ok h
theorem wk2_ok {v : Int32} (h : wkO 2 v ≠ -9) : v - 48 = wkO 2 v := by
  have e : wkO 2 v = rgO v 48 57 := by simp [wkO]
  rw [e] at h ⊢
  exact rgO_ok h
theorem wk1_ok {v : Int32} (h : wkO 1 v ≠ -9) : (if soO v = -9 then (-1 : Int32) else soO v) = wkO 1 v := by
  have e : wkO 1 v = soO v := by simp [wkO]
  rw [e] at h ⊢
  exact if_neg h
theorem wkR_good {sz : Nat} {w : Nat → Int32} (hs : sz ≤ 23) (e : wkR sz w = -1) : (sz = 0 ∨ sz % 4 = 3) ∧ ∀ k, k < sz → wkO (k % 4) (w k) ≠ -9 := by
  unfold wkR at e
  cases en : wkF sz w with
  | none =>
    rw [en] at e
    refine ⟨?_, fun k hk q => ?_⟩
    · by_cases h0 : sz = 0
      · exact Or.inl h0
      · by_cases h3 : sz % 4 = 3
        · exact Or.inr h3
        · have : nI sz = -1 := ((if_neg h0).trans (if_neg h3)).symm.trans e
          exact absurd this ((show ∀ z, z < 24 → ¬ nI z = -1 by decide +kernel) sz (by omega))
    · exact List.find?_eq_none.mp en k (List.mem_range.mpr hk) (decide_eq_true q)
  | some f =>
    rw [en] at e
    have hf : f < sz := List.mem_range.mp (List.mem_of_find?_eq_some en)
    exact absurd e ((show ∀ z, z < 24 → ¬ nI z = -1 by decide +kernel) f (by omega))
