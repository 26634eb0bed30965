/-- behind the reference's reading of its walkers -/
def wkH (sz : Nat) (w : Nat → Int32) (h h' : Hp) : Prop := h'.1 68 7 = (if wkR sz w = -1 then nI ((sz + 1) / 4) else 0) ∧ (∀ c, c ≠ 68 → c ≠ 75 → h'.1 c = h.1 c) ∧ (∀ z, z ≠ 7 → h'.1 68 z = h.1 68 z) ∧ h'.2 = h.2 ∧ (wkR sz w = -1 → ∀ k, k < sz → k % 4 < 3 → h'.1 75 (3 * (k / 4) + k % 4) = wkO (k % 4) (w k))
set_option maxHeartbeats 1000000 in
theorem p_readsWalkers {h : Hp} {sz : Nat} (hs : sz ≤ 23) (t : h.1 74 0 = nI sz) : Ok (f_X8_readsWalkers h) (fun u => u.2 = wkR sz (h.1 73) ∧ wkH sz (h.1 73) h u.1) := by
  unfold f_X8_readsWalkers
  simp only [nm_eq]
  rw [uf_ne (show 74 ≠ 68 by decide), t, lt1_eq]
  refine ok_fx2 (fun m h1 x => ∃ j, x = nI j ∧ j + m = sz ∧ (∀ k, k < j → wkO (k % 4) (h.1 73 k) ≠ -9) ∧ h1.1 68 7 = nI ((j + 1) / 4) ∧ (∀ c, c ≠ 68 → c ≠ 75 → h1.1 c = h.1 c) ∧ (∀ z, z ≠ 7 → h1.1 68 z = h.1 68 z) ∧ h1.2 = h.2 ∧ ∀ k, k < j → k % 4 < 3 → h1.1 75 (3 * (k / 4) + k % 4) = wkO (k % 4) (h.1 73 k)) sz (by omega) ⟨0, rfl, by omega, fun k hk => by omega, by simp [uf_get]; rfl, fun c c1 _ => uf_ne c1, fun z hz => by simp [uf_get, hz], rfl, fun k hk => by omega⟩ ?_
  rintro m self h1 x ⟨j, rfl, hj, hg, g1, g2, g3, g4, g5⟩ ih
  by_cases hm : m = 0
  · have e : j = sz := by omega
    subst e
    have en : wkF j (h.1 73) = none := find_none (fun k hk => decide_eq_false (hg k hk))
    rw [if_pos (nI_le (Nat.le_refl _) (by omega))]
    dsimp only
    rw [mod4 (by omega)]
    have good : wkR j (h.1 73) = -1 → wkH j (h.1 73) h h1 := fun e => ⟨by rw [if_pos e]; exact g1, g2, g3, g4, fun _ => g5⟩
    by_cases h0 : j = 0
    · have er : wkR j (h.1 73) = -1 := by unfold wkR; rw [en]; exact if_pos h0
      rw [if_pos (show nI j ≤ 0 by rw [h0]; decide)]
      exact ok_some ⟨er.symm, good er⟩
    · rw [if_neg (nI_nle (by omega) (by omega))]
      by_cases h3 : j % 4 = 3
      · have er : wkR j (h.1 73) = -1 := by unfold wkR; rw [en]; exact (if_neg h0).trans (if_pos h3)
        rw [if_pos (show nI (j % 4) = 3 by rw [h3]; rfl)]
        exact ok_some ⟨er.symm, good er⟩
      · have er : wkR j (h.1 73) = nI j := by unfold wkR; rw [en]; exact (if_neg h0).trans (if_neg h3)
        have ne : ¬ nI j = -1 := (show ∀ z, z < 24 → ¬ nI z = -1 by decide +kernel) j (by omega)
        rw [if_neg (show ¬ nI (j % 4) = 3 from fun q => h3 ((nI_eq (by omega) (by decide)).mp (show nI (j % 4) = nI 3 from q)))]
        refine ok_some ⟨er.symm, ?_, fun c c1 c2 => ?_, fun z hz => ?_, g4, fun q => ?_⟩
        · rw [er, if_neg ne, uf_get, if_pos ⟨rfl, rfl⟩]
        · rw [uf_ne c1]; exact g2 c c1 c2
        · rw [uf_get, if_neg (by omega)]; exact g3 z hz
        · exact absurd (er.symm.trans q) ne
  · have hjn : j < sz := by omega
    have j48 : j < 48 := by omega
    have j31 : j < 2 ^ 31 := by omega
    have hq : j % 4 < 4 := Nat.mod_lt _ (by decide)
    have e75 : (3 : Int32) * (nI j / (4 : Int32)) + nI (j % 4) = nI (3 * (j / 4) + j % 4) := (show ∀ j, j < 25 → (3 : Int32) * (nI j / (4 : Int32)) + nI (j % 4) = nI (3 * (j / 4) + j % 4) by decide +kernel) j (by omega)
    rw [if_neg (nI_ge hjn (by omega))]
    simp only [mod4 (show j < 25 by omega), ck_nI j48 (show 48 < 2 ^ 31 by decide), ia_nI j31, e75, show nI j + (1 : Int32) = nI (j + 1) from nI_1 j]
    rw [g2 73 (by decide) (by decide), walkerOf_eq hq, bdr_some]
    by_cases h9 : wkO (j % 4) (h.1 73 j) = -9
    · rw [if_pos h9]
      have en : wkF sz (h.1 73) = some j := find_some hjn (decide_eq_true h9) (fun k hk => decide_eq_false (hg k hk))
      have er : wkR sz (h.1 73) = nI j := by unfold wkR; rw [en]
      have ne : ¬ nI j = -1 := (show ∀ z, z < 24 → ¬ nI z = -1 by decide +kernel) j (by omega)
      refine ok_some ⟨er.symm, ?_, fun c c1 c2 => ?_, fun z hz => ?_, g4, fun q => ?_⟩
      · rw [er, if_neg ne, uf_get, if_pos ⟨rfl, rfl⟩]
      · rw [uf_ne c1]; exact g2 c c1 c2
      · rw [uf_get, if_neg (by omega)]; exact g3 z hz
      · exact absurd (er.symm.trans q) ne
    · rw [if_neg h9]
      have hg' : ∀ k, k < j + 1 → wkO (k % 4) (h.1 73 k) ≠ -9 := fun k hk => by
        by_cases e : k = j
        · rw [e]; exact h9
        · exact hg k (by omega)
      simp only [lt1_eq]
      by_cases h3 : j % 4 = 3
      · rw [if_pos (show (3 : Int32) ≤ nI (j % 4) by rw [h3]; decide), if_neg (show ¬ nI (j % 4) = 2 by rw [h3]; decide)]
        refine ih (m - 1) _ _ (by omega) ⟨j + 1, rfl, by omega, hg', ?_, fun c c1 c2 => ?_, fun z hz => ?_, g4, fun k hk hk3 => ?_⟩
        · rw [uf_get, if_pos ⟨rfl, rfl⟩, g1, show (0 : Int32) = nI 0 from rfl, nI_add, show (j + 1) / 4 + 0 = (j + 1 + 1) / 4 by omega]
        · rw [uf_ne c1]; exact g2 c c1 c2
        · rw [uf_get, if_neg (by omega)]; exact g3 z hz
        · rw [uf_ne (by decide)]
          exact g5 k (by omega) hk3
      · have p18 : 3 * (j / 4) + j % 4 < 18 := by omega
        have g5' : ∀ (h2 : Hp), h2.1 75 = (uf h1 75 (3 * (j / 4) + j % 4) (wkO (j % 4) (h.1 73 j))).1 75 → ∀ k, k < j + 1 → k % 4 < 3 → h2.1 75 (3 * (k / 4) + k % 4) = wkO (k % 4) (h.1 73 k) := by
          intro h2 e2 k hk hk3
          rw [e2, uf_get]
          by_cases e : k = j
          · rw [if_pos ⟨rfl, by rw [e]⟩, e]
          · rw [if_neg (by omega)]; exact g5 k (by omega) hk3
        rw [if_neg (show ¬ (3 : Int32) ≤ nI (j % 4) from nI_ge (b := 3) (by omega) (by decide)), ck_nI p18 (by decide), ux_nI (by omega)]
        by_cases h2 : j % 4 = 2
        · rw [if_pos (show nI (j % 4) = 2 by rw [h2]; rfl)]
          refine ih (m - 1) _ _ (by omega) ⟨j + 1, rfl, by omega, hg', ?_, fun c c1 c2 => ?_, fun z hz => ?_, g4, g5' _ (uf_ne (by decide))⟩
          · rw [uf_get, if_pos ⟨rfl, rfl⟩, uf_ne (by decide), g1, nI_1, show (j + 1) / 4 + 1 = (j + 1 + 1) / 4 by omega]
          · rw [uf_ne c1, uf_ne c2]; exact g2 c c1 c2
          · rw [uf_get, if_neg (by omega), uf_ne (by decide)]; exact g3 z hz
        · rw [if_neg (show ¬ nI (j % 4) = 2 from fun q => h2 ((nI_eq (by omega) (by decide)).mp (show nI (j % 4) = nI 2 from q)))]
          refine ih (m - 1) _ _ (by omega) ⟨j + 1, rfl, by omega, hg', ?_, fun c c1 c2 => ?_, fun z hz => ?_, g4, g5' _ (uf_ne (by decide))⟩
          · rw [uf_get, if_pos ⟨rfl, rfl⟩, uf_ne (by decide), g1, show (0 : Int32) = nI 0 from rfl, nI_add, show (j + 1) / 4 + 0 = (j + 1 + 1) / 4 by omega]
          · rw [uf_ne c1, uf_ne c2]; exact g2 c c1 c2
          · rw [uf_get, if_neg (by omega), uf_ne (by decide)]; exact g3 z hz
