/-! the class reads its routine -/
theorem moveOf_eq (v : Int32) : f_X4_moveOf v = some (if mvO v = -9 then -1 else mvO v) := by
  unfold f_X4_moveOf mvO
  by_cases c1 : v = 102
  · rw [if_pos c1, if_pos c1]; rfl
  rw [if_neg c1, if_neg c1]
  by_cases c3 : v = 108
  · have c2 : ¬ v = 119 := by rw [c3]; decide
    rw [if_pos c3, if_neg c2, if_pos c3]; rfl
  rw [if_neg c3]
  by_cases c4 : v = 114
  · have c2 : ¬ v = 119 := by rw [c4]; decide
    rw [if_pos c4, if_neg c2, if_neg c3, if_pos c4]; rfl
  rw [if_neg c4]
  by_cases c2 : v = 119
  · rw [if_pos c2, if_pos c2]; rfl
  rw [if_neg c2, if_neg c2, if_neg c3, if_neg c4]; rfl
theorem mvO_m1 (v : Int32) : (if mvO v = -9 then (-1 : Int32) else mvO v) = -1 ↔ mvO v = -9 := by
  rcases mvO_cases v with h | ⟨z, hz, h⟩
  · rw [if_pos h]; exact ⟨fun _ => h, fun _ => rfl⟩
  · have n1 : ¬ nI z = -9 := (show ∀ z, z < 4 → ¬ nI z = -9 by decide +kernel) z hz
    have n2 : ¬ nI z = -1 := (show ∀ z, z < 4 → ¬ nI z = -1 by decide +kernel) z hz
    rw [h, if_neg n1]
    exact ⟨fun q => absurd q n2, fun q => absurd q n1⟩
theorem byteAt_eq {h : Hp} {S sz j : Nat} (hs : h.1 S 1 = nI sz) (hj : j < sz) (hl : sz ≤ sl (S + 1)) (hl2 : sl (S + 1) ≤ 24) : f_X4_byteAt h S (nI j) = some (h.1 (S + 1) j) := by
  unfold f_X4_byteAt
  have n0 : ¬ nI j < 0 := (show ∀ j, j < 24 → ¬ nI j < 0 by decide +kernel) j (by omega)
  rw [if_neg n0, hs, if_neg (nI_ge hj (by omega)), if_neg (nI_ge (show j < sl (S + 1) by omega) (by omega)), ck_nI (by omega) (by omega), ia_nI (by omega)]
theorem p_faultOfRoutine {h : Hp} {sz : Nat} (hs : sz ≤ 24) (t : h.1 3 1 = nI sz) : Ok (f_X4_faultOfRoutine h 3) (fun x => x = rtR sz (h.1 4)) := by
  unfold f_X4_faultOfRoutine
  refine ok_fx1 (fun m x => ∃ j, x = nI j ∧ j + m = sz ∧ ∀ k, k < j → mvO (h.1 4 k) ≠ -9) sz (by omega) ⟨0, rfl, by omega, fun k hk => by omega⟩ ?_
  rintro m self x ⟨j, rfl, hj, hg⟩ ih
  rw [t]
  by_cases hm : m = 0
  · have e : j = sz := by omega
    subst e
    have en : rtF j (h.1 4) = none := find_none (fun k hk => decide_eq_false (hg k hk))
    rw [if_pos (nI_le (Nat.le_refl _) (by omega))]
    exact ok_some (by unfold rtR; rw [en])
  · have hjn : j < sz := by omega
    rw [if_neg (nI_ge hjn (by omega)), byteAt_eq t hjn hs (by decide), bdr_some, moveOf_eq, bdr_some]
    by_cases h9 : mvO (h.1 4 j) = -9
    · rw [if_pos ((mvO_m1 _).mpr h9)]
      have en : rtF sz (h.1 4) = some j := find_some hjn (decide_eq_true h9) (fun k hk => decide_eq_false (hg k hk))
      exact ok_some (by unfold rtR; rw [en])
    · rw [if_neg (fun q => h9 ((mvO_m1 _).mp q)), nm_eq, show nI j + (1 : Int32) = nI (j + 1) from nI_1 j]
      refine ih (m - 1) _ (by omega) ⟨j + 1, rfl, by omega, fun k hk => ?_⟩
      by_cases e : k = j
      · rw [e]; exact h9
      · exact hg k (by omega)
/-- what is told of the routine -/
def rtV (sz : Nat) (w : Nat → Int32) (z : Nat) : Int32 := if rtF sz w = none then (if z < sz then mvO (w z) else 0) else 0
theorem rtR_m1 {sz : Nat} {w : Nat → Int32} (hs : sz ≤ 24) : rtR sz w = -1 ↔ rtF sz w = none := by
  unfold rtR
  cases e : rtF sz w with
  | none => exact ⟨fun _ => rfl, fun _ => rfl⟩
  | some f =>
    have hf : f < sz := List.mem_range.mp (List.mem_of_find?_eq_some e)
    exact ⟨fun q => absurd q ((show ∀ z, z < 24 → ¬ nI z = -1 by decide +kernel) f (by omega)), fun q => absurd q (by simp)⟩
theorem rt_good {sz : Nat} {w : Nat → Int32} (e : rtF sz w = none) {z : Nat} (hz : z < sz) : mvO (w z) ≠ -9 := by
  have := List.find?_eq_none.mp e z (List.mem_range.mpr hz)
  exact fun q => this (decide_eq_true q)
theorem p_takeRoutine {h : Hp} {sz : Nat} (hs : sz ≤ 24) (t : h.1 3 1 = nI sz) : Ok (f_X5_takeRoutine h) (fun h' => (∀ c z, h'.1 c z = if c = 9 ∧ z < 24 then rtV sz (h.1 4) z else h.1 c z) ∧ h'.2 = h.2) := by
  unfold f_X5_takeRoutine
  refine ok_bdr (p_faultOfRoutine hs t) (fun x1 hx => ?_)
  rw [lt1_if]
  refine ok_fx2 (fun m h1 x => ∃ j, x = nI j ∧ j + m = 24 ∧ (∀ c z, h1.1 c z = if c = 9 ∧ z < j then rtV sz (h.1 4) z else h.1 c z) ∧ h1.2 = h.2) 24 (by decide) ⟨0, rfl, rfl, fun c z => by rw [if_neg (by omega)], rfl⟩ ?_
  rintro m self h1 x ⟨j, rfl, hj, h2, h3⟩ ih
  by_cases hm : m = 0
  · have e : j = 24 := by omega
    subst e
    rw [if_pos (by decide)]
    exact ok_some ⟨h2, h3⟩
  · have hj6 : j < 24 := by omega
    have j31 : j < 2 ^ 31 := by omega
    have t1 : h1.1 3 1 = nI sz := by rw [h2, if_neg (by omega)]; exact t
    have t4 : h1.1 4 j = h.1 4 j := by rw [h2, if_neg (by omega)]
    have key : ∀ v, v = rtV sz (h.1 4) j → Ok (self (uf h1 9 j v) (nI (j + 1))) (fun h' => (∀ c z, h'.1 c z = if c = 9 ∧ z < 24 then rtV sz (h.1 4) z else h.1 c z) ∧ h'.2 = h.2) := by
      intro v hv
      refine ih (m - 1) _ _ (by omega) ⟨j + 1, rfl, by omega, fun c z => ?_, h3⟩
      rw [uf_get, h2]
      by_cases q : c = 9 ∧ z = j
      · rw [if_pos q, if_pos (by omega), hv, q.2]
      · rw [if_neg q]
        by_cases q2 : c = 9 ∧ z < j
        · rw [if_pos q2, if_pos (by omega)]
        · rw [if_neg q2, if_neg (by omega)]
    rw [if_neg ((show ∀ b, b < 24 → ¬ (24 : Int32) ≤ nI b by decide +kernel) j hj6)]
    simp only [lt1_eq, ck_nI hj6 (show 24 < 2 ^ 31 by decide), nm_eq, ux_nI j31, show nI j + (1 : Int32) = nI (j + 1) from nI_1 j, t1]
    by_cases hn : rtF sz (h.1 4) = none
    · have e1 : x1 = -1 := hx.trans ((rtR_m1 hs).mpr hn)
      rw [if_pos e1, if_neg (by decide)]
      by_cases hz : j < sz
      · rw [if_neg (nI_ge hz (by omega)), byteAt_eq t1 hz hs (by decide), bdr_some, moveOf_eq, bdr_some]
        rw [show h1.1 (3 + 1) j = h.1 4 j from t4, if_neg (rt_good hn hz)]
        exact key _ (by unfold rtV; rw [if_pos hn, if_pos hz])
      · rw [if_pos (nI_le (by omega) (by omega))]
        exact key _ (by unfold rtV; rw [if_pos hn, if_neg hz])
    · have e1 : ¬ x1 = -1 := fun q => hn ((rtR_m1 hs).mp (hx.symm.trans q))
      rw [if_neg e1, if_pos rfl]
      exact key _ (by unfold rtV; rw [if_neg hn])
