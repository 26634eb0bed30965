def freeH (n : Nat) (h : Hp) : Prop := ∀ k, k < n → ¬ (h.1 79 k = 1 ∧ h.1 80 k = 0)
def stH (i : Inp) (b : Nat) (ws : Nat → WS) (h h' : Hp) : Prop := (∃ k, k < iN i ∧ startF i b ws = some k ∧ freeH (iN i) h ∧ h' = uf (uf h 79 k 1) 80 k 0) ∨ ((freeH (iN i) h → startF i b ws = none) ∧ h' = h)
theorem rdy_iff {i : Inp} {b k : Nat} {ws : Nat → WS} : readyF i b ws k = true ↔ wst (ws k) = 0 ∧ ¬ nI b < iSt i k := by
  unfold readyF; exact decide_eq_true_iff
theorem rdy_no {i : Inp} {b k : Nat} {ws : Nat → WS} (h : ¬ (wst (ws k) = 0 ∧ ¬ nI b < iSt i k)) : readyF i b ws k = false := by
  unfold readyF; exact decide_eq_false h
set_option maxHeartbeats 1000000 in
theorem p_st {i : Inp} {h : Hp} {b : Nat} {ws : Nat → WS} {P : Hp → Prop} {k4 : Hp → Option Hp} (hN : iN i ≤ 6) (hb : b < 24) (t : h.1 68 7 = nI (iN i)) (t75 : ∀ k, k < iN i → h.1 75 (3 * k) = iSt i k) (e79 : ∀ k, k < iN i → h.1 79 k = wst (ws k)) (hk4 : ∀ h', stH i b ws h h' → Ok (k4 h') P) :
    Ok (fx2 FU (fun s6 (h17 : Hp) (x18 : Int32) =>
            if (h17.1 68 7) ≤ x18 then (
              k4 h17)
            else (
              ck x18 6 (
                lt1 (fun (h19 : Hp) =>
                  nm (x18 + (1 : Int32)) fun x20 =>
                  s6 h19 x20) fun k7 =>
                if (ia h17 79 x18) = 0 then (
                  ck ((3 : Int32) * x18) 18 (
                    if nI b < (ia h17 75 ((3 : Int32) * x18)) then (
                      k7 h17)
                    else (
                      bdr (f_X8_whoAt h17 (0 : Int32)) fun x21 =>
                      if x21 = (-1 : Int32) then (
                        ck x18 6 (nm (ux h17 79 x18 (1 : Int32)) fun h22 =>
                        ck x18 6 (nm (ux h22 80 x18 (0 : Int32)) fun h23 =>
                        k7 h23)))
                      else (
                        k7 h17))))
                else (
                  k7 h17)))) h (0 : Int32)) P := by
  refine ok_fx2 (fun m h1 x => ∃ j, x = nI j ∧ j + m = iN i ∧ ((∃ k, k < j ∧ readyF i b ws k = true ∧ (∀ k', k' < k → readyF i b ws k' = false) ∧ freeH (iN i) h ∧ h1 = uf (uf h 79 k 1) 80 k 0) ∨ ((freeH (iN i) h → ∀ k, k < j → readyF i b ws k = false) ∧ h1 = h))) (iN i) (by omega) ⟨0, rfl, by omega, Or.inr ⟨fun _ k hk => by omega, rfl⟩⟩ ?_
  rintro m self h1 x ⟨j, rfl, hj, hh⟩ ih
  have t1 : h1.1 68 7 = nI (iN i) := by
    rcases hh with ⟨k, -, -, -, -, e⟩ | ⟨-, e⟩
    · rw [e, uf_ne (by decide), uf_ne (by decide)]; exact t
    · rw [e]; exact t
  rw [t1]
  by_cases hm : m = 0
  · have e : j = iN i := by omega
    rw [if_pos (nI_le (by omega) (by omega))]
    refine hk4 h1 ?_
    rcases hh with ⟨k, q1, q2, q3, q4, q5⟩ | ⟨q1, q2⟩
    · exact Or.inl ⟨k, by omega, find_some (by omega) q2 q3, q4, q5⟩
    · exact Or.inr ⟨fun f => find_none (fun k hk => q1 f k (by omega)), q2⟩
  have hjn : j < iN i := by omega
  have hj6 : j < 6 := by omega
  have j31 : j < 2 ^ 31 := by omega
  have j3 : 3 * j < 18 := by omega
  have j331 : 3 * j < 2 ^ 31 := by omega
  rw [if_neg (nI_ge hjn (by omega))]
  simp only [lt1_eq, ck_nI hj6 (show 6 < 2 ^ 31 by decide), t30, ck_nI j3 (show 18 < 2 ^ 31 by decide), nm_eq, ia_nI j31, ia_nI j331, ux_nI j31, show nI j + (1 : Int32) = nI (j + 1) from nI_1 j]
  rcases hh with ⟨k, q1, q2, q3, q4, q5⟩ | ⟨q1, q2⟩
  · have nx : Ok (self h1 (nI (j + 1))) P := ih (m - 1) _ _ (by omega) ⟨j + 1, rfl, by omega, Or.inl ⟨k, by omega, q2, q3, q4, q5⟩⟩
    refine ok_ite (fun _ => ok_ite (fun _ => nx) (fun _ => ok_bdr (p_whoAt hN t1) (fun x21 hx => ?_))) (fun _ => nx)
    rw [if_neg (fun q => ?_)]
    · exact nx
    · refine hx.mp q k (by omega) ?_
      rw [q5]
      simp [uf_get]
  · subst q2
    have nx : (freeH (iN i) h1 → readyF i b ws j = false) → Ok (self h1 (nI (j + 1))) P := fun hr => ih (m - 1) _ _ (by omega) ⟨j + 1, rfl, by omega, Or.inr ⟨fun f k hk => by
      by_cases e : k = j
      · rw [e]; exact hr f
      · exact q1 f k (by omega), rfl⟩⟩
    rw [e79 j hjn, t75 j hjn]
    by_cases h0 : wst (ws j) = 0
    · rw [if_pos h0]
      by_cases hs : nI b < iSt i j
      · rw [if_pos hs]
        exact nx (fun _ => rdy_no (fun q => q.2 hs))
      · rw [if_neg hs]
        refine ok_bdr (p_whoAt hN t1) (fun x21 hx => ?_)
        by_cases hq : x21 = -1
        · rw [if_pos hq]
          exact ih (m - 1) _ _ (by omega) ⟨j + 1, rfl, by omega, Or.inl ⟨j, by omega, rdy_iff.mpr ⟨h0, hs⟩, fun k' hk' => q1 (hx.mp hq) k' hk', hx.mp hq, rfl⟩⟩
        · rw [if_neg hq]
          exact nx (fun f => absurd (hx.mpr f) hq)
    · rw [if_neg h0]
      exact nx (fun _ => rdy_no (fun q => h0 q.1))
