def RM (i : Inp) (h : Hp) (ws : Nat → WS) (steps : Int32) : Prop := (∀ k, k < iN i → h.1 79 k = wst (ws k) ∧ h.1 80 k = wpl (ws k) ∧ h.1 81 k = wle (ws k) ∧ h.1 82 k = wpo (ws k) ∧ h.1 83 k = nI (wow (ws k)) ∧ h.1 84 k = wen (ws k) ∧ h.1 85 k = wbl (ws k) ∧ h.1 86 k = wfa (ws k)) ∧ h.1 68 27 = steps
def KM (h h' : Hp) : Prop := (∀ c, (c < 79 ∨ 91 ≤ c) → c ≠ 68 → h'.1 c = h.1 c) ∧ (∀ z, z ≠ 27 → z ≠ 28 → h'.1 68 z = h.1 68 z) ∧ h'.2 = h.2
theorem km_tm {i : Inp} {h h' : Hp} (K : KM h h') (T : TM i h) : TM i h' := by
  obtain ⟨k1, k2, k3⟩ := K
  obtain ⟨t1, t2, t3, t4, t5, t6, t7, t8, t9⟩ := T
  have e75 := k1 75 (by decide) (by decide)
  have e76 := k1 76 (by decide) (by decide)
  have e77 := k1 77 (by decide) (by decide)
  have e78 := k1 78 (by decide) (by decide)
  refine ⟨?_, ?_, ?_, ?_, ?_, ?_, ?_, ?_, ?_⟩
  · rw [k2 7 (by decide) (by decide)]; exact t1
  · rw [k2 12 (by decide) (by decide)]; exact t2
  · rw [e77]; exact t3
  · rw [e77]; exact t4
  · rw [e77]; exact t5
  · rw [k2 14 (by decide) (by decide)]; exact t6
  · rw [e75]; exact t7
  · rw [e76]; exact t8
  · rw [e78]; exact t9
theorem km_tr {h h1 h2 : Hp} (a : KM h h1) (b : KM h1 h2) : KM h h2 :=
  ⟨fun c q r => (b.1 c q r).trans (a.1 c q r), fun z q r => (b.2.1 z q r).trans (a.2.1 z q r), b.2.2.trans a.2.2⟩
theorem fa_line {i : Inp} {b : Nat} {m steps : Int32} {ws : Nat → WS} {line : List Nat} (P : PI i b ws line) {k : Nat} (hk : k < iN i) : wfa ((lnF i b m ws steps line).1 k) = jmax (wfa (ws k)) (jabs (wle ((lnF i b m ws steps line).1 k))) := by
  obtain ⟨-, -, d3, -, -, -, d7⟩ := drop_same i b ws k
  rcases line_pt i b (cheerN i b (iNe i)) (gustN i b (iNe i) + swayF i b m) line (dropF i b ws, steps, 1000) P.1.1 k with q | ⟨q1, q2, a, q3⟩
  · unfold lnF
    rw [q.1]
    show wfa (dropF i b ws k) = jmax (wfa (ws k)) (jabs (wle (dropF i b ws k)))
    rw [d3, d7]; exact (P.2.2.2.1 k hk).symm
  · unfold lnF
    rw [q3, step_fa]
    show jmax (wfa (dropF i b ws k)) _ = _
    rw [d7]
theorem sway_eq {i : Inp} {b : Nat} {m : Int32} (hb : b < 24) : (if nI b - nI b / (2 : Int32) * (2 : Int32) = 0 then (if m = 0 then (0 : Int32) else iSla i / 2) else 0 - (if m = 0 then (0 : Int32) else iSla i / 2)) = swayF i b m := by
  have h := (show ∀ b, b < 24 → ((nI b - nI b / (2 : Int32) * (2 : Int32) = 0) ↔ b % 2 = 0) by decide +kernel) b hb
  unfold swayF
  by_cases hm : m = 0
  · simp only [if_pos hm]
    split <;> decide
  · simp only [if_neg hm]
    by_cases hq : b % 2 = 0
    · rw [if_pos hq, if_pos (h.mpr hq)]
    · rw [if_neg hq, if_neg (fun q => hq (h.mp q))]
/-- whether the beginning of the wire is free -/
theorem free_iff {i : Inp} {b : Nat} {h0 h : Hp} {push : Int32} {s : (Nat → WS) × Int32 × Int32} (R : RS i h0 h push s []) (S : SC i b s []) : freeH (iN i) h ↔ ¬ s.2.2 ≤ 0 := by
  obtain ⟨⟨a, ha, ea, -, a2, a3⟩, -, -, -, wo⟩ := S
  constructor
  · intro f hle
    have ha0 : a = 0 := by
      rw [ea] at hle
      exact (show ∀ a, a < 1001 → nI a ≤ 0 → a = 0 by decide +kernel) a (by omega) hle
    rcases a3 with q | ⟨k, q1, q2, -, q4⟩
    · omega
    · have r := R.1 k q1
      have w := (wo k q1 q2).1
      exact f k q1 ⟨r.1.trans q2, r.2.1.trans (by rw [w, q4, ha0]; rfl)⟩
  · intro hle k hk q
    have r := R.1 k hk
    have on : wst (s.1 k) = 1 := r.1.symm.trans q.1
    have hz : wpl (s.1 k) = 0 := r.2.1.symm.trans q.2
    have hp : pn (s.1 k) = 0 := by unfold pn; rw [hz]; rfl
    have := a2 k hk on List.not_mem_nil
    have ha0 : a = 0 := by omega
    exact hle (by rw [ea, ha0]; decide)
