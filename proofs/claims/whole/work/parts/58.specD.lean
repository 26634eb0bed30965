theorem stl_ne (i : Inp) (b : Nat) (pl l2 : Int32) (w : WS) (bl : Int32) : wst (stl i b pl l2 w bl) ≠ 0 := by
  rcases stl_st i b pl l2 w bl with q | q | q <;> rw [q] <;> decide
theorem bd_push {i : Inp} (hI : InOk i) (b : Nat) (m : Int32) : bd (gustN i b (iNe i) + swayF i b m) 28 := by
  have h1 := bd_gust i b (iNe i) hI.2.1
  have h2 := bd_sway hI b m
  have h3 : (iNe i : Int) ≤ 8 := by have := hI.2.1; omega
  exact bd_mo (bd_add h1 h2 (by omega)) (by omega)
def lnF (i : Inp) (b : Nat) (m : Int32) (ws : Nat → WS) (steps : Int32) (line : List Nat) : (Nat → WS) × Int32 × Int32 := lineF i b (cheerN i b (iNe i)) (gustN i b (iNe i) + swayF i b m) line (dropF i b ws, steps, 1000)
theorem line_PI {i : Inp} {b : Nat} {m steps : Int32} {ws : Nat → WS} {line : List Nat} (hI : InOk i) (P : PI i b ws line) : PI i (b + 1) (lnF i b m ws steps line).1 line ∧ SC i b (lnF i b m ws steps line) [] := by
  have S := pi_sc (steps := steps) hI P
  obtain ⟨si, pw, wo, fa, po, zz⟩ := P
  obtain ⟨c, hc, ec⟩ := cheer_01 i b (iNe i)
  have hp := bd_push hI b m
  have el : lnF i b m ws steps line = lineF i b (nI c) (gustN i b (iNe i) + swayF i b m) (line.filter (onB (dropF i b ws))) (dropF i b ws, steps, 1000) := by
    unfold lnF
    rw [ec, line_filter i b (nI c) _ line _ si.1]
  have D := line_dec hI hc hp _ _ S
  rw [← el] at D
  have pt : ∀ k, (lnF i b m ws steps line).1 k = dropF i b ws k ∧ (k ∈ line → ¬ wst (dropF i b ws k) = 1) ∨ k ∈ line ∧ wst (dropF i b ws k) = 1 ∧ ∃ ahead, (lnF i b m ws steps line).1 k = stepW i b (cheerN i b (iNe i)) (gustN i b (iNe i) + swayF i b m) ahead k (dropF i b ws k) :=
    fun k => line_pt i b (cheerN i b (iNe i)) (gustN i b (iNe i) + swayF i b m) line (dropF i b ws, steps, 1000) si.1 k
  generalize lnF i b m ws steps line = r at D pt ⊢
  obtain ⟨D1, D2, D3⟩ := D
  refine ⟨⟨⟨si.1, si.2.1, fun k hk => ?_, fun k hk => ?_⟩, ?_, fun k hk ho => ?_, fun k hk => ?_, fun k hk => ?_, fun k hk h0 => ?_⟩, D1⟩
  · rcases pt k with q | ⟨q1, q2, a, q3⟩
    · rw [q.1, (drop_same i b ws k).1]; exact si.2.2.1 k hk
    · rw [q3]
      exact ⟨fun _ => stl_ne _ _ _ _ _ _, fun _ => q1⟩
  · rcases pt k with q | ⟨q1, q2, a, q3⟩
    · rw [q.1, (drop_same i b ws k).1]; exact si.2.2.2 k hk
    · rw [q3]
      exact Or.inr (stl_st _ _ _ _ _ _)
  · rw [List.filter_filter] at D2
    have e : line.filter (fun x => onB r.1 x && onB (dropF i b ws) x) = line.filter (onB r.1) := by
      apply List.filter_congr
      intro x hx
      rcases pt x with q | ⟨q1, q2, a, q3⟩
      · simp only [onB, q.1, Bool.and_self]
      · simp only [onB, q2, decide_true, Bool.and_true]
    rw [e] at D2
    exact D2
  · have w := D1.2.2.2.2 k hk ho
    rw [if_neg List.not_mem_nil] at w
    exact w
  · rcases pt k with q | ⟨q1, q2, a, q3⟩
    · obtain ⟨-, -, d3, -, -, -, d7⟩ := drop_same i b ws k
      rw [q.1, d3, d7]; exact fa k hk
    · rw [q3, step_fa, jmax_same]
  · rcases pt k with q | ⟨q1, q2, a, q3⟩
    · rw [q.1]; exact drop_po (po k hk)
    · rw [q3]
      unfold stepW
      rw [stl_po]; exact drop_po (po k hk)
  · rcases pt k with q | ⟨q1, q2, a, q3⟩
    · obtain ⟨d1, -, d3, d4, -⟩ := drop_same i b ws k
      rw [q.1, d1] at h0
      rw [q.1, d3, d4]; exact zz k hk h0
    · rw [q3] at h0
      exact absurd h0 (stl_ne _ _ _ _ _ _)
theorem beat_eq (i : Inp) (b : Nat) (m steps : Int32) (ws : Nat → WS) (line : List Nat) : beatF i b m (ws, steps, line) = if (lnF i b m ws steps line).2.2 ≤ 0 then ((lnF i b m ws steps line).1, (lnF i b m ws steps line).2.1, line) else match startF i b (lnF i b m ws steps line).1 with
    | none => ((lnF i b m ws steps line).1, (lnF i b m ws steps line).2.1, line)
    | some k => (va_up (lnF i b m ws steps line).1 k (onW ((lnF i b m ws steps line).1 k)), (lnF i b m ws steps line).2.1, line ++ [k]) := rfl
theorem start_PI {i : Inp} {b k : Nat} {ws : Nat → WS} {line : List Nat} (hI : InOk i) (hk : k < iN i) (h0 : wst (ws k) = 0) (hp : ∀ k', k' < iN i → wst (ws k') = 1 → 0 < pn (ws k')) (P : PI i (b + 1) ws line) : PI i (b + 1) (va_up ws k (onW (ws k))) (line ++ [k]) := by
  obtain ⟨si, pw, wo, fa, po, zz⟩ := P
  obtain ⟨L, hL5, hL, eL⟩ := hI.2.2.2.1
  have hn : k ∉ line := fun q => (si.2.2.1 k hk).mp q h0
  have on1 : wst (onW (ws k)) = 1 := rfl
  have pz : pn (onW (ws k)) = 0 := rfl
  refine ⟨⟨?_, fun x hx => ?_, fun x hx => ?_, fun x hx => ?_⟩, ?_, fun x hx ho => ?_, fun x hx => ?_, fun x hx => ?_, fun x hx h1 => ?_⟩
  · rw [List.nodup_append]
    refine ⟨si.1, List.nodup_cons.mpr ⟨List.not_mem_nil, List.nodup_nil⟩, fun a ha b hb q => ?_⟩
    rw [List.mem_singleton] at hb
    exact hn (hb ▸ q ▸ ha)
  · rcases List.mem_append.mp hx with q | q
    · exact si.2.1 x q
    · rw [List.mem_singleton.mp q]; exact hk
  · by_cases e : x = k
    · subst e
      rw [up_self, on1]
      exact ⟨fun _ => by decide, fun _ => List.mem_append.mpr (Or.inr List.mem_cons_self)⟩
    · rw [up_ne e, ← si.2.2.1 x hx]
      constructor
      · intro q
        rcases List.mem_append.mp q with q | q
        · exact q
        · exact absurd (List.mem_singleton.mp q) e
      · exact fun q => List.mem_append.mpr (Or.inl q)
  · by_cases e : x = k
    · subst e
      rw [up_self]; exact Or.inr (Or.inl on1)
    · rw [up_ne e]; exact si.2.2.2 x hx
  · have ef : line.filter (onB (va_up ws k (onW (ws k)))) = line.filter (onB ws) := by
      apply List.filter_congr
      intro x hx
      have hne : x ≠ k := fun q => hn (q ▸ hx)
      simp only [onB, up_ne hne]
    rw [List.filter_append, ef, List.pairwise_append]
    refine ⟨?_, ?_, fun x hx y hy => ?_⟩
    · refine List.Pairwise.imp_of_mem (fun {x y} hx hy h => ?_) pw
      have hx1 : x ≠ k := fun q => hn (q ▸ (List.mem_filter.mp hx).1)
      have hy1 : y ≠ k := fun q => hn (q ▸ (List.mem_filter.mp hy).1)
      rw [up_ne hx1, up_ne hy1]; exact h
    · exact List.Pairwise.sublist List.filter_sublist (List.pairwise_singleton _ _)
    · have ey : y = k := List.mem_singleton.mp (List.mem_filter.mp hy).1
      have hm := List.mem_filter.mp hx
      have hx1 : x ≠ k := fun q => hn (q ▸ hm.1)
      rw [ey, up_self, up_ne hx1, pz]
      exact hp x (si.2.1 x hm.1) (by simpa [onB] using hm.2)
  · by_cases e : x = k
    · subst e
      rw [up_self, pz]
      obtain ⟨z1, z2⟩ := zz x hk h0
      refine ⟨rfl, by rw [eL]; exact (nI_ltI (by omega) (by omega)).mpr (by omega), Nat.succ_le_succ (Nat.zero_le _), ?_, po x hk⟩
      show bd (wle (ws x)) 30
      rw [z2]
      exact bd_nI (n := 0) (by decide) (by decide)
    · rw [up_ne e] at ho ⊢; exact wo x hx ho
  · by_cases e : x = k
    · subst e
      rw [up_self]; exact fa x hk
    · rw [up_ne e]; exact fa x hx
  · by_cases e : x = k
    · subst e
      rw [up_self]; exact po x hk
    · rw [up_ne e]; exact po x hx
  · by_cases e : x = k
    · subst e
      rw [up_self, on1] at h1
      exact absurd h1 (by decide)
    · rw [up_ne e] at h1 ⊢; exact zz x hx h1
theorem start_some {i : Inp} {b k : Nat} {ws : Nat → WS} (h : startF i b ws = some k) : k < iN i ∧ wst (ws k) = 0 := by
  unfold startF at h
  have h1 := List.mem_of_find?_eq_some h
  have h2 := List.find?_some h
  exact ⟨List.mem_range.mp h1, (of_decide_eq_true h2).1⟩
theorem beat_PI {i : Inp} {b : Nat} {m steps : Int32} {ws : Nat → WS} {line : List Nat} (hI : InOk i) (P : PI i b ws line) : PI i (b + 1) (beatF i b m (ws, steps, line)).1 (beatF i b m (ws, steps, line)).2.2 := by
  obtain ⟨P1, S1⟩ := line_PI (m := m) (steps := steps) hI P
  rw [beat_eq]
  by_cases h : (lnF i b m ws steps line).2.2 ≤ 0
  · rw [if_pos h]; exact P1
  · rw [if_neg h]
    cases e : startF i b (lnF i b m ws steps line).1 with
    | none => exact P1
    | some k =>
      obtain ⟨hk, h0⟩ := start_some e
      refine start_PI hI hk h0 (fun k' hk' ho => ?_) P1
      obtain ⟨⟨a, ha, ea, a1, a2, a3⟩, -⟩ := S1
      have := a2 k' hk' ho List.not_mem_nil
      have ha0 : a ≠ 0 := by
        intro q
        rw [ea, q] at h
        exact h (by decide)
      omega
theorem ini_PI {i : Inp} (hI : InOk i) : PI i 0 (ini i) [] := by
  refine ⟨⟨List.nodup_nil, fun k hk => absurd hk List.not_mem_nil, fun k hk => ⟨fun q => absurd q List.not_mem_nil, fun q => absurd rfl q⟩, fun k hk => Or.inl rfl⟩, List.Pairwise.nil, fun k hk ho => absurd ho (show ¬ (0 : Int32) = 1 by decide), fun k hk => ?_, fun k hk => (hI.2.2.2.2.2.2.1 k hk).2.2, fun k hk _ => ⟨rfl, rfl⟩⟩
  show jmax 0 (jabs 0) = 0
  decide
theorem run_PI {i : Inp} (hI : InOk i) : ∀ b, PI i b (runF i b).1.1 (runF i b).1.2.2
  | 0 => ini_PI hI
  | b + 1 => beat_PI (m := (runF i b).2) (steps := (runF i b).1.2.1) hI (run_PI hI b)
