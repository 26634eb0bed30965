/-! where one may be, when one has ended -/
def PLb (w : WS) : Prop := ∃ z, z ≤ 41 ∧ wpl w + 1 = nI z
theorem line_plb {i : Inp} {b c : Nat} {push : Int32} (hI : InOk i) (hc : c < 2) (hp : bd push 28) : ∀ (l : List Nat) (s : (Nat → WS) × Int32 × Int32), SC i b s l → (∀ k, k < iN i → PLb (s.1 k)) → ∀ k, k < iN i → PLb ((lineF i b (nI c) push l s).1 k)
  | [], s, S, H => H
  | k :: l, s, S, H => by
    obtain ⟨p', p1, p2, p3, p4, p5, SN⟩ := sc_step hI hc hp S
    have hk := S.2.2.2.1 k List.mem_cons_self
    rw [lineF, if_pos hk.2]
    refine line_plb hI hc hp l _ SN (fun k' hk' => ?_)
    by_cases e : k' = k
    · subst e
      simp only [up_self]
      obtain ⟨⟨a', ha', ea', a1, -⟩, -, -, -, wo⟩ := S
      have w := wo k' hk.1 hk.2
      rw [if_pos List.mem_cons_self] at w
      obtain ⟨L, hL5, hL, eL⟩ := hI.2.2.2.1
      have w2 := w.2.1
      rw [eL] at w2
      have hpL : pn (s.1 k') < L := (nI_ltI (by have := a1 k' List.mem_cons_self; omega) (by omega)).mp w2
      obtain ⟨p'', q1, q2, q3, q4, q5, -, -⟩ := step_pl (i := i) (k := k') (w := s.1 k') hI w.1 eL hL hpL (a1 k' List.mem_cons_self) ha' hc
      rw [← ea'] at q5
      refine ⟨p'' + 1, by omega, ?_⟩
      rw [show wpl (stepW i b (nI c) push s.2.2 k' (s.1 k')) = nI p'' from (stl_pl _ _ _ _ _ _).trans q5]
      exact nI_1 p''
    · simp only [up_ne e]; exact H k' hk'
theorem stl_en (i : Inp) (b : Nat) (pl l2 : Int32) (w : WS) (bl : Int32) : wst (stl i b pl l2 w bl) = 2 → wen (stl i b pl l2 w bl) = nI b := by
  unfold stl
  split
  · split
    · intro q; exact absurd q (show ¬ (1 : Int32) = 2 by decide)
    · intro q; rfl
  · intro q; rfl
def ENb (b : Nat) (w : WS) : Prop := wst w = 2 → ∃ z, z < b ∧ wen w = nI z
theorem beat_qi {i : Inp} {b : Nat} {m steps : Int32} {ws : Nat → WS} {line : List Nat} (hI : InOk i) (P : PI i b ws line) (H : ∀ k, k < iN i → PLb (ws k) ∧ ENb b (ws k)) : ∀ k, k < iN i → PLb ((beatF i b m (ws, steps, line)).1 k) ∧ ENb (b + 1) ((beatF i b m (ws, steps, line)).1 k) := by
  have ln : ∀ k, k < iN i → PLb ((lnF i b m ws steps line).1 k) ∧ ENb (b + 1) ((lnF i b m ws steps line).1 k) := by
    have S := pi_sc (steps := steps) hI P
    obtain ⟨c, hc, ec⟩ := cheer_01 i b (iNe i)
    have hp := bd_push hI b m
    have el : lnF i b m ws steps line = lineF i b (nI c) (gustN i b (iNe i) + swayF i b m) (line.filter (onB (dropF i b ws))) (dropF i b ws, steps, 1000) := by
      unfold lnF
      rw [ec, line_filter i b (nI c) _ line _ P.1.1]
    intro k hk
    refine ⟨?_, ?_⟩
    · rw [el]
      refine line_plb hI hc hp _ _ S (fun k' hk' => ?_) k hk
      show PLb (dropF i b ws k')
      unfold PLb
      rw [(drop_same i b ws k').2.1]
      exact (H k' hk').1
    · rcases line_pt i b (cheerN i b (iNe i)) (gustN i b (iNe i) + swayF i b m) line (dropF i b ws, steps, 1000) P.1.1 k with q | ⟨q1, q2, a, q3⟩
      · obtain ⟨d1, -, -, -, d5, -⟩ := drop_same i b ws k
        unfold lnF
        rw [q.1]
        intro h2
        show ∃ z, z < b + 1 ∧ wen (dropF i b ws k) = nI z
        rw [d5]
        obtain ⟨z, hz, ez⟩ := (H k hk).2 (d1.symm.trans h2)
        exact ⟨z, by omega, ez⟩
      · unfold lnF
        rw [q3]
        intro h2
        exact ⟨b, by omega, stl_en _ _ _ _ _ _ h2⟩
  intro k hk
  rw [beat_eq]
  split
  · exact ln k hk
  · cases e : startF i b (lnF i b m ws steps line).1 with
    | none => exact ln k hk
    | some k' =>
      show PLb (va_up _ k' _ k) ∧ ENb (b + 1) (va_up _ k' _ k)
      by_cases q : k = k'
      · subst q
        rw [up_self]
        exact ⟨⟨1, by decide, rfl⟩, fun h2 => absurd h2 (show ¬ (1 : Int32) = 2 by decide)⟩
      · rw [up_ne q]; exact ln k hk
theorem run_qi {i : Inp} (hI : InOk i) : ∀ b k, k < iN i → PLb ((runF i b).1.1 k) ∧ ENb b ((runF i b).1.1 k)
  | 0, k, _ => ⟨⟨0, by decide, show (-1 : Int32) + 1 = nI 0 by decide⟩, fun h2 => absurd h2 (show ¬ (0 : Int32) = 2 by decide)⟩
  | b + 1, k, hk => beat_qi (m := (runF i b).2) (steps := (runF i b).1.2.1) hI (run_PI hI b) (run_qi hI b) k hk
theorem pw_mem {R : Nat → Nat → Prop} : ∀ {l : List Nat}, l.Pairwise R → ∀ x y, x ∈ l → y ∈ l → x ≠ y → R x y ∨ R y x
  | [], _, x, y, hx, _, _ => absurd hx List.not_mem_nil
  | a :: l, h, x, y, hx, hy, hn => by
    obtain ⟨h1, h2⟩ := List.pairwise_cons.mp h
    rcases List.mem_cons.mp hx with ex | hx2
    · rcases List.mem_cons.mp hy with ey | hy2
      · exact absurd (ex.trans ey.symm) hn
      · rw [ex]; exact Or.inl (h1 y hy2)
    · rcases List.mem_cons.mp hy with ey | hy2
      · rw [ey]; exact Or.inr (h1 x hx2)
      · exact pw_mem h2 x y hx2 hy2 hn
/-- nobody stands where another stands -/
theorem run_one {i : Inp} (hI : InOk i) (b : Nat) {k k' : Nat} (hk : k < iN i) (hk' : k' < iN i) (o : wst ((runF i b).1.1 k) = 1) (o' : wst ((runF i b).1.1 k') = 1) (e : wpl ((runF i b).1.1 k) = wpl ((runF i b).1.1 k')) : k = k' := by
  obtain ⟨si, pw, -⟩ := run_PI hI b
  by_cases q : k = k'
  · exact q
  · have m1 : k ∈ (runF i b).1.2.2.filter (onB (runF i b).1.1) := List.mem_filter.mpr ⟨(si.2.2.1 k hk).mpr (by rw [o]; decide), decide_eq_true o⟩
    have m2 : k' ∈ (runF i b).1.2.2.filter (onB (runF i b).1.1) := List.mem_filter.mpr ⟨(si.2.2.1 k' hk').mpr (by rw [o']; decide), decide_eq_true o'⟩
    have p : pn ((runF i b).1.1 k) = pn ((runF i b).1.1 k') := by unfold pn; rw [e]
    rcases pw_mem pw k k' m1 m2 q with r | r <;> omega
theorem cnt_succ (n : Nat) (ws : Nat → WS) (c : Int32) : cntW (n + 1) ws c = cntW n ws c + (if wst (ws n) = c then 1 else 0) := by
  unfold cntW
  rw [List.range_succ, List.filter_append, List.length_append]
  by_cases hc : wst (ws n) = c <;> simp [hc]
theorem cnt_le (n : Nat) (ws : Nat → WS) (c : Int32) : cntW n ws c ≤ n := by
  induction n with
  | zero => exact Nat.le_refl _
  | succ n ih =>
    rw [cnt_succ]
    split <;> omega
