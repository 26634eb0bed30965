theorem line_pt (i : Inp) (b : Nat) (cheer push : Int32) : ∀ (l : List Nat) (s : (Nat → WS) × Int32 × Int32), l.Nodup → ∀ k, (lineF i b cheer push l s).1 k = s.1 k ∧ (k ∈ l → ¬ wst (s.1 k) = 1) ∨ k ∈ l ∧ wst (s.1 k) = 1 ∧ ∃ ahead, (lineF i b cheer push l s).1 k = stepW i b cheer push ahead k (s.1 k)
  | [], s, _, k => Or.inl ⟨rfl, fun h => absurd h List.not_mem_nil⟩
  | k0 :: l, s, hn, k => by
    have hc := List.nodup_cons.mp hn
    rw [lineF]
    by_cases on : wst (s.1 k0) = 1
    · rw [if_pos on]
      have ih := line_pt i b cheer push l (va_up s.1 k0 (stepW i b cheer push s.2.2 k0 (s.1 k0)), s.2.1 + sGo i cheer s.2.2 k0 (s.1 k0), if wst (stepW i b cheer push s.2.2 k0 (s.1 k0)) = 1 then wpl (stepW i b cheer push s.2.2 k0 (s.1 k0)) else s.2.2) hc.2 k
      by_cases e : k = k0
      · subst e
        rcases ih with ih | ih
        · rw [ih.1]
          simp only [up_self]
          exact Or.inr ⟨List.mem_cons_self, on, _, rfl⟩
        · exact absurd ih.1 hc.1
      · simp only [up_ne e] at ih
        rcases ih with ih | ih
        · refine Or.inl ⟨ih.1, fun h => ?_⟩
          rcases List.mem_cons.mp h with q | q
          · exact absurd q e
          · exact ih.2 q
        · exact Or.inr ⟨List.mem_cons_of_mem _ ih.1, ih.2⟩
    · rw [if_neg on]
      have ih := line_pt i b cheer push l s hc.2 k
      rcases ih with ih | ih
      · refine Or.inl ⟨ih.1, fun h => ?_⟩
        rcases List.mem_cons.mp h with q | q
        · rw [q]; exact on
        · exact ih.2 q
      · exact Or.inr ⟨List.mem_cons_of_mem _ ih.1, ih.2⟩
def onB (ws : Nat → WS) (k : Nat) : Bool := decide (wst (ws k) = 1)
theorem line_filter (i : Inp) (b : Nat) (cheer push : Int32) : ∀ (l : List Nat) (s : (Nat → WS) × Int32 × Int32), l.Nodup → lineF i b cheer push l s = lineF i b cheer push (l.filter (onB s.1)) s
  | [], s, _ => rfl
  | k :: l, s, hn => by
    have hc := List.nodup_cons.mp hn
    by_cases on : wst (s.1 k) = 1
    · rw [List.filter_cons_of_pos (by simp [onB, on]), lineF, lineF, if_pos on, if_pos on]
      rw [line_filter i b cheer push l _ hc.2]
      have e : l.filter (onB (va_up s.1 k (stepW i b cheer push s.2.2 k (s.1 k)))) = l.filter (onB s.1) := by
        apply List.filter_congr
        intro x hx
        have hne : x ≠ k := fun q => hc.1 (q ▸ hx)
        simp only [onB, up_ne hne]
      simp only [e]
    · rw [List.filter_cons_of_neg (by simp [onB, on]), lineF, if_neg on]
      exact line_filter i b cheer push l s hc.2
theorem sc_ahead {i : Inp} {b : Nat} {s : (Nat → WS) × Int32 × Int32} {l : List Nat} (S : SC i b s l) : ∃ a, a ≤ 1000 ∧ s.2.2 = nI a ∧ s.2.2.toNatClampNeg = a := by
  obtain ⟨⟨a, ha, ea, -⟩, -⟩ := S
  exact ⟨a, ha, ea, by rw [ea]; exact nI_clamp (by omega)⟩
theorem line_dec {i : Inp} {b c : Nat} {push : Int32} (hI : InOk i) (hc : c < 2) (hp : bd push 28) : ∀ (l : List Nat) (s : (Nat → WS) × Int32 × Int32), SC i b s l → SC i b (lineF i b (nI c) push l s) [] ∧ (l.filter (onB (lineF i b (nI c) push l s).1)).Pairwise (fun x y => pn ((lineF i b (nI c) push l s).1 y) < pn ((lineF i b (nI c) push l s).1 x)) ∧ ∀ k ∈ l, wst ((lineF i b (nI c) push l s).1 k) = 1 → pn ((lineF i b (nI c) push l s).1 k) < s.2.2.toNatClampNeg
  | [], s, S => ⟨S, List.Pairwise.nil, fun k hk => absurd hk List.not_mem_nil⟩
  | k :: l, s, S => by
    obtain ⟨p', p1, p2, p3, p4, p5, SN⟩ := sc_step hI hc hp S
    obtain ⟨a, ha, ea, eac⟩ := sc_ahead S
    have hk := S.2.2.2.1 k List.mem_cons_self
    have hkl := List.nodup_cons.mp S.2.2.1
    have ih := line_dec hI hc hp l _ SN
    rw [lineF, if_pos hk.2]
    have hpt := line_pt i b (nI c) push l (va_up s.1 k (stepW i b (nI c) push s.2.2 k (s.1 k)), s.2.1 + sGo i (nI c) s.2.2 k (s.1 k), if wst (stepW i b (nI c) push s.2.2 k (s.1 k)) = 1 then wpl (stepW i b (nI c) push s.2.2 k (s.1 k)) else s.2.2) hkl.2 k
    obtain ⟨ih1, ih2, ih3⟩ := ih
    have hself : (lineF i b (nI c) push l (va_up s.1 k (stepW i b (nI c) push s.2.2 k (s.1 k)), s.2.1 + sGo i (nI c) s.2.2 k (s.1 k), if wst (stepW i b (nI c) push s.2.2 k (s.1 k)) = 1 then wpl (stepW i b (nI c) push s.2.2 k (s.1 k)) else s.2.2)).1 k = stepW i b (nI c) push s.2.2 k (s.1 k) := by
      rcases hpt with q | q
      · rw [q.1]; simp only [up_self]
      · exact absurd q.1 hkl.1
    generalize lineF i b (nI c) push l (va_up s.1 k (stepW i b (nI c) push s.2.2 k (s.1 k)), s.2.1 + sGo i (nI c) s.2.2 k (s.1 k), if wst (stepW i b (nI c) push s.2.2 k (s.1 k)) = 1 then wpl (stepW i b (nI c) push s.2.2 k (s.1 k)) else s.2.2) = f at ih1 ih2 ih3 hself ⊢
    have hpn : pn (stepW i b (nI c) push s.2.2 k (s.1 k)) = p' := pn_eq p3 (by omega)
    have hpa : p' < a := by
      obtain ⟨⟨a', ha', ea', a1, -⟩, -, -, -, wo⟩ := S
      have e : a' = a := (nI_eq (by omega) (by omega)).mp (ea'.symm.trans ea)
      subst e
      have w := wo k hk.1 hk.2
      rw [if_pos List.mem_cons_self] at w
      obtain ⟨L, hL5, hL, eL⟩ := hI.2.2.2.1
      have w2 := w.2.1
      rw [eL] at w2
      have hpL : pn (s.1 k) < L := (nI_ltI (by have := a1 k List.mem_cons_self; omega) (by omega)).mp w2
      obtain ⟨p'', q1, q2, q3, q4, q5, -, -⟩ := step_pl (i := i) (k := k) (w := s.1 k) hI w.1 eL hL hpL (a1 k List.mem_cons_self) ha' hc
      rw [← ea] at q5
      have : nI p' = nI p'' := by
        rw [← p3]; exact (stl_pl _ _ _ _ _ _).trans q5
      have := (nI_eq (by omega) (by omega)).mp this
      omega
    by_cases on : wst (stepW i b (nI c) push s.2.2 k (s.1 k)) = 1
    · simp only [if_pos on, p3] at ih3
      rw [nI_clamp (show p' < 2 ^ 31 by omega)] at ih3
      refine ⟨ih1, ?_, fun k' hk' ho => ?_⟩
      · rw [List.filter_cons_of_pos (by simp [onB, hself, on]), List.pairwise_cons]
        refine ⟨fun y hy => ?_, ih2⟩
        have hy2 := List.mem_filter.mp hy
        rw [hself, hpn]
        exact ih3 y hy2.1 (by simpa [onB] using hy2.2)
      · rw [eac]
        rcases List.mem_cons.mp hk' with q | q
        · rw [q, hself, hpn]; exact hpa
        · have := ih3 k' q ho
          omega
    · simp only [if_neg on] at ih3
      refine ⟨ih1, ?_, fun k' hk' ho => ?_⟩
      · rw [List.filter_cons_of_neg (by simp [onB, hself, on])]
        exact ih2
      · rcases List.mem_cons.mp hk' with q | q
        · rw [q, hself] at ho; exact absurd ho on
        · exact ih3 k' q ho
/-- what holds at the beginning of beat b -/
def PI (i : Inp) (b : Nat) (ws : Nat → WS) (line : List Nat) : Prop := SI i ws line ∧ (line.filter (onB ws)).Pairwise (fun x y => pn (ws y) < pn (ws x)) ∧ (∀ k, k < iN i → wst (ws k) = 1 → WO i b (ws k) (pn (ws k))) ∧ (∀ k, k < iN i → jmax (wfa (ws k)) (jabs (wle (ws k))) = wfa (ws k)) ∧ (∀ k, k < iN i → ∃ z, z < 10 ∧ wpo (ws k) = nI z) ∧ ∀ k, k < iN i → wst (ws k) = 0 → wow (ws k) = 0 ∧ wle (ws k) = 0
theorem drop_same (i : Inp) (b : Nat) (ws : Nat → WS) (k : Nat) : wst (dropF i b ws k) = wst (ws k) ∧ wpl (dropF i b ws k) = wpl (ws k) ∧ wle (dropF i b ws k) = wle (ws k) ∧ wow (dropF i b ws k) = wow (ws k) ∧ wen (dropF i b ws k) = wen (ws k) ∧ wbl (dropF i b ws k) = wbl (ws k) ∧ wfa (dropF i b ws k) = wfa (ws k) := by
  unfold dropF
  split <;> exact ⟨rfl, rfl, rfl, rfl, rfl, rfl, rfl⟩
theorem drop_po {i : Inp} {b : Nat} {ws : Nat → WS} {k : Nat} (h : ∃ z, z < 10 ∧ wpo (ws k) = nI z) : ∃ z, z < 10 ∧ wpo (dropF i b ws k) = nI z := by
  unfold dropF
  split
  · exact ⟨0, by decide, rfl⟩
  · exact h
theorem pi_sc {i : Inp} {b : Nat} {ws : Nat → WS} {line : List Nat} {steps : Int32} (hI : InOk i) (P : PI i b ws line) : SC i b (dropF i b ws, steps, 1000) (line.filter (onB (dropF i b ws))) := by
  obtain ⟨si, pw, wo, fa, po, -⟩ := P
  obtain ⟨L, hL5, hL, eL⟩ := hI.2.2.2.1
  have eo : onB (dropF i b ws) = onB ws := by funext k; simp only [onB, (drop_same i b ws k).1]
  have ep : ∀ k, pn (dropF i b ws k) = pn (ws k) := fun k => by unfold pn; rw [(drop_same i b ws k).2.1]
  have wo' : ∀ k, k < iN i → wst (dropF i b ws k) = 1 → WO i b (dropF i b ws k) (pn (dropF i b ws k)) := by
    intro k hk ho
    rw [(drop_same i b ws k).1] at ho
    obtain ⟨w1, w2, w3, w4, w5⟩ := wo k hk ho
    obtain ⟨d1, d2, d3, d4, -⟩ := drop_same i b ws k
    rw [ep]
    exact ⟨by rw [d2]; exact w1, w2, by rw [d4]; exact w3, by rw [d3]; exact w4, drop_po (po k hk)⟩
  have inl : ∀ k, k < iN i → wst (dropF i b ws k) = 1 → k ∈ line.filter (onB (dropF i b ws)) := by
    intro k hk ho
    refine List.mem_filter.mpr ⟨(si.2.2.1 k hk).mpr ?_, by simp [onB, ho]⟩
    rw [(drop_same i b ws k).1] at ho
    rw [ho]; decide
  refine ⟨⟨1000, Nat.le_refl _, rfl, fun k hk => ?_, fun k hk ho hn => absurd (inl k hk ho) hn, Or.inl rfl⟩, ?_, si.1.sublist List.filter_sublist, fun k hk => ?_, fun k hk ho => ?_⟩
  · have hm := List.mem_filter.mp hk
    have ho : wst (dropF i b ws k) = 1 := by simpa [onB] using hm.2
    have w := wo' k (si.2.1 k hm.1) ho
    have w2 := w.2.1
    rw [eL] at w2
    have h1 := Int32.lt_iff_toInt_lt.mp w2
    have hpn31 : pn (dropF i b ws k) < 2 ^ 31 := by
      unfold pn
      have := Int32.toInt_lt (wpl (dropF i b ws k))
      have h3 : (wpl (dropF i b ws k)).toNatClampNeg = (wpl (dropF i b ws k)).toInt.toNat := rfl
      omega
    have := (nI_ltI hpn31 (by omega)).mp w2
    show pn (dropF i b ws k) < 1000
    omega
  · rw [eo]
    refine pw.imp (fun {x y} h => ?_)
    show pn (dropF i b ws y) < pn (dropF i b ws x)
    rw [ep, ep]; exact h
  · have hm := List.mem_filter.mp hk
    exact ⟨si.2.1 k hm.1, by simpa [onB] using hm.2⟩
  · show WO i _ (dropF i b ws k) (pn (dropF i b ws k))
    rw [if_pos (inl k hk ho)]
    exact wo' k hk ho
