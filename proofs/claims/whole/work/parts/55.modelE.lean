def pn (w : WS) : Nat := (wpl w).toNatClampNeg
theorem pn_eq {w : WS} {p : Nat} (h : wpl w = nI p) (hp : p < 2 ^ 31) : pn w = p := by unfold pn; rw [h, nI_clamp hp]
/-- while the walkers take their turns: s is how it stands, l who is to come -/
def SC (i : Inp) (b : Nat) (s : (Nat → WS) × Int32 × Int32) (l : List Nat) : Prop :=
  (∃ a, a ≤ 1000 ∧ s.2.2 = nI a ∧ (∀ k ∈ l, pn (s.1 k) < a) ∧ (∀ k, k < iN i → wst (s.1 k) = 1 → k ∉ l → a ≤ pn (s.1 k)) ∧ (a = 1000 ∨ ∃ k, k < iN i ∧ wst (s.1 k) = 1 ∧ k ∉ l ∧ pn (s.1 k) = a)) ∧
  l.Pairwise (fun x y => pn (s.1 y) < pn (s.1 x)) ∧ l.Nodup ∧ (∀ k ∈ l, k < iN i ∧ wst (s.1 k) = 1) ∧
  ∀ k, k < iN i → wst (s.1 k) = 1 → WO i (if k ∈ l then b else b + 1) (s.1 k) (pn (s.1 k))
theorem up_self {ws : Nat → WS} {k : Nat} {v : WS} : va_up ws k v k = v := by simp [va_up]
theorem up_ne {ws : Nat → WS} {k k' : Nat} {v : WS} (h : k' ≠ k) : va_up ws k v k' = ws k' := by simp [va_up, h]
theorem sc_step {i : Inp} {b k c : Nat} {push : Int32} {s : (Nat → WS) × Int32 × Int32} {l : List Nat} (hI : InOk i) (hc : c < 2) (hp : bd push 28) (S : SC i b s (k :: l)) :
    ∃ p' : Nat, p' < 1000 ∧ pn (s.1 k) ≤ p' ∧ wpl (stepW i b (nI c) push s.2.2 k (s.1 k)) = nI p' ∧ (∀ k', k' < iN i → wst (s.1 k') = 1 → k' ∉ k :: l → p' < pn (s.1 k')) ∧ bd (sL1 i (nI c) push s.2.2 k (s.1 k)) 70 ∧
    SC i b (va_up s.1 k (stepW i b (nI c) push s.2.2 k (s.1 k)), s.2.1 + sGo i (nI c) s.2.2 k (s.1 k), if wst (stepW i b (nI c) push s.2.2 k (s.1 k)) = 1 then wpl (stepW i b (nI c) push s.2.2 k (s.1 k)) else s.2.2) l := by
  obtain ⟨⟨a, ha, ea, a1, a2, a3⟩, pw, nd, lm, wo⟩ := S
  obtain ⟨L, hL5, hL, eL⟩ := hI.2.2.2.1
  have hkl := List.nodup_cons.mp nd
  have hk := lm k List.mem_cons_self
  have w := wo k hk.1 hk.2
  rw [if_pos List.mem_cons_self] at w
  obtain ⟨w1, w2, w3, w4, w5⟩ := w
  rw [eL] at w2
  have hpk40 : pn (s.1 k) < 1000 := Nat.lt_of_lt_of_le (a1 k List.mem_cons_self) ha
  have hpL : pn (s.1 k) < L := (nI_ltI (by omega) (by omega)).mp w2
  have hpa : pn (s.1 k) < a := a1 k List.mem_cons_self
  obtain ⟨p', p1, p2, p3, p4, p5, p6, p7⟩ := step_pl (i := i) (k := k) (w := s.1 k) hI w1 eL hL hpL hpa ha hc
  rw [← ea] at p5 p6 p7
  have l1 := bd_L1 (push := push) w4 hp p7 w5
  have hwpl : wpl (stepW i b (nI c) push s.2.2 k (s.1 k)) = nI p' := (stl_pl _ _ _ _ _ _).trans p5
  have hon : wst (stepW i b (nI c) push s.2.2 k (s.1 k)) = 1 → WO i (b + 1) (stepW i b (nI c) push s.2.2 k (s.1 k)) p' := step_on hI l1 p5 w5 w3
  have hpn : pn (stepW i b (nI c) push s.2.2 k (s.1 k)) = p' := pn_eq hwpl (by omega)
  have hoth : ∀ k', k' < iN i → wst (s.1 k') = 1 → k' ∉ k :: l → p' < pn (s.1 k') := fun k' h1 h2 h3 => Nat.lt_of_lt_of_le p3 (a2 k' h1 h2 h3)
  generalize stepW i b (nI c) push s.2.2 k (s.1 k) = W' at hwpl hon hpn ⊢
  refine ⟨p', by omega, p1, hwpl, hoth, l1, ⟨?_, ?_, hkl.2, fun k' hk' => ?_, fun k' hk' ho => ?_⟩⟩
  · by_cases o : wst W' = 1
    · refine ⟨p', by omega, by simp only [if_pos o]; exact hwpl, fun k' hk' => ?_, fun k' h1 h2 h3 => ?_, Or.inr ⟨k, hk.1, by simp only [up_self]; exact o, hkl.1, by simp only [up_self]; exact hpn⟩⟩
      · have hne : k' ≠ k := fun q => hkl.1 (q ▸ hk')
        simp only [up_ne hne]
        exact Nat.lt_of_lt_of_le ((List.pairwise_cons.mp pw).1 k' hk') p1
      · by_cases e : k' = k
        · subst e; simp only [up_self]; omega
        · simp only [up_ne e] at h2 ⊢
          exact Nat.le_of_lt (hoth k' h1 h2 (by simp [e, h3]))
    · refine ⟨a, ha, by simp only [if_neg o]; exact ea, fun k' hk' => ?_, fun k' h1 h2 h3 => ?_, ?_⟩
      · have hne : k' ≠ k := fun q => hkl.1 (q ▸ hk')
        simp only [up_ne hne]
        exact a1 k' (List.mem_cons_of_mem _ hk')
      · by_cases e : k' = k
        · subst e; simp only [up_self] at h2; exact absurd h2 o
        · simp only [up_ne e] at h2 ⊢
          exact a2 k' h1 h2 (by simp [e, h3])
      · rcases a3 with a3 | ⟨k', b1, b2, b3, b4⟩
        · exact Or.inl a3
        · have hne : k' ≠ k := fun q => b3 (by rw [q]; exact List.mem_cons_self)
          exact Or.inr ⟨k', b1, by simp only [up_ne hne]; exact b2, fun q => b3 (List.mem_cons_of_mem _ q), by simp only [up_ne hne]; exact b4⟩
  · have p2' := (List.pairwise_cons.mp pw).2
    refine p2'.imp_of_mem (fun {x y} hx hy hxy => ?_)
    have n1 : x ≠ k := fun q => hkl.1 (q ▸ hx)
    have n2 : y ≠ k := fun q => hkl.1 (q ▸ hy)
    simp only [up_ne n1, up_ne n2]
    exact hxy
  · have hne : k' ≠ k := fun q => hkl.1 (q ▸ hk')
    simp only [up_ne hne]
    exact lm k' (List.mem_cons_of_mem _ hk')
  · by_cases e : k' = k
    · subst e
      simp only [up_self] at ho ⊢
      rw [if_neg hkl.1, hpn]
      exact hon ho
    · simp only [up_ne e] at ho ⊢
      have := wo k' hk' ho
      simpa [e] using this
/-- the reference's cells while the walkers take their turns -/
def RS (i : Inp) (h0 h : Hp) (push : Int32) (s : (Nat → WS) × Int32 × Int32) (l : List Nat) : Prop :=
  (∀ k, k < iN i → h.1 79 k = wst (s.1 k) ∧ h.1 80 k = wpl (s.1 k) ∧ h.1 81 k = (if k ∈ l then wle (s.1 k) + push else wle (s.1 k)) ∧ h.1 82 k = wpo (s.1 k) ∧ h.1 83 k = nI (wow (s.1 k)) ∧ h.1 84 k = wen (s.1 k) ∧ h.1 85 k = wbl (s.1 k)) ∧ h.1 68 27 = s.2.1 ∧
  (∀ c, c ≠ 68 → c ≠ 79 → c ≠ 80 → c ≠ 81 → c ≠ 83 → c ≠ 84 → c ≠ 85 → h.1 c = h0.1 c) ∧ (∀ z, z ≠ 27 → h.1 68 z = h0.1 68 z) ∧ h.2 = h0.2
theorem rs_tm {i : Inp} {h0 h : Hp} {push : Int32} {s : (Nat → WS) × Int32 × Int32} {l : List Nat} (R : RS i h0 h push s l) (T : TM i h0) : TM i h := by
  obtain ⟨r1, r2, r3, r4, r5⟩ := R
  obtain ⟨t1, t2, t3, t4, t5, t6, t7, t8, t9⟩ := T
  have e75 := r3 75 (by decide) (by decide) (by decide) (by decide) (by decide) (by decide) (by decide)
  have e76 := r3 76 (by decide) (by decide) (by decide) (by decide) (by decide) (by decide) (by decide)
  have e77 := r3 77 (by decide) (by decide) (by decide) (by decide) (by decide) (by decide) (by decide)
  have e78 := r3 78 (by decide) (by decide) (by decide) (by decide) (by decide) (by decide) (by decide)
  refine ⟨by rw [r4 7 (by decide)]; exact t1, by rw [r4 12 (by decide)]; exact t2, by rw [e77]; exact t3, by rw [e77]; exact t4, by rw [e77]; exact t5, by rw [r4 14 (by decide)]; exact t6, fun k hk => by rw [e75]; exact t7 k hk, fun j hj => by rw [e76]; exact t8 j hj, fun e he => by rw [e78]; exact t9 e he⟩
set_option maxHeartbeats 1000000 in
/-- one turn of the reference is one of the line -/
theorem rs_step {i : Inp} {h0 h : Hp} {b k c : Nat} {push : Int32} {s : (Nat → WS) × Int32 × Int32} {l : List Nat} (hI : InOk i) (hb : b < 24) (hc : c < 2) (hp : bd push 28) (T : TM i h0) (tc : h0.1 68 28 = nI c) (S : SC i b s (k :: l)) (R : RS i h0 h push s (k :: l)) :
    Ok (f_X8_moves h (nI b) (nI k)) (fun h' => RS i h0 h' push (va_up s.1 k (stepW i b (nI c) push s.2.2 k (s.1 k)), s.2.1 + sGo i (nI c) s.2.2 k (s.1 k), if wst (stepW i b (nI c) push s.2.2 k (s.1 k)) = 1 then wpl (stepW i b (nI c) push s.2.2 k (s.1 k)) else s.2.2) l) := by
  obtain ⟨p', -, -, -, -, hl1, -⟩ := sc_step hI hc hp S
  obtain ⟨⟨a, ha, ea, a1, a2, a3⟩, pw, nd, lm, wo⟩ := S
  obtain ⟨L, hL5, hL, eL⟩ := hI.2.2.2.1
  have hkl := List.nodup_cons.mp nd
  have hk := lm k List.mem_cons_self
  have w := wo k hk.1 hk.2
  rw [if_pos List.mem_cons_self] at w
  obtain ⟨w1, w2, w3, w4, w5⟩ := w
  rw [eL] at w2
  have hpk40 : pn (s.1 k) < 1000 := Nat.lt_of_lt_of_le (a1 k List.mem_cons_self) ha
  have hpL : pn (s.1 k) < L := (nI_ltI (by omega) (by omega)).mp w2
  have T' := rs_tm R T
  obtain ⟨r1, r2, r3, r4, r5⟩ := R
  obtain ⟨v1, v2, v3, v4, v5, v6, v7⟩ := r1 k hk.1
  rw [if_pos List.mem_cons_self] at v3
  have how : wow (s.1 k) < 24 := by omega
  have hpln : ∀ k', k' < iN i → wst (s.1 k') = 1 → wpl (s.1 k') = nI (pn (s.1 k')) := fun k' h1 h2 => (wo k' h1 h2).1
  have hpn40 : ∀ k', k' < iN i → wst (s.1 k') = 1 → pn (s.1 k') < 2 ^ 31 := fun k' h1 h2 => by
    unfold pn
    have := Int32.toInt_lt (wpl (s.1 k'))
    have h3 : (wpl (s.1 k')).toNatClampNeg = (wpl (s.1 k')).toInt.toNat := rfl
    omega
  have hfree : ∀ q, pn (s.1 k) < q → q < a → ∀ k', k' < iN i → k' ≠ k → ¬ (h.1 79 k' = 1 ∧ h.1 80 k' = nI q) := by
    intro q q1 q2 k' hk' hne ⟨z1, z2⟩
    obtain ⟨y1, y2, -⟩ := r1 k' hk'
    rw [y1] at z1
    rw [y2, hpln k' hk' z1] at z2
    have e := (nI_eq (hpn40 k' hk' z1) (by omega)).mp z2
    by_cases m : k' ∈ l
    · have := (List.pairwise_cons.mp pw).1 k' m
      omega
    · have := a2 k' hk' z1 (by simp [hne, m])
      omega
  have hblock : a = 1000 ∨ ∃ k', k' < iN i ∧ k' ≠ k ∧ h.1 79 k' = 1 ∧ h.1 80 k' = nI a := by
    rcases a3 with a3 | ⟨k', b1, b2, b3, b4⟩
    · exact Or.inl a3
    · obtain ⟨y1, y2, -⟩ := r1 k' b1
      exact Or.inr ⟨k', b1, fun q => b3 (by rw [q]; exact List.mem_cons_self), by rw [y1]; exact b2, by rw [y2, hpln k' b1 b2, b4]⟩
  have tc' : h.1 68 28 = nI c := by rw [r4 28 (by decide)]; exact tc
  rw [ea] at hl1 ⊢
  refine ok_mono (p_moves (push := push) (w := s.1 k) (a := a) hI.1 hk.1 hL ha T' tc' hc eL (hI.2.2.2.2.2.2.2 _ how) how (by rw [v1]; exact hk.2) v2 w1 v3 v6 v7 r2 v4 v5 hpL (a1 k List.mem_cons_self) hfree hblock (by unfold bd at hl1; omega)) (fun h' ⟨v, g⟩ => ?_)
  have hpo : wpo (stepW i b (nI c) push (nI a) k (s.1 k)) = wpo (s.1 k) := stl_po _ _ _ _ _ _
  generalize stepW i b (nI c) push (nI a) k (s.1 k) = W' at v hpo ⊢
  refine ⟨fun k' hk' => ?_, ?_, fun x x1 x2 x3 x4 x5 x6 x7 => ?_, fun z hz => ?_, g.trans r5⟩
  · by_cases e : k' = k
    · subst e
      simp only [up_self, if_neg hkl.1]
      refine ⟨?_, ?_, ?_, ?_, ?_, ?_, ?_⟩ <;> rw [v] <;> simp
      rw [v4, hpo]
    · obtain ⟨y1, y2, y3, y4, y5, y6, y7⟩ := r1 k' hk'
      simp only [up_ne e]
      have hm : (k' ∈ k :: l) = (k' ∈ l) := by simp [e]
      simp only [hm] at y3
      refine ⟨?_, ?_, ?_, ?_, ?_, ?_, ?_⟩ <;> rw [v] <;> simp [e]
      · exact y1
      · exact y2
      · exact y3
      · exact y4
      · exact y5
      · exact y6
      · exact y7
  · rw [v]; simp
  · have : h'.1 x = h.1 x := by
      funext z
      rw [v]
      simp [x1, x2, x3, x4, x5, x6, x7]
    rw [this]
    exact r3 x x1 x2 x3 x4 x5 x6 x7
  · rw [v]; simp [hz]; exact r4 z hz
