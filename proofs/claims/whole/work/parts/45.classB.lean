theorem stl_pl (i : Inp) (b : Nat) (pl l2 : Int32) (w : WS) (bl : Int32) : wpl (stl i b pl l2 w bl) = pl := by
  unfold stl; split
  · split <;> rfl
  · rfl
theorem stl_po (i : Inp) (b : Nat) (pl l2 : Int32) (w : WS) (bl : Int32) : wpo (stl i b pl l2 w bl) = wpo w := by
  unfold stl; split
  · split <;> rfl
  · rfl
theorem stl_bl (i : Inp) (b : Nat) (pl l2 : Int32) (w : WS) (bl : Int32) : wbl (stl i b pl l2 w bl) = bl := by
  unfold stl; split
  · split <;> rfl
  · rfl
theorem stl_ow (i : Inp) (b : Nat) (pl l2 : Int32) (w : WS) (bl : Int32) : wow (stl i b pl l2 w bl) = wow w + 1 := by
  unfold stl; split
  · split <;> rfl
  · rfl
theorem stl_st (i : Inp) (b : Nat) (pl l2 : Int32) (w : WS) (bl : Int32) : wst (stl i b pl l2 w bl) = 1 ∨ wst (stl i b pl l2 w bl) = 2 ∨ wst (stl i b pl l2 w bl) = 3 := by
  unfold stl; split
  · split
    · exact Or.inl rfl
    · exact Or.inr (Or.inr rfl)
  · exact Or.inr (Or.inl rfl)
/-- what was told, as the class holds it -/
def TI (i : Inp) (mc : Nat) (h : Hp) : Prop := h.1 5 7 = nI (iN i) ∧ h.1 5 8 = nI (iNe i) ∧ h.1 5 9 = iLen i ∧ h.1 5 10 = iSla i ∧ h.1 5 11 = iLim i ∧ (∀ k, k < iN i → h.1 6 k = iSt i k ∧ h.1 7 k = iSo i k ∧ h.1 8 k = iPo i k) ∧ (∀ j, j < 24 → h.1 mc j = iMv i j) ∧ ∀ e, e < iNe i → h.1 10 e = iEk i e ∧ h.1 11 e = iEb i e ∧ h.1 12 e = iEn i e
theorem TI.fr {i : Inp} {mc lo hi : Nat} {h h' : Hp} (t : TI i mc h) (f : FI lo hi h h') (hl : 13 ≤ lo) (hm : mc < lo ∨ hi ≤ mc) : TI i mc h' := by
  have g : ∀ c, c < 13 → h'.1 c = h.1 c := fun c hc => (f c (by omega)).1
  have g2 : h'.1 mc = h.1 mc := (f mc (by omega)).1
  obtain ⟨t1, t2, t3, t4, t5, t6, t7, t8⟩ := t
  refine ⟨by rw [g 5 (by decide)]; exact t1, by rw [g 5 (by decide)]; exact t2, by rw [g 5 (by decide)]; exact t3, by rw [g 5 (by decide)]; exact t4, by rw [g 5 (by decide)]; exact t5, fun k hk => ?_, fun j hj => by rw [g2]; exact t7 j hj, fun e he => ?_⟩
  · rw [g 6 (by decide), g 7 (by decide), g 8 (by decide)]; exact t6 k hk
  · rw [g 10 (by decide), g 11 (by decide), g 12 (by decide)]; exact t8 e he
/-- the weather of all beats -/
def WF (i : Inp) (S : Nat) (h : Hp) : Prop := ∀ b, b < 24 → h.1 (S + 2) b = gustN i b (iNe i) ∧ h.1 (S + 3) b = cheerN i b (iNe i) ∧ h.1 (S + 4) b = dropN i b (iNe i)
/-- the show's own cells hold ws, steps, line -/
def RC (i : Inp) (S : Nat) (h : Hp) (ws : Nat → WS) (steps : Int32) (line : List Nat) : Prop :=
  (∀ k, k < iN i → h.1 (S + 10) k = wst (ws k) ∧ h.1 (S + 11) k = wpl (ws k) ∧ h.1 (S + 12) k = wle (ws k) ∧ h.1 (S + 13) k = wpo (ws k) ∧ h.1 (S + 15) k = wen (ws k) ∧ h.1 (S + 16) k = wbl (ws k) ∧ h.1 (S + 17) k = wfa (ws k)) ∧
  h.1 S 11 = nI line.length ∧ (∀ (j : Nat) (hj : j < line.length), h.1 (S + 18) j = nI (line[j])) ∧ h.1 S 12 = steps ∧ h.1 S 13 = nI (cntW (iN i) ws 2) ∧ h.1 S 14 = nI (cntW (iN i) ws 3)
def BG (S : Nat) (h : Hp) (ws : Nat → WS) (k b : Nat) : Prop := wst (ws k) = 1 → ∃ g, h.1 (S + 14) k = nI g ∧ g + wow (ws k) + 1 = b
theorem cnt_up {n k : Nat} {ws : Nat → WS} {v : WS} {c : Int32} (hk : k < n) (h0 : wst (ws k) ≠ c) : cntW n (va_up ws k v) c = cntW n ws c + (if wst v = c then 1 else 0) := by
  unfold cntW
  induction n with
  | zero => omega
  | succ n ih =>
    rw [List.range_succ, List.filter_append, List.filter_append, List.length_append, List.length_append]
    by_cases hn : k = n
    · subst hn
      have e : (List.range k).filter (fun j => decide (wst (va_up ws k v j) = c)) = (List.range k).filter (fun j => decide (wst (ws j) = c)) := by
        apply List.filter_congr
        intro x hx
        have := List.mem_range.mp hx
        have hne : x ≠ k := by omega
        simp [va_up, hne]
      rw [e]
      by_cases hv : wst v = c
      · simp [va_up, hv, h0]
      · simp [va_up, hv, h0]
    · have h1 := ih (by omega)
      rw [h1]
      have hne : n ≠ k := fun q => hn q.symm
      simp only [List.filter_cons, List.filter_nil, va_up, if_neg hne]
      split <;> simp <;> omega
theorem lineF_app (i : Inp) (b : Nat) (cheer push : Int32) : ∀ (l1 l2 : List Nat) (s : (Nat → WS) × Int32 × Int32), lineF i b cheer push (l1 ++ l2) s = lineF i b cheer push l2 (lineF i b cheer push l1 s)
  | [], l2, s => rfl
  | k :: l1, l2, s => by
    rw [List.cons_append, lineF, lineF]
    split
    · exact lineF_app i b cheer push l1 l2 _
    · exact lineF_app i b cheer push l1 l2 _
theorem p_drop {i : Inp} {S b : Nat} {h : Hp} {m : Int32} : Ok (f_X2_dropPoles h S m) (fun h' => (∀ c, c ≠ S + 13 → h'.1 c = h.1 c) ∧ h'.2 = h.2 ∧ ∀ k, k < 6 → h'.1 (S + 13) k = if (m >>> (nI k &&& 31)) &&& 1 = 1 then 0 else h.1 (S + 13) k) := by
  unfold f_X2_dropPoles
  refine ok_fx2 (fun n h1 x => ∃ j, x = nI j ∧ j + n = 6 ∧ (∀ c, c ≠ S + 13 → h1.1 c = h.1 c) ∧ h1.2 = h.2 ∧ ∀ k, k < 6 → h1.1 (S + 13) k = if k < j ∧ (m >>> (nI k &&& 31)) &&& 1 = 1 then 0 else h.1 (S + 13) k) 6 (by decide) ⟨0, rfl, rfl, fun _ _ => rfl, rfl, fun k _ => by simp⟩ ?_
  rintro n self h1 x ⟨j, rfl, hj, h2, h3, h4⟩ ih
  by_cases hn : n = 0
  · have : j = 6 := by omega
    subst this
    rw [if_pos (show (6 : Int32) ≤ nI 6 by decide)]
    exact ok_some ⟨h2, h3, fun k hk => by rw [h4 k hk]; simp [hk]⟩
  · have hj6 : j < 6 := by omega
    rw [if_neg (show ¬ (6 : Int32) ≤ nI j from (show ∀ j, j < 6 → ¬ (6 : Int32) ≤ nI j by decide +kernel) j hj6)]
    have h31 : j < 2 ^ 31 := by omega
    simp only [lt1_eq, nm_eq, ck_nI hj6 (show 6 < 2 ^ 31 by decide), ux_nI h31]
    rw [show nI j + (1 : Int32) = nI (j + 1) from nI_1 j]
    refine ok_ite (fun hc => ?_) (fun hc => ?_)
    · refine ih (n - 1) _ _ (by omega) ⟨j + 1, rfl, by omega, fun c hc => by rw [uf_ne hc]; exact h2 c hc, h3, fun k hk => ?_⟩
      rw [uf_get]
      by_cases e : k = j
      · subst e; simp [hc]
      · rw [if_neg (by simp [e]), h4 k hk]
        have : (k < j + 1) = (k < j) := by simp; omega
        simp only [this]
    · refine ih (n - 1) _ _ (by omega) ⟨j + 1, rfl, by omega, h2, h3, fun k hk => ?_⟩
      rw [h4 k hk]
      by_cases e : k = j
      · subst e; simp [hc]
      · have : (k < j + 1) = (k < j) := by simp; omega
        simp only [this]
