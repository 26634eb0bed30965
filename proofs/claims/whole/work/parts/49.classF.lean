theorem row_eq {b k : Nat} (hb : b < 24) (hk : k < 6) : f_X0_rowOf (nI b) (nI k) = some (nI (6 * b + k)) := (show ∀ b, b < 24 → ∀ k, k < 6 → f_X0_rowOf (nI b) (nI k) = some (nI (6 * b + k)) by decide +kernel) b hb k hk
theorem rb6 (b k : Nat) : nI b * (6 : Int32) + nI k = nI (6 * b + k) := by rw [show (6 : Int32) = nI 6 from rfl, pk_mul, nI_add, Nat.mul_comm]
theorem p_note {h : Hp} {S r : Nat} {x y z : Int32} (hr : r < 144) : f_X0_note h S (nI r) x y z = some (uf (uf (uf h (S + 1) r x) (S + 2) r y) (S + 3) r z) := by
  unfold f_X0_note
  rw [if_neg (nI_pos (show r < 2 ^ 31 by omega)), if_neg (geb144 hr)]
  simp only [ck_nI hr (show 144 < 2 ^ 31 by decide), nm_eq, ux_nI (show r < 2 ^ 31 by omega)]
theorem p_noteSway {h : Hp} {S b : Nat} {x : Int32} (hb : b < 24) : f_X0_noteSway h S (nI b) x = some (uf h (S + 4) b x) := by
  unfold f_X0_noteSway
  rw [if_neg (nI_pos (show b < 2 ^ 31 by omega)), if_neg (geb24 hb), ck_nI hb (by decide), ux_nI (by omega)]
  rfl
theorem p_noteBeat {i : Inp} {S b : Nat} {h : Hp} {ws : Nat → WS} {steps sw : Int32} {line : List Nat} (hN : iN i ≤ 6) (hb : b < 24) (R : RC i S h ws steps line) :
    Ok (f_X2_noteBeat h S (nI b) sw (nI (iN i))) (fun h' => (∀ k, k < iN i → h'.1 (S + 6) (6 * b + k) = wst (ws k) ∧ h'.1 (S + 7) (6 * b + k) = wpl (ws k) ∧ h'.1 (S + 8) (6 * b + k) = wle (ws k)) ∧ h'.1 (S + 9) b = sw ∧ (∀ z, z < 6 * b → h'.1 (S + 6) z = h.1 (S + 6) z ∧ h'.1 (S + 7) z = h.1 (S + 7) z ∧ h'.1 (S + 8) z = h.1 (S + 8) z) ∧ (∀ z, z ≠ b → h'.1 (S + 9) z = h.1 (S + 9) z) ∧ (∀ c, c < S + 6 ∨ S + 10 ≤ c → h'.1 c = h.1 c) ∧ h'.2 = h.2) := by
  unfold f_X2_noteBeat
  rw [p_noteSway hb, bdv_some]
  refine ok_fx2 (fun m h2 x => ∃ j, x = nI j ∧ j + m = iN i ∧ (∀ k, k < j → h2.1 (S + 6) (6 * b + k) = wst (ws k) ∧ h2.1 (S + 7) (6 * b + k) = wpl (ws k) ∧ h2.1 (S + 8) (6 * b + k) = wle (ws k)) ∧ h2.1 (S + 9) b = sw ∧ (∀ z, z < 6 * b → h2.1 (S + 6) z = h.1 (S + 6) z ∧ h2.1 (S + 7) z = h.1 (S + 7) z ∧ h2.1 (S + 8) z = h.1 (S + 8) z) ∧ (∀ z, z ≠ b → h2.1 (S + 9) z = h.1 (S + 9) z) ∧ (∀ c, c < S + 6 ∨ S + 10 ≤ c → h2.1 c = h.1 c) ∧ h2.2 = h.2) (iN i) (by omega) ⟨0, rfl, by omega, fun k hk => by omega, by simp [uf_get], fun z hz => by simp [uf_get], fun z hz => by simp [uf_get, hz], fun c hc => by rw [uf_ne (by omega)], rfl⟩ ?_
  rintro m self h2 x ⟨j, rfl, hj, r1, r2, r3, r4, r5, r6⟩ ih
  by_cases hm : m = 0
  · have e : j = iN i := by omega
    subst e
    rw [if_pos (nI_le (Nat.le_refl _) (by omega))]
    exact ok_some ⟨r1, r2, r3, r4, r5, r6⟩
  · have hjn : j < iN i := by omega
    have hj6 : j < 6 := by omega
    have j31 : j < 2 ^ 31 := by omega
    obtain ⟨a1, a2, a3, -⟩ := R.1 j hjn
    rw [if_neg (nI_ge hjn (by omega)), if_neg (nI_lt6 hj6)]
    simp only [ck_nI hj6 (show 6 < 2 ^ 31 by decide), nm_eq, ia_nI j31]
    rw [r5 _ (by omega), r5 _ (by omega), r5 _ (by omega), a1, a2, a3, rb6, p_note (show 6 * b + j < 144 by omega), bdv_some, show nI j + (1 : Int32) = nI (j + 1) from nI_1 j]
    refine ih (m - 1) _ _ (by omega) ⟨j + 1, rfl, by omega, fun k hk => ?_, ?_, fun z hz => ?_, fun z hz => ?_, fun c hc => ?_, r6⟩
    · by_cases e : k = j
      · subst e; simp [uf_get]
      · have h6 : 6 * b + k ≠ 6 * b + j := by omega
        simpa [uf_get, h6, e] using r1 k (by omega)
    · simpa [uf_get] using r2
    · have h6 : z ≠ 6 * b + j := by omega
      simpa [uf_get, h6] using r3 z hz
    · simpa [uf_get] using r4 z hz
    · rw [uf_ne (by omega), uf_ne (by omega), uf_ne (by omega)]; exact r5 c hc
/-- the show behind b beats is in the ledger -/
def LG (i : Inp) (S : Nat) (h : Hp) (b : Nat) : Prop := ∀ c, c < b → (∀ k, k < iN i → h.1 (S + 6) (6 * c + k) = wst ((runF i (c + 1)).1.1 k) ∧ h.1 (S + 7) (6 * c + k) = wpl ((runF i (c + 1)).1.1 k) ∧ h.1 (S + 8) (6 * c + k) = wle ((runF i (c + 1)).1.1 k)) ∧ h.1 (S + 9) c = swayF i c (runF i c).2
theorem cnt23 (n : Nat) (ws : Nat → WS) : cntW n ws 2 + cntW n ws 3 ≤ n ∧ (cntW n ws 2 + cntW n ws 3 = n → ∀ k, k < n → wst (ws k) = 2 ∨ wst (ws k) = 3) := by
  induction n with
  | zero => exact ⟨by simp [cntW], fun _ k hk => by omega⟩
  | succ n ih =>
    have e : ∀ c : Int32, cntW (n + 1) ws c = cntW n ws c + (if wst (ws n) = c then 1 else 0) := by
      intro c
      unfold cntW
      rw [List.range_succ, List.filter_append, List.length_append]
      by_cases hc : wst (ws n) = c <;> simp [hc]
    rw [e, e]
    by_cases h2 : wst (ws n) = 2
    · rw [if_pos h2, if_neg (by rw [h2]; decide)]
      refine ⟨by omega, fun q k hk => ?_⟩
      by_cases ek : k = n
      · subst ek; exact Or.inl h2
      · exact ih.2 (by omega) k (by omega)
    · rw [if_neg h2]
      by_cases h3 : wst (ws n) = 3
      · rw [if_pos h3]
        refine ⟨by omega, fun q k hk => ?_⟩
        by_cases ek : k = n
        · subst ek; exact Or.inr h3
        · exact ih.2 (by omega) k (by omega)
      · rw [if_neg h3]
        exact ⟨by omega, fun q k hk => by omega⟩
theorem cnt_congr {n : Nat} {ws ws' : Nat → WS} {c : Int32} (h : ∀ k, k < n → wst (ws k) = wst (ws' k)) : cntW n ws c = cntW n ws' c := by
  unfold cntW
  have e : (List.range n).filter (fun k => decide (wst (ws k) = c)) = (List.range n).filter (fun k => decide (wst (ws' k) = c)) := by
    apply List.filter_congr
    intro x hx
    rw [h x (List.mem_range.mp hx)]
  rw [e]
theorem line_none (i : Inp) (b : Nat) (cheer push : Int32) : ∀ (l : List Nat) (s : (Nat → WS) × Int32 × Int32), (∀ k ∈ l, ¬ wst (s.1 k) = 1) → lineF i b cheer push l s = s
  | [], s, _ => rfl
  | k :: l, s, h => by
    rw [lineF, if_neg (h k List.mem_cons_self)]
    exact line_none i b cheer push l s (fun k' hk' => h k' (List.mem_cons_of_mem _ hk'))
theorem drop_wst (i : Inp) (b : Nat) (ws : Nat → WS) (k : Nat) : wst (dropF i b ws k) = wst (ws k) := by
  unfold dropF; split <;> rfl
theorem beat_end {i : Inp} {b : Nat} {m : Int32} {s : SS} (hl : ∀ k ∈ s.2.2, k < iN i) (he : ∀ k, k < iN i → wst (s.1 k) = 2 ∨ wst (s.1 k) = 3) : (∀ k, wst ((beatF i b m s).1 k) = wst (s.1 k)) ∧ (beatF i b m s).2.1 = s.2.1 ∧ (beatF i b m s).2.2 = s.2.2 := by
  have e1 : lineF i b (cheerN i b (iNe i)) (gustN i b (iNe i) + swayF i b m) s.2.2 (dropF i b s.1, s.2.1, 1000) = (dropF i b s.1, s.2.1, 1000) := by
    apply line_none
    intro k hk
    rw [drop_wst]
    rcases he k (hl k hk) with q | q <;> rw [q] <;> decide
  have e2 : startF i b (dropF i b s.1) = none := by
    apply find_none
    intro k hk
    unfold readyF
    rw [drop_wst]
    rcases he k hk with q | q <;> simp [q]
  unfold beatF
  rw [e1]
  simp only [e2]
  split <;> exact ⟨fun k => drop_wst i b s.1 k, rfl, rfl⟩
theorem run_end {i : Inp} {b : Nat} (hl : ∀ k ∈ (runF i b).1.2.2, k < iN i) (he : ∀ k, k < iN i → wst ((runF i b).1.1 k) = 2 ∨ wst ((runF i b).1.1 k) = 3) : ∀ d, (∀ k, wst ((runF i (b + d)).1.1 k) = wst ((runF i b).1.1 k)) ∧ (runF i (b + d)).1.2.1 = (runF i b).1.2.1 ∧ (runF i (b + d)).1.2.2 = (runF i b).1.2.2
  | 0 => ⟨fun _ => rfl, rfl, rfl⟩
  | d + 1 => by
    obtain ⟨h1, h2, h3⟩ := run_end hl he d
    have := beat_end (i := i) (b := b + d) (m := (runF i (b + d)).2) (s := (runF i (b + d)).1) (by rw [h3]; exact hl) (fun k hk => by rw [h1 k]; exact he k hk)
    exact ⟨fun k => (this.1 k).trans (h1 k), this.2.1.trans h2, this.2.2.trans h3⟩
theorem par_eq {b : Nat} (hb : b < 24) : (nI b - nI b / (2 : Int32) * (2 : Int32) = 0) = (b % 2 = 0) := by
  have := (show ∀ b, b < 24 → (nI b - nI b / (2 : Int32) * (2 : Int32) = 0 ↔ b % 2 = 0) by decide +kernel) b hb
  exact propext this
/-- what a show leaves, if the ledger isn't kept -/
def RE (i : Inp) (S : Nat) (h : Hp) : Prop := (∀ k, k < iN i → h.1 (S + 10) k = wst ((runF i 24).1.1 k)) ∧ h.1 S 12 = (runF i 24).1.2.1 ∧ h.1 S 13 = nI (cntW (iN i) (runF i 24).1.1 2) ∧ h.1 S 14 = nI (cntW (iN i) (runF i 24).1.1 3)
theorem RC.re {i : Inp} {S : Nat} {h : Hp} {line : List Nat} (r : RC i S h (runF i 24).1.1 (runF i 24).1.2.1 line) : RE i S h := ⟨fun k hk => (r.1 k hk).1, r.2.2.2.1, r.2.2.2.2.1, r.2.2.2.2.2⟩
set_option maxHeartbeats 1000000 in
theorem p_play {i : Inp} {S mc : Nat} {h : Hp} {wo a4 : Int32} (hI : InOk i) (hS : sk S = 2) (hmc : mc < S ∨ S + 19 ≤ mc) (hsl : sl mc = 24) (hw : wo = iWo i) (T : TI i mc h) :
    Ok (f_X2_play h S mc wo a4) (fun h' => RE i S h' ∧ (a4 ≠ 0 → (RC i S h' (runF i 24).1.1 (runF i 24).1.2.1 (runF i 24).1.2.2 ∧ LG i S h' 24))) := by
  have hN := hI.1
  have hS13 : 13 ≤ S := (show ∀ k, k < 93 → sk k = 2 → 13 ≤ k by decide +kernel) S (sk_lt hS (by decide)) hS
  have ls : sl (S + 1 + 1) = 24 ∧ sl (S + 1 + 2) = 24 ∧ sl (S + 1 + 3) = 24 := (show ∀ k, k < 93 → sk k = 2 → sl (k + 1 + 1) = 24 ∧ sl (k + 1 + 2) = 24 ∧ sl (k + 1 + 3) = 24 by decide +kernel) S (sk_lt hS (by decide)) hS
  unfold f_X2_play
  rw [T.1, show jmin (nI (iN i)) (6 : Int32) = nI (iN i) from (show ∀ n, n < 7 → jmin (nI n) (6 : Int32) = nI n by decide +kernel) _ (by omega), nm_eq]
  refine ok_bdv (p_prepare hN hS13 (fun k hk => (T.2.2.2.2.2.1 k hk).2.2)) (fun h2 ⟨R2, K2, g2⟩ => ?_)
  have k2 : ∀ c, c < S → h2.1 c = h.1 c := fun c hc => K2 c (by omega) (by omega)
  have m2' : h2.1 mc = h.1 mc := K2 mc (by omega) (by omega)
  refine ok_bdv (p_gather (i := i) hI (by omega) hw ls.1 ls.2.1 ls.2.2 (by rw [k2 5 (by omega)]; exact T.2.1) (fun e he => by rw [k2 10 (by omega), k2 11 (by omega), k2 12 (by omega)]; exact T.2.2.2.2.2.2.2 e he)) (fun h3 ⟨W3, F3, g3⟩ => ?_)
  have T3 : TI i mc h3 := by
    have e : ∀ c, c < S → h3.1 c = h.1 c := fun c hc => (F3 c (by omega)).trans (k2 c hc)
    have em : h3.1 mc = h.1 mc := (F3 mc (by omega)).trans m2'
    obtain ⟨t1, t2, t3, t4, t5, t6, t7, t8⟩ := T
    exact ⟨by rw [e 5 (by omega)]; exact t1, by rw [e 5 (by omega)]; exact t2, by rw [e 5 (by omega)]; exact t3, by rw [e 5 (by omega)]; exact t4, by rw [e 5 (by omega)]; exact t5, fun k hk => by rw [e 6 (by omega), e 7 (by omega), e 8 (by omega)]; exact t6 k hk, fun j hj => by rw [em]; exact t7 j hj, fun z hz => by rw [e 10 (by omega), e 11 (by omega), e 12 (by omega)]; exact t8 z hz⟩
  have R3 : RC i S h3 (ini i) 0 [] := by
    refine ⟨fun k hk => ?_, by rw [F3 S (by omega)]; exact R2.2.1, fun j hj => by simp at hj, by rw [F3 S (by omega)]; exact R2.2.2.2.1, by rw [F3 S (by omega)]; exact R2.2.2.2.2.1, by rw [F3 S (by omega)]; exact R2.2.2.2.2.2⟩
    rw [F3 (S + 10) (by omega), F3 (S + 11) (by omega), F3 (S + 12) (by omega), F3 (S + 13) (by omega), F3 (S + 15) (by omega), F3 (S + 16) (by omega), F3 (S + 17) (by omega)]
    exact R2.1 k hk
  refine ok_fx3 (fun m h4 x5 x6 => ∃ b, x6 = nI b ∧ b + m = 24 ∧ x5 = (runF i b).2 ∧ RC i S h4 (runF i b).1.1 (runF i b).1.2.1 (runF i b).1.2.2 ∧ SI i (runF i b).1.1 (runF i b).1.2.2 ∧ (∀ k, k < iN i → BG S h4 (runF i b).1.1 k b) ∧ WF i S h4 ∧ TI i mc h4 ∧ (a4 ≠ 0 → LG i S h4 b)) 24 (by decide) ⟨0, rfl, rfl, rfl, R3, ⟨List.nodup_nil, fun k hk => by simp [runF] at hk, fun k hk => by simp [runF, ini, wst], fun k hk => Or.inl rfl⟩, fun k hk q => absurd q (show ¬ (0 : Int32) = 1 by decide), W3, T3, fun _ c hc => by omega⟩ ?_
  rintro m self h4 x5 x6 ⟨b, rfl, hbm, rfl, R4, S4, B4, W4, T4, L4⟩ ih
  by_cases hm : m = 0
  · have e : b = 24 := by omega
    subst e
    rw [if_pos (show (24 : Int32) ≤ nI 24 by decide)]
    exact ok_some ⟨R4.re, fun q => ⟨R4, L4 q⟩⟩
  · have hb : b < 24 := by omega
    rw [if_neg (show ¬ (24 : Int32) ≤ nI b from (show ∀ j, j < 24 → ¬ (24 : Int32) ≤ nI j by decide +kernel) b hb)]
    simp only [lt1_if, nm_eq]
    rw [T4.2.2.2.1]
    have hsw : (if (runF i b).2 = 0 then (0 : Int32) else if nI b - nI b / (2 : Int32) * (2 : Int32) = 0 then iSla i / (2 : Int32) else 0 - iSla i / (2 : Int32)) = swayF i b (runF i b).2 := by
      unfold swayF
      simp only [par_eq hb]
    rw [hsw]
    have hbeat : beatF i b (runF i b).2 ((runF i b).1.1, (runF i b).1.2.1, (runF i b).1.2.2) = (runF i (b + 1)).1 := rfl
    have pb := p_beat (moved := (runF i b).2) hN hS13 hb hmc hsl T4 W4 R4 S4 B4
    rw [hbeat] at pb
    obtain ⟨h10, e10, R10, S10, B10, K10⟩ := pb
    have F10 := r_X2_playBeat h4 S mc (nI b) (swayF i b (runF i b).2) h10 e10
    have T10 : TI i mc h10 := T4.fr F10 hS13 (by omega)
    have W10 : WF i S h10 := fun c hc => by
      rw [K10 (S + 2) (by omega) (by omega), K10 (S + 3) (by omega) (by omega), K10 (S + 4) (by omega) (by omega)]
      exact W4 c hc
    rw [e10, bdv_some]
    have hmv : (if h10.1 S 12 ≤ h4.1 S 12 then (0 : Int32) else 1) = (runF i (b + 1)).2 := by
      rw [R10.2.2.2.1, R4.2.2.2.1]; rfl
    rw [hmv, lt1_eq, show nI b + (1 : Int32) = nI (b + 1) from nI_1 b]
    by_cases ha : a4 = 0
    · rw [if_pos ha, R10.2.2.2.2.1, R10.2.2.2.2.2, nI_add]
      have c23 := cnt23 (iN i) (runF i (b + 1)).1.1
      by_cases hc : nI (cntW (iN i) (runF i (b + 1)).1.1 2 + cntW (iN i) (runF i (b + 1)).1.1 3) < nI (iN i)
      · rw [if_pos hc]
        exact ih (m - 1) _ _ _ (by omega) ⟨b + 1, rfl, by omega, rfl, R10, S10, B10, W10, T10, fun q => absurd ha q⟩
      · rw [if_neg hc]
        have hge := mt (nI_ltI (a := cntW (iN i) (runF i (b + 1)).1.1 2 + cntW (iN i) (runF i (b + 1)).1.1 3) (b := iN i) (by omega) (by omega)).mpr hc
        have hall := c23.2 (by omega)
        have st := run_end (i := i) (b := b + 1) S10.2.1 hall (23 - b)
        rw [show b + 1 + (23 - b) = 24 by omega] at st
        have cn : ∀ c : Int32, cntW (iN i) (runF i 24).1.1 c = cntW (iN i) (runF i (b + 1)).1.1 c := fun c => cnt_congr (fun k _ => st.1 k)
        exact ok_some ⟨⟨fun k hk => by rw [st.1 k]; exact (R10.1 k hk).1, by rw [st.2.1]; exact R10.2.2.2.1, by rw [cn]; exact R10.2.2.2.2.1, by rw [cn]; exact R10.2.2.2.2.2⟩, fun q => absurd ha q⟩
    · rw [if_neg ha]
      refine ok_bdv (p_noteBeat hN hb R10) (fun h14 ⟨n1, n2, n3, n4, n5, n6⟩ => ?_)
      refine ih (m - 1) _ _ _ (by omega) ⟨b + 1, rfl, by omega, rfl, ⟨fun k hk => ?_, by rw [n5 _ (by omega)]; exact R10.2.1, fun j hj => by rw [n5 _ (by omega)]; exact R10.2.2.1 j hj, by rw [n5 _ (by omega)]; exact R10.2.2.2.1, by rw [n5 _ (by omega)]; exact R10.2.2.2.2.1, by rw [n5 _ (by omega)]; exact R10.2.2.2.2.2⟩, S10, fun k hk q => ?_, fun c hc => ?_, ?_, fun q c hc => ?_⟩
      · rw [n5 (S + 10) (by omega), n5 (S + 11) (by omega), n5 (S + 12) (by omega), n5 (S + 13) (by omega), n5 (S + 15) (by omega), n5 (S + 16) (by omega), n5 (S + 17) (by omega)]
        exact R10.1 k hk
      · rw [n5 _ (by omega)]; exact B10 k hk q
      · rw [n5 _ (by omega), n5 _ (by omega), n5 _ (by omega)]; exact W10 c hc
      · obtain ⟨t1, t2, t3, t4, t5, t6, t7, t8⟩ := T10
        exact ⟨by rw [n5 5 (by omega)]; exact t1, by rw [n5 5 (by omega)]; exact t2, by rw [n5 5 (by omega)]; exact t3, by rw [n5 5 (by omega)]; exact t4, by rw [n5 5 (by omega)]; exact t5, fun k hk => by rw [n5 6 (by omega), n5 7 (by omega), n5 8 (by omega)]; exact t6 k hk, fun j hj => by rw [n5 mc (by omega)]; exact t7 j hj, fun z hz => by rw [n5 10 (by omega), n5 11 (by omega), n5 12 (by omega)]; exact t8 z hz⟩
      · by_cases ecb : c = b
        · subst ecb
          exact ⟨n1, n2⟩
        · obtain ⟨l1, l2⟩ := L4 q c (by omega)
          refine ⟨fun k hk => ?_, ?_⟩
          · have hz : 6 * c + k < 6 * b := by omega
            obtain ⟨z1, z2, z3⟩ := n3 _ hz
            rw [z1, z2, z3, K10 (S + 6) (by omega) (by omega), K10 (S + 7) (by omega) (by omega), K10 (S + 8) (by omega) (by omega)]
            exact l1 k hk
          · rw [n4 c ecb, K10 (S + 9) (by omega) (by omega)]
            exact l2
