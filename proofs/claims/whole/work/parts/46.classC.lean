def KP (S : Nat) (h h' : Hp) : Prop := ∀ c, c ≠ S → ¬ (S + 10 ≤ c ∧ c ≤ S + 18) → h'.1 c = h.1 c
theorem KP.uf {S k j : Nat} {h h' : Hp} {v : Int32} (a : KP S h h') (hk : k = S ∨ (S + 10 ≤ k ∧ k ≤ S + 18)) : KP S h (uf h' k j v) := fun c h1 h2 => by
  rw [uf_ne (fun q => by subst q; rcases hk with hk | hk; exact h1 hk; exact h2 hk)]
  exact a c h1 h2
theorem drop_cons {line l : List Nat} {j k : Nat} (h : line.drop j = k :: l) : ∃ hj : j < line.length, line[j] = k ∧ line.drop (j + 1) = l := by
  have hj : j < line.length := by
    apply Nat.lt_of_not_le
    intro q
    rw [List.drop_eq_nil_of_le q] at h
    cases h
  rw [List.drop_eq_getElem_cons hj] at h
  injection h with h1 h2
  exact ⟨hj, h1, h2⟩
theorem nI_lt6 {j : Nat} (h : j < 6) : ¬ (6 : Int32) ≤ nI j := (show ∀ j, j < 6 → ¬ (6 : Int32) ≤ nI j by decide +kernel) j h
theorem own_eq {b g o : Nat} (h : g + o + 1 = b) (hb : b < 24) : nI b - nI g - (1 : Int32) = nI o := by
  rw [pk_sub (by omega), show (1 : Int32) = nI 1 from rfl, pk_sub (by omega)]
  congr 1
  omega
set_option maxHeartbeats 1000000 in
theorem p_line {i : Inp} {S b mc : Nat} {h h2 : Hp} {ws : Nat → WS} {steps push : Int32} {line : List Nat} {P : Hp → Prop} {k1 : Hp → Int32 → Option Hp} (hN : iN i ≤ 6) (hS : 13 ≤ S) (hb : b < 24) (hmc : mc < S ∨ S + 19 ≤ mc) (hsl : sl mc = 24) (T : TI i mc h) (Wt : WF i S h) (R : RC i S h2 ws steps line) (si : SI i ws line) (bg : ∀ k, k < iN i → BG S h2 ws k b) (kp : KP S h h2)
    (hk : ∀ h4 x5, (RC i S h4 (lineF i b (cheerN i b (iNe i)) push line (ws, steps, 1000)).1 (lineF i b (cheerN i b (iNe i)) push line (ws, steps, 1000)).2.1 line ∧ SI i (lineF i b (cheerN i b (iNe i)) push line (ws, steps, 1000)).1 line ∧ (∀ k, k < iN i → BG S h4 (lineF i b (cheerN i b (iNe i)) push line (ws, steps, 1000)).1 k (b + 1)) ∧ KP S h h4 ∧ x5 = (lineF i b (cheerN i b (iNe i)) push line (ws, steps, 1000)).2.2) → Ok (k1 h4 x5) P) :
    Ok (fx3 FU (fun s2 (h6 : Hp) (x7 : Int32) (x8 : Int32) =>
            if (h6.1 S 11) ≤ x8 then (
              k1 h6 x7)
            else (
              if (6 : Int32) ≤ x8 then (
                k1 h6 x7)
              else (
                ck x8 6 (
                  nm (ia h6 (S + 18) x8) fun x9 =>
                  lt2 (fun (h10 : Hp) (x11 : Int32) =>
                    nm (x8 + (1 : Int32)) fun x12 =>
                    s2 h10 x11 x12) fun k3 =>
                  if x9 < 0 then (
                    k3 h6 x7)
                  else (
                    if (6 : Int32) ≤ x9 then (
                      k3 h6 x7)
                    else (
                      ck x9 6 (
                        if (ia h6 (S + 10) x9) = (1 : Int32) then (
                          ck x9 6 (
                            ck x9 6 (nm (ux h6 (S + 12) x9 ((ia h6 (S + 12) x9) + push)) fun h13 =>
                            ck x9 6 (
                              nm ((nI b - (ia h13 (S + 14) x9)) - (1 : Int32)) fun x14 =>
                              lt1 (fun (x15 : Int32) =>
                                ck (nI b) 24 (
                                  bdv (f_X2_perform h13 S x9 x15 (ia h13 ((S + 1) + 2) (nI b)) x7) fun h16 =>
                                  bdv (f_X2_settle h16 S x9 (nI b)) fun h17 =>
                                  ck x9 6 (
                                    lt1 (fun (x18 : Int32) =>
                                      k3 h17 x18) fun k5 =>
                                    if (ia h17 (S + 10) x9) = (1 : Int32) then (
                                      ck x9 6 (
                                        k5 (ia h17 (S + 11) x9)))
                                    else (
                                      k5 x7)))) fun k4 =>
                              lt1 (fun (u19 : Int32) =>
                                k4 (0 : Int32)) fun k6 =>
                              if x14 < 0 then (
                                k6 (0 : Int32))
                              else (
                                if (nI (sl mc)) ≤ x14 then (
                                  k6 (0 : Int32))
                                else (
                                  ck x14 (sl mc) (
                                    k4 (ia h13 mc x14))))))))
                        else (
                          k3 h6 x7)))))))) h2 (1000 : Int32) (0 : Int32)) P := by
  have hlen : line.length ≤ 6 := Nat.le_trans (nodup_lt (iN i) si.1 si.2.1) hN
  refine ok_fx3 (fun m h7 x8 x9 => ∃ (j : Nat) (l : List Nat) (s : (Nat → WS) × Int32 × Int32), x9 = nI j ∧ l.length = m ∧ line.drop j = l ∧ j ≤ line.length ∧ lineF i b (cheerN i b (iNe i)) push l s = lineF i b (cheerN i b (iNe i)) push line (ws, steps, 1000) ∧ x8 = s.2.2 ∧ RC i S h7 s.1 s.2.1 line ∧ SI i s.1 line ∧ (∀ k, k < iN i → BG S h7 s.1 k (if k ∈ l then b else b + 1)) ∧ KP S h h7) line.length (by omega) ⟨0, line, (ws, steps, 1000), rfl, rfl, rfl, Nat.zero_le _, rfl, rfl, R, si, fun k hk => by
    by_cases hm : k ∈ line
    · rw [if_pos hm]; exact bg k hk
    · intro h1
      exact absurd ((si.2.2.1 k hk).mpr (by rw [h1]; decide)) hm, kp⟩ ?_
  rintro m self h7 x8 x9 ⟨j, l, s, rfl, hl, hdrop, hj, hr, rfl, R7, S7, B7, K7⟩ ih
  cases l with
  | nil =>
    have hje : line.length ≤ j := List.drop_eq_nil_iff.mp hdrop
    rw [R7.2.1, if_pos (nI_le hje (by omega))]
    rw [lineF] at hr
    subst hr
    exact hk _ _ ⟨R7, S7, fun k hk => by have := B7 k hk; rw [if_neg List.not_mem_nil] at this; exact this, K7, rfl⟩
  | cons k l =>
    obtain ⟨hj2, hjk, hdrop2⟩ := drop_cons hdrop
    have hkm : k ∈ line := by rw [← hjk]; exact List.getElem_mem hj2
    have hkn : k < iN i := si.2.1 k hkm
    have hk6 : k < 6 := by omega
    have hj6 : j < 6 := by omega
    have k31 : k < 2 ^ 31 := by omega
    have j31 : j < 2 ^ 31 := by omega
    have hkl : k ∉ l := by
      have h1 : (k :: l).Nodup := by rw [← hdrop]; exact si.1.sublist (List.drop_sublist _ _)
      exact (List.nodup_cons.mp h1).1
    obtain ⟨a1, a2, a3, a4, a5, a6, a7⟩ := R7.1 k hkn
    rw [R7.2.1, if_neg (nI_ge hj2 (by omega)), if_neg (nI_lt6 hj6), ck_nI hj6 (by decide)]
    simp only [nm_eq]
    rw [ia_nI j31, R7.2.2.1 j hj2, hjk, lt2_eq, if_neg (nI_pos k31), if_neg (nI_lt6 hk6), ck_nI hk6 (by decide), ia_nI k31, a1]
    rw [lineF] at hr
    by_cases hon : wst (s.1 k) = 1
    · rw [if_pos hon] at hr
      rw [if_pos hon, ck_nI hk6 (by decide), ck_nI hk6 (by decide), ck_nI hk6 (by decide), ux_nI k31, ia_nI k31, a3]
      simp only [ia_nI k31]
      obtain ⟨g, hg, hgo⟩ := B7 k hkn hon
      rw [if_pos List.mem_cons_self] at hgo
      rw [uf_ne (show S + 14 ≠ S + 12 by omega), hg, own_eq hgo hb, hsl]
      have how : wow (s.1 k) < 24 := by omega
      rw [lt1_eq, lt1_eq, if_neg (nI_pos (show wow (s.1 k) < 2 ^ 31 by omega)), if_neg (nI_ge how (by decide)), ck_nI how (by decide), ia_nI (show wow (s.1 k) < 2 ^ 31 by omega)]
      dsimp only
      rw [ck_nI hb (by decide), ia_nI (show b < 2 ^ 31 by omega)]
      have mcne : mc ≠ S + 12 := by omega
      have tm : (uf h7 (S + 12) k (wle (s.1 k) + push)).1 mc (wow (s.1 k)) = iMv i (wow (s.1 k)) := by
        rw [uf_ne mcne, K7 mc (by omega) (by omega)]; exact T.2.2.2.2.2.2.1 _ how
      have tc : (uf h7 (S + 12) k (wle (s.1 k) + push)).1 (S + 1 + 2) b = cheerN i b (iNe i) := by
        rw [uf_ne (by omega), K7 (S + 1 + 2) (by omega) (by omega)]; exact (Wt b hb).2.1
      rw [tm, tc]
      have t7 : h7.1 7 k = iSo i k := by rw [K7 7 (by omega) (by omega)]; exact (T.2.2.2.2.2.1 k hkn).2.1
      have t5 : h7.1 5 = h.1 5 := K7 5 (by omega) (by omega)
      rw [p_perform (i := i) (push := push) (w := s.1 k) hk6 (by rw [uf_ne (by omega)]; exact t7) (by rw [uf_ne (by omega), t5]; exact T.2.2.1) (by rw [uf_ne (by omega)]; exact a2) (by rw [uf_get]; simp) (by rw [uf_ne (by omega)]; exact a4) (by rw [uf_ne (by omega)]; exact a6)]
      rw [bdv_some, uf_ne (show S ≠ S + 12 by omega)]
      rw [p_settle (i := i) (b := b) (w := s.1 k) (pl := sPl i (cheerN i b (iNe i)) s.2.2 k (s.1 k)) (l2 := sL2 i (cheerN i b (iNe i)) push s.2.2 k (s.1 k)) (bl := sBl i (cheerN i b (iNe i)) s.2.2 k (s.1 k)) hk6 (by rw [uf_ne (by omega), uf_ne (by omega), uf_ne (by omega), uf_ne (by omega), uf_ne (by omega), t5]; exact T.2.2.1) (by rw [uf_ne (by omega), uf_ne (by omega), uf_ne (by omega), uf_ne (by omega), uf_ne (by omega), t5]; exact T.2.2.2.2.1) (by simp [uf_get]) (by simp [uf_get]) (by simp [uf_get, a7]) (by simp [uf_get, a5]) (by simp [uf_get, a1, hon])]
      rw [bdv_some, ck_nI hk6 (by decide), lt1_eq]
      rw [show stl i b (sPl i (cheerN i b (iNe i)) s.2.2 k (s.1 k)) (sL2 i (cheerN i b (iNe i)) push s.2.2 k (s.1 k)) (s.1 k) (sBl i (cheerN i b (iNe i)) s.2.2 k (s.1 k)) = stepW i b (cheerN i b (iNe i)) push s.2.2 k (s.1 k) from rfl]
      have q1 : wpl (stepW i b (cheerN i b (iNe i)) push s.2.2 k (s.1 k)) = sPl i (cheerN i b (iNe i)) s.2.2 k (s.1 k) := stl_pl _ _ _ _ _ _
      have q2 : wpo (stepW i b (cheerN i b (iNe i)) push s.2.2 k (s.1 k)) = wpo (s.1 k) := stl_po _ _ _ _ _ _
      have q3 : wbl (stepW i b (cheerN i b (iNe i)) push s.2.2 k (s.1 k)) = sBl i (cheerN i b (iNe i)) s.2.2 k (s.1 k) := stl_bl _ _ _ _ _ _
      have q4 : wow (stepW i b (cheerN i b (iNe i)) push s.2.2 k (s.1 k)) = wow (s.1 k) + 1 := stl_ow _ _ _ _ _ _
      have q5 : wst (stepW i b (cheerN i b (iNe i)) push s.2.2 k (s.1 k)) = 1 ∨ wst (stepW i b (cheerN i b (iNe i)) push s.2.2 k (s.1 k)) = 2 ∨ wst (stepW i b (cheerN i b (iNe i)) push s.2.2 k (s.1 k)) = 3 := stl_st _ _ _ _ _ _
      generalize hW : stepW i b (cheerN i b (iNe i)) push s.2.2 k (s.1 k) = W' at *
      generalize hH : uf (uf (uf (uf (uf (uf _ (S + 10) k (wst W')) (S + 12) k (wle W')) (S + 15) k (wen W')) S 13 _) S 14 _) (S + 17) k (wfa W') = H'
      have v : ∀ c z, H'.1 c z = if c = S + 17 ∧ z = k then wfa W' else if c = S ∧ z = 14 then (if wst W' = 3 then h7.1 S 14 + 1 else h7.1 S 14) else if c = S ∧ z = 13 then (if wst W' = 2 then h7.1 S 13 + 1 else h7.1 S 13) else if c = S + 15 ∧ z = k then wen W' else if c = S + 12 ∧ z = k then wle W' else if c = S + 10 ∧ z = k then wst W' else if c = S + 16 ∧ z = k then wbl W' else if c = S ∧ z = 12 then s.2.1 + sGo i (cheerN i b (iNe i)) s.2.2 k (s.1 k) else if c = S + 11 ∧ z = k then wpl W' else h7.1 c z := by
        intro c z
        rw [← hH]
        have n12 : ∀ z : Nat, ¬ (S = S + 12 ∧ z = k) := fun z q => by omega
        have n16 : ∀ z : Nat, ¬ (S = S + 16 ∧ z = k) := fun z q => by omega
        have n11 : ∀ z : Nat, ¬ (S = S + 11 ∧ z = k) := fun z q => by omega
        have m13 : ¬ (S = S ∧ (13 : Nat) = 12) := by omega
        have m14 : ¬ (S = S ∧ (14 : Nat) = 12) := by omega
        simp only [uf_get, q1, q3, if_neg (n12 _), if_neg (n16 _), if_neg (n11 _), if_neg m13, if_neg m14, R7.2.2.2.1]
        by_cases e12 : c = S + 12 ∧ z = k
        · simp [e12]
        · simp only [if_neg e12, show ¬ (True ∧ (14 : Nat) = 12) by simp, show ¬ (True ∧ (13 : Nat) = 12) by simp, if_false]
      have g10 : H'.1 (S + 10) k = wst W' := by rw [v]; simp
      have g11 : H'.1 (S + 11) k = wpl W' := by rw [v]; simp
      have key : ∀ x8', x8' = (if wst W' = 1 then wpl W' else s.2.2) → Ok (self H' x8' (nI (j + 1))) P := by
        intro x8' ex
        refine ih l.length _ _ _ (by simp at hl; omega) ⟨j + 1, l, (va_up s.1 k W', s.2.1 + sGo i (cheerN i b (iNe i)) s.2.2 k (s.1 k), if wst W' = 1 then wpl W' else s.2.2), rfl, rfl, hdrop2, hj2, hr, ex, ⟨fun k' hk' => ?_, ?_, fun j' hj' => ?_, ?_, ?_, ?_⟩, ⟨S7.1, S7.2.1, fun k' hk' => ?_, fun k' hk' => ?_⟩, fun k' hk' => ?_, ?_⟩
        · by_cases e : k' = k
          · subst e
            simp [v, va_up, q2, a4]
          · simpa [v, va_up, e] using R7.1 k' hk'
        · rw [v]; simp [R7.2.1]
        · rw [v]; simp; exact R7.2.2.1 j' hj'
        · rw [v]; simp
        · rw [v]
          rw [cnt_up hkn (by rw [hon]; decide)]
          by_cases e : wst W' = 2
          · simp [e, R7.2.2.2.2.1, nI_1]
          · simp [e, R7.2.2.2.2.1]
        · rw [v]
          rw [cnt_up hkn (by rw [hon]; decide)]
          by_cases e : wst W' = 3
          · simp [e, R7.2.2.2.2.2, nI_1]
          · simp [e, R7.2.2.2.2.2]
        · by_cases e : k' = k
          · subst e
            simp only [va_up, if_true]
            refine ⟨fun _ => ?_, fun _ => hkm⟩
            rcases q5 with q5 | q5 | q5 <;> rw [q5] <;> decide
          · simpa [va_up, e] using S7.2.2.1 k' hk'
        · by_cases e : k' = k
          · subst e
            simp only [va_up, if_true]
            exact Or.inr q5
          · simpa [va_up, e] using S7.2.2.2 k' hk'
        · by_cases e : k' = k
          · subst e
            rw [if_neg hkl]
            intro _
            refine ⟨g, ?_, ?_⟩
            · rw [v]; simp [hg]
            · simp only [va_up, if_true]; omega
          · have := B7 k' hk'
            intro h1
            simp only [va_up, if_neg e] at h1 ⊢
            obtain ⟨g', w1, w2⟩ := this h1
            refine ⟨g', ?_, ?_⟩
            · rw [v]; simp [e, w1]
            · simpa [e] using w2
        · intro c c1 c2
          have : H'.1 c = h7.1 c := by
            funext z
            rw [v]
            have x1 : c ≠ S + 17 := by omega
            have x2 : c ≠ S + 15 := by omega
            have x3 : c ≠ S + 12 := by omega
            have x4 : c ≠ S + 10 := by omega
            have x5 : c ≠ S + 16 := by omega
            have x6 : c ≠ S + 11 := by omega
            simp [x1, x2, x3, x4, x5, x6, c1]
          rw [this]
          exact K7 c c1 c2
      rw [g10, show nI j + (1 : Int32) = nI (j + 1) from nI_1 j]
      by_cases ew : wst W' = 1
      · rw [if_pos ew, ck_nI hk6 (by decide), g11]
        exact key _ (by rw [if_pos ew])
      · rw [if_neg ew]
        exact key _ (by rw [if_neg ew])
    · rw [if_neg hon] at hr
      rw [if_neg hon, show nI j + (1 : Int32) = nI (j + 1) from nI_1 j]
      refine ih l.length _ _ _ (by simp at hl; omega) ⟨j + 1, l, s, rfl, rfl, hdrop2, hj2, hr, rfl, R7, S7, fun k' hk' => ?_, K7⟩
      by_cases e : k' = k
      · subst e; intro h1; exact absurd h1 hon
      · have := B7 k' hk'
        simpa [e] using this
