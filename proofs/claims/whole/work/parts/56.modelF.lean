/-- who has had a turn, as bits -/
def DM (i : Inp) (x : Int32) (s : (Nat → WS) × Int32 × Int32) (l : List Nat) : Prop := ∃ d, d < 64 ∧ x = nI d ∧ ∀ k, k < iN i → wst (s.1 k) = 1 → (k ∈ l ↔ ¬ ((nI d >>> (nI k &&& 31)) &&& 1 = 1))
theorem bit_lt {d nu : Nat} (hd : d < 64) (hn : nu < 6) : ∃ c, c < 64 ∧ nI d ||| ((1 : Int32) <<< (nI nu &&& 31)) = nI c := by
  have h1 : ∀ d, d < 64 → ∀ nu, nu < 6 → (nI d ||| ((1 : Int32) <<< (nI nu &&& 31))).toNatClampNeg < 64 ∧ nI d ||| ((1 : Int32) <<< (nI nu &&& 31)) = nI (nI d ||| ((1 : Int32) <<< (nI nu &&& 31))).toNatClampNeg := by decide +kernel
  exact ⟨_, h1 d hd nu hn⟩
set_option maxHeartbeats 1000000 in
theorem p_scan {i : Inp} {h0 h5 : Hp} {b c : Nat} {push : Int32} {s0 : (Nat → WS) × Int32 × Int32} {ol : List Nat} {P : Hp → Prop} {k3 : Hp → Option Hp} (hI : InOk i) (hb : b < 24) (hc : c < 2) (hp : bd push 28) (T : TM i h0) (tc : h0.1 68 28 = nI c) (S : SC i b s0 ol) (R : RS i h0 h5 push s0 ol) (hall : ∀ k, k < iN i → wst (s0.1 k) = 1 → k ∈ ol)
    (hk3 : ∀ h', RS i h0 h' push (lineF i b (nI c) push ol s0) [] → SC i b (lineF i b (nI c) push ol s0) [] → Ok (k3 h') P) :
    Ok (fx3 FU (fun s8 (h24 : Hp) (x25 : Int32) (x26 : Int32) =>
          if x26 < 0 then (
            k3 h24)
          else (
            lt2 (fun (h27 : Hp) (x28 : Int32) =>
              nm (x26 + (-1 : Int32)) fun x29 =>
              s8 h27 x28 x29) fun k9 =>
            fx3 FU (fun s10 (h30 : Hp) (x31 : Int32) (x32 : Int32) =>
              if (h30.1 68 7) ≤ x32 then (
                k9 h30 x31)
              else (
                ck x32 6 (
                  lt2 (fun (h33 : Hp) (x34 : Int32) =>
                    nm (x32 + (1 : Int32)) fun x35 =>
                    s10 h33 x34 x35) fun k11 =>
                  if (ia h30 79 x32) = (1 : Int32) then (
                    ck x32 6 (
                      if (ia h30 80 x32) = x26 then (
                        bdr (f_X8_isIn x31 x32) fun x36 =>
                        if x36 = 0 then (
                          nm (x31 ||| ((1 : Int32) <<< (x32 &&& 31))) fun x37 =>
                          bdv (f_X8_moves h30 (nI b) x32) fun h38 =>
                          k11 h38 x37)
                        else (
                          k11 h30 x31))
                      else (
                        k11 h30 x31)))
                  else (
                    k11 h30 x31)))) h24 x25 (0 : Int32))) h5 (0 : Int32) (40 : Int32)) P := by
  have hN := hI.1
  obtain ⟨L, hL5, hL, eL⟩ := hI.2.2.2.1
  refine ok_fx3 (fun m h24 x25 x26 => (m = 0 ∧ x26 = -1 ∨ ∃ p, x26 = nI p ∧ m = p + 1 ∧ p ≤ 40) ∧ ∃ l s, lineF i b (nI c) push l s = lineF i b (nI c) push ol s0 ∧ SC i b s l ∧ RS i h0 h24 push s l ∧ DM i x25 s l ∧ ∀ k ∈ l, pn (s.1 k) < m) 41 (by decide) ⟨Or.inr ⟨40, rfl, rfl, Nat.le_refl _⟩, ol, s0, rfl, S, R, ⟨0, by decide, rfl, fun k hk ho => ⟨fun _ => bit_0 (by omega), fun _ => hall k hk ho⟩⟩, fun k hk => ?_⟩ ?_
  · have hkk := S.2.2.2.1 k hk
    have w := (S.2.2.2.2 k hkk.1 hkk.2).2.1
    rw [eL] at w
    obtain ⟨a, ha, -, a1, -⟩ := S.1
    have := a1 k hk
    have := (nI_ltI (a := pn (s0.1 k)) (b := L) (by omega) (by omega)).mp w
    omega
  · rintro m self h24 x25 x26 ⟨hx, l, s, hlf, SS', RR, DD, hlt⟩ ih
    rcases hx with ⟨rfl, rfl⟩ | ⟨p, rfl, rfl, hp40⟩
    · rw [if_pos (by decide)]
      have hl : l = [] := by
        cases l with
        | nil => rfl
        | cons k l => exact absurd (hlt k List.mem_cons_self) (Nat.not_lt_zero _)
      subst hl
      rw [lineF] at hlf
      subst hlf
      exact hk3 _ RR SS'
    · rw [if_neg (nI_pos (by omega)), lt2_eq]
      refine ok_fx3 (fun r h30 x31 x32 => ∃ j, x32 = nI j ∧ j + r = iN i ∧ ∃ l s, lineF i b (nI c) push l s = lineF i b (nI c) push ol s0 ∧ SC i b s l ∧ RS i h0 h30 push s l ∧ DM i x31 s l ∧ (∀ k ∈ l, pn (s.1 k) < p + 1) ∧ (∀ k ∈ l, pn (s.1 k) = p → j ≤ k)) (iN i) (by omega) ⟨0, rfl, by omega, l, s, hlf, SS', RR, DD, hlt, fun k _ _ => Nat.zero_le k⟩ ?_
      clear hlf SS' RR DD hlt l s
      rintro r self2 h30 x31 x32 ⟨j, rfl, hj, l, s, hlf, SS', RR, DD, hlt, hge⟩ ih2
      rw [RR.2.2.2.1 7 (by decide), T.1]
      by_cases hr : r = 0
      · have e : j = iN i := by omega
        subst e
        rw [if_pos (nI_le (Nat.le_refl _) (by omega))]
        have hx29 : nI p + (-1 : Int32) = if p = 0 then -1 else nI (p - 1) := by
          by_cases p0 : p = 0
          · subst p0; decide
          · rw [if_neg p0]
            obtain ⟨q, rfl⟩ : ∃ q, p = q + 1 := ⟨p - 1, by omega⟩
            rw [pk_m1]; rfl
        dsimp only
        rw [nm_eq, hx29]
        have hlt' : ∀ k ∈ l, pn (s.1 k) < p := fun k hk => by
          have h1 := hlt k hk
          have h2 := hge k hk
          have h3 := (SS'.2.2.2.1 k hk).1
          omega
        refine ih p _ _ _ (by omega) ⟨?_, l, s, hlf, SS', RR, DD, hlt'⟩
        by_cases p0 : p = 0
        · exact Or.inl ⟨p0, by rw [if_pos p0]⟩
        · exact Or.inr ⟨p - 1, by rw [if_neg p0], by omega, by omega⟩
      · have hjn : j < iN i := by omega
        have hj6 : j < 6 := by omega
        have j31 : j < 2 ^ 31 := by omega
        obtain ⟨v1, v2, -⟩ := RR.1 j hjn
        rw [if_neg (nI_ge hjn (by omega)), ck_nI hj6 (by decide), lt2_eq, ia_nI j31, v1]
        simp only [nm_eq, ck_nI hj6 (show 6 < 2 ^ 31 by decide), ia_nI j31, isIn_eq, bdr_some, show nI j + (1 : Int32) = nI (j + 1) from nI_1 j]
        have skip : ¬ (j ∈ l ∧ pn (s.1 j) = p) → Ok (self2 h30 x31 (nI (j + 1))) P := by
          intro hno
          refine ih2 (r - 1) _ _ _ (by omega) ⟨j + 1, rfl, by omega, l, s, hlf, SS', RR, DD, hlt, fun k hk hpk => ?_⟩
          have h1 := hge k hk hpk
          by_cases e : k = j
          · subst e; exact absurd ⟨hk, hpk⟩ hno
          · omega
        by_cases on : wst (s.1 j) = 1
        · rw [if_pos on, v2]
          have wj := SS'.2.2.2.2 j hjn on
          have hpn31 : pn (s.1 j) < 2 ^ 31 := by
            have w2 := wj.2.1
            unfold pn
            have := Int32.toInt_lt (wpl (s.1 j))
            have h3 : (wpl (s.1 j)).toNatClampNeg = (wpl (s.1 j)).toInt.toNat := rfl
            omega
          by_cases pp : wpl (s.1 j) = nI p
          · rw [if_pos pp]
            have hpj : pn (s.1 j) = p := pn_eq pp (by omega)
            obtain ⟨d, hd, rfl, hbits⟩ := DD
            by_cases bt : (nI d >>> (nI j &&& 31)) &&& 1 = 1
            · rw [if_pos bt, if_neg one_ne]
              exact skip (fun q => ((hbits j hjn on).mp q.1) bt)
            · rw [if_neg bt, if_pos rfl]
              have hjl : j ∈ l := (hbits j hjn on).mpr bt
              obtain ⟨l', rfl⟩ : ∃ l', l = j :: l' := by
                cases l with
                | nil => exact absurd hjl List.not_mem_nil
                | cons y l' =>
                  by_cases e : y = j
                  · exact ⟨l', by rw [e]⟩
                  · have hj' : j ∈ l' := by
                      rcases List.mem_cons.mp hjl with q | q
                      · exact absurd q.symm e
                      · exact q
                    have h1 := (List.pairwise_cons.mp SS'.2.1).1 j hj'
                    have h2 := hlt y List.mem_cons_self
                    omega
              refine ok_bdv (rs_step hI hb hc hp T tc SS' RR) (fun h38 R38 => ?_)
              obtain ⟨p', -, -, -, -, -, SN⟩ := sc_step hI hc hp SS'
              rw [lineF, if_pos on] at hlf
              obtain ⟨d', hd', ed'⟩ := bit_lt hd hj6
              rw [ed']
              have hjl' : j ∉ l' := (List.nodup_cons.mp SS'.2.2.1).1
              refine ih2 (r - 1) _ _ _ (by omega) ⟨j + 1, rfl, by omega, l', _, hlf, SN, R38, ⟨d', hd', rfl, fun k hk ho => ?_⟩, fun k hk => ?_, fun k hk hpk => ?_⟩
              · rw [← ed', bit_or hd hj6 (by omega)]
                by_cases e : k = j
                · subst e
                  exact ⟨fun q => absurd q hjl', fun q => absurd (Or.inr rfl) q⟩
                · simp only [up_ne e] at ho
                  have := hbits k hk ho
                  simp only [List.mem_cons, e, false_or] at this
                  simp only [e, or_false]
                  exact this
              · have hne : k ≠ j := fun q => hjl' (q ▸ hk)
                simp only [up_ne hne]
                exact hlt k (List.mem_cons_of_mem _ hk)
              · have hne : k ≠ j := fun q => hjl' (q ▸ hk)
                simp only [up_ne hne] at hpk
                have h1 := (List.pairwise_cons.mp SS'.2.1).1 k hk
                omega
          · rw [if_neg pp]
            refine skip (fun q => pp ?_)
            rw [wj.1, q.2]
        · rw [if_neg on]
          exact skip (fun q => on (SS'.2.2.2.1 j q.1).2)
