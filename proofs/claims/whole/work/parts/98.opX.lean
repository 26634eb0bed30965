/-! the reference's digest -/
theorem m_tellsBeat {i : Inp} {h : Hp} {b k : Nat} {a : Int32} (hN : iN i ≤ 6) (L : ML i h) (ha : a = nI b) (hb : b < 24) (hk : k < iN i) (l : Int64) : f_X8_tellsBeat h l a (nI k) = some (tbF i k b l) := by
  subst ha
  have k6 : k < 6 := by omega
  obtain ⟨l1, l2, l3⟩ := (L.2 b hb).1 k hk
  have l1' : h.1 87 (6 * b + k) = stV i b k := l1
  have l2' : h.1 88 (6 * b + k) = plV i b k := l2
  have l3' : h.1 89 (6 * b + k) = leV i b k := l3
  unfold f_X8_tellsBeat
  simp only [e6, ck_nI (show 6 * b + k < 144 by omega) (show 144 < 2 ^ 31 by decide), ia_nI (show 6 * b + k < 2 ^ 31 by omega), nm_eq, l1', l2', l3']
  rfl
theorem m_walk1 {m h : Hp} {k : Nat} (M : MOK m) (T : MT m h) (hk : k < nWk m) {j : Nat} (hj : j < 3) : h.1 75 (3 * k + j) = wkJ (inp m) k j := by
  obtain ⟨t1, t2, t3⟩ := T.2.1.2.2.2.2.2.2.1 k hk
  unfold wkJ
  rcases (show j = 0 ∨ j = 1 ∨ j = 2 by omega) with rfl | rfl | rfl
  · exact t1
  · exact t2
  · exact t3
theorem m_tellsWalker {m h : Hp} {k : Nat} (M : MOK m) (T : MT m h) (hk : k < nWk m) (l : Int64) : Ok (f_X8_tellsWalker h l (nI k)) (fun u => u.2 = W3 m k (W2 (inp m) k l) ∧ MT m u.1) := by
  have hN : iN (inp m) ≤ 6 := nWk_le M
  have hk' : k < iN (inp m) := hk
  unfold f_X8_tellsWalker
  refine ok_bdv (m_lives M T) (fun h1 H => ?_)
  obtain ⟨T1, L1⟩ := H
  refine ok_lt1 (fun l' => l' = W1 (inp m) k l) ?_ ?_
  · intro l2 hl2
    rw [hl2, m_tellsBeat (a := 0) (b := 0) hN L1 rfl (by decide) hk', bdr_some, m_tellsBeat (a := 6) (b := 6) hN L1 rfl (by decide) hk', bdr_some, m_tellsBeat (a := 13) (b := 13) hN L1 rfl (by decide) hk', bdr_some, m_tellsBeat (a := 23) (b := 23) hN L1 rfl (by decide) hk', bdr_some]
    refine ok_lt1 (fun l' => l' = W2 (inp m) k l) ?_ ?_
    · intro l7 hl7
      rw [hl7]
      generalize W2 (inp m) k l = L
      rw [t30]
      refine ok_bnd (m_startV M T1 hk 0) (fun h8 x9 H => ?_)
      have q1 := H.1
      have T8 : MT m h8 := H.2
      dsimp only at q1
      rw [if_pos rfl] at q1
      rw [q1, nm_eq]
      refine ok_bnd (m_startV M T8 hk 1) (fun h11 x12 H => ?_)
      have q2 := H.1
      have T11 : MT m h11 := H.2
      dsimp only at q2
      rw [if_neg one_ne] at q2
      rw [q2, nm_eq, show nI (3 * k) + (2 : Int32) = nI (3 * k + 2) from nI_add _ 2]
      refine ok_bnd (m_holdV M T11 hk 0) (fun h14 x15 H => ?_)
      have q3 := H.1
      have T14 : MT m h14 := H.2
      dsimp only at q3
      rw [if_pos rfl] at q3
      rw [q3, nm_eq]
      refine ok_bnd (m_holdV M T14 hk 1) (fun h17 x18 H => ?_)
      have q4 := H.1
      have T17 : MT m h17 := H.2
      dsimp only at q4
      rw [if_neg one_ne] at q4
      rw [q4, nm_eq]
      refine ok_bnd (m_poles M T17 hk) (fun h20 x21 H => ?_)
      have q5 := H.1
      have T20 : MT m h20 := H.2.1
      dsimp only at q5
      rw [q5, nm_eq]
      refine ok_bnd (m_sortOf M T20 hk) (fun h23 x24 H => ?_)
      have q6 := H.1
      have T23 : MT m h23 := H.2
      dsimp only at q6
      rw [q6, nm_eq]
      refine ok_bnd (m_askOf M T23 hk) (fun h26 x27 H => ?_)
      have q7 := H.1
      have T26 : MT m h26 := H.2
      dsimp only at q7
      rw [q7, nm_eq]
      refine ok_bnd (m_chanceOf (c := 5) M T26 (by decide) hk 0) (fun h29 l30 H => ?_)
      have q8 := H.1
      have T29 : MT m h29 := H.2
      dsimp only at q8
      rw [q8, nm_eq]
      refine ok_bnd (m_chanceOf (c := 5) M T29 (by decide) hk 1) (fun h32 l33 H => ?_)
      have q9 := H.1
      have T32 : MT m h32 := H.2
      dsimp only at q9
      rw [q9]
      exact ok_some ⟨rfl, T32⟩
    · intro kk hkk
      have hk2 := hkk (W2 (inp m) k l) rfl
      have e3 : itF (fun j l => mx l (edV (inp m) k (nI j)).toInt64) (tbF (inp m) k 23 (tbF (inp m) k 13 (tbF (inp m) k 6 (tbF (inp m) k 0 (W1 (inp m) k l))))) 3 = W2 (inp m) k l := by unfold W2; rfl
      generalize tbF (inp m) k 23 (tbF (inp m) k 13 (tbF (inp m) k 6 (tbF (inp m) k 0 (W1 (inp m) k l)))) = L at e3 ⊢
      refine ok_fx2 (fun f l1 y => ∃ j, y = nI j ∧ j + f = 3 ∧ l1 = itF (fun j l => mx l (edV (inp m) k (nI j)).toInt64) L j) 3 (by decide) ⟨0, rfl, rfl, rfl⟩ ?_
      rintro f self l1 y ⟨j, rfl, hj, rfl⟩ ih
      by_cases hf : f = 0
      · have e : j = 3 := by omega
        rw [e, if_pos (by decide), e3]
        exact hk2
      · have j3 : j < 3 := by omega
        rw [if_neg ((show ∀ j, j < 3 → ¬ (3 : Int32) ≤ nI j by decide +kernel) j j3), m_endsBy hN hk' L1, bdr_some, nm_eq, nm_eq, show nI j + (1 : Int32) = nI (j + 1) from nI_1 j]
        exact ih (f - 1) _ _ (by omega) ⟨j + 1, rfl, by omega, rfl⟩
  · intro kk hkk
    refine ok_fx2 (fun f l1 y => ∃ j, y = nI j ∧ j + f = 3 ∧ l1 = itF (fun j l => mx l (wkJ (inp m) k j).toInt64) l j) 3 (by decide) ⟨0, rfl, rfl, rfl⟩ ?_
    rintro f self l1 y ⟨j, rfl, hj, rfl⟩ ih
    by_cases hf : f = 0
    · have e : j = 3 := by omega
      rw [e, if_pos (by decide)]
      exact hkk _ rfl
    · have j3 : j < 3 := by omega
      rw [if_neg ((show ∀ j, j < 3 → ¬ (3 : Int32) ≤ nI j by decide +kernel) j j3), show (3 : Int32) * nI k + nI j = nI (3 * k + j) by rw [t30, nI_add], ck_nI (by omega) (by decide), ia_nI (by omega), m_walk1 M T1 hk j3, nm_eq, nm_eq, show nI j + (1 : Int32) = nI (j + 1) from nI_1 j]
      exact ih (f - 1) _ _ (by omega) ⟨j + 1, rfl, by omega, rfl⟩
/-- what stands behind the last walker -/
theorem m_restD {m h10 : Hp} (M : MOK m) (T10 : MT m h10) (L10 : ML (inp m) h10) (l11 : Int64) : Ok (
              bdr (f_X8_firstNow h10) fun x12 =>
              nm (((31 : Int64) * l11) + (x12.toInt64)) fun l13 =>
              bdr (f_X8_worstNow h10) fun x14 =>
              nm (((31 : Int64) * l13) + (x14.toInt64)) fun l15 =>
              bdr (f_X8_bareNow h10) fun x16 =>
              nm (((31 : Int64) * l15) + (x16.toInt64)) fun l17 =>
              bnd (f_X8_actOf h10 (2 : Int32) (0 : Int32)) fun h18 x19 =>
              nm (((31 : Int64) * l17) + (x19.toInt64)) fun l20 =>
              bnd (f_X8_actOf h18 (2 : Int32) (1 : Int32)) fun h21 x22 =>
              nm (((31 : Int64) * l20) + (x22.toInt64)) fun l23 =>
              bnd (f_X8_actOf h21 (6 : Int32) (0 : Int32)) fun h24 x25 =>
              nm (((31 : Int64) * l23) + (x25.toInt64)) fun l26 =>
              bnd (f_X8_actOf h24 (6 : Int32) (1 : Int32)) fun h27 x28 =>
              nm (((31 : Int64) * l26) + (x28.toInt64)) fun l29 =>
              bnd (f_X8_spareBy h27 (-1 : Int32)) fun h30 x31 =>
              nm (((31 : Int64) * l29) + (x31.toInt64)) fun l32 =>
              bnd (f_X8_spareBy h30 (0 : Int32)) fun h33 x34 =>
              nm (((31 : Int64) * l32) + (x34.toInt64)) fun l35 =>
              bnd (f_X8_neverNow h33) fun h36 x37 =>
              nm (((31 : Int64) * l35) + (x37.toInt64)) fun l38 =>
              bnd (f_X8_showsOf h36 (7 : Int32) (18 : Int32) (0 : Int32)) fun h39 x40 =>
              nm (((31 : Int64) * l38) + (x40.toInt64)) fun l41 =>
              bnd (f_X8_showsOf h39 (7 : Int32) (18 : Int32) (1 : Int32)) fun h42 x43 =>
              some (h42, (((31 : Int64) * l41) + (x43.toInt64)))) (fun u => u.2 = R4 m (R3 m (R2 m l11)) ∧ MT m u.1) := by
  have hN : iN (inp m) ≤ 6 := nWk_le M
  refine ok_bdr (m_firstNow hN T10.2.1.1 L10) (fun x12 q => ?_)
  rw [q, nm_eq]
  refine ok_bdr (m_worstNow hN T10.2.1.1 L10) (fun x14 q => ?_)
  rw [q, nm_eq]
  refine ok_bdr (m_bareNow hN T10.2.1.1 L10) (fun x16 q => ?_)
  rw [q, nm_eq]
  refine ok_bnd (m_actV (k := 2) M T10 (by decide) 0) (fun h18 x19 H => ?_)
  have q1 := H.1
  have T18 : MT m h18 := H.2
  dsimp only at q1
  rw [if_pos rfl] at q1
  rw [q1, nm_eq]
  refine ok_bnd (m_actV (k := 2) M T18 (by decide) 1) (fun h21 x22 H => ?_)
  have q2 := H.1
  have T21 : MT m h21 := H.2
  dsimp only at q2
  rw [if_neg one_ne] at q2
  rw [q2, nm_eq]
  refine ok_bnd (m_actV (k := 6) M T21 (by decide) 0) (fun h24 x25 H => ?_)
  have q3 := H.1
  have T24 : MT m h24 := H.2
  dsimp only at q3
  rw [if_pos rfl] at q3
  rw [q3, nm_eq]
  refine ok_bnd (m_actV (k := 6) M T24 (by decide) 1) (fun h27 x28 H => ?_)
  have q4 := H.1
  have T27 : MT m h27 := H.2
  dsimp only at q4
  rw [if_neg one_ne] at q4
  rw [q4, nm_eq]
  refine ok_bnd (m_spareBy M T27 (-1)) (fun h30 x31 H => ?_)
  have q5 := H.1
  have T30 : MT m h30 := H.2
  dsimp only at q5
  rw [q5, nm_eq]
  refine ok_bnd (m_spareBy M T30 0) (fun h33 x34 H => ?_)
  have q6 := H.1
  have T33 : MT m h33 := H.2
  dsimp only at q6
  rw [q6, nm_eq]
  refine ok_bnd (m_neverNow M T33) (fun h36 x37 H => ?_)
  have q7 := H.1
  have T36 : MT m h36 := H.2
  dsimp only at q7
  rw [q7, nm_eq]
  refine ok_bnd (m_showsOf (n := 18) M T36 7 (by decide) 0) (fun h39 x40 H => ?_)
  have q8 := H.1
  have T39 : MT m h39 := H.2
  dsimp only at q8
  rw [q8, nm_eq]
  refine ok_bnd (m_showsOf (n := 18) M T39 7 (by decide) 1) (fun h42 x43 H => ?_)
  have q9 := H.1
  have T42 : MT m h42 := H.2
  dsimp only at q9
  rw [q9]
  exact ok_some ⟨rfl, T42⟩
theorem fl_0 (m : Hp) : fltV m 0 = wkR (tx0 m) (m.1 73) := by
  unfold fltV
  rw [if_pos (show inR 0 0 1 by decide), if_pos rfl]
theorem fl_1 (m : Hp) : fltV m 1 = rtR (tx1 m) (rT m) := by
  unfold fltV
  rw [if_pos (show inR 1 0 1 by decide), if_neg one_ne]
theorem m_digest {m h : Hp} (M : MOK m) (P : PK m h) : Ok (f_X8_digest h) (fun u => u.2 = DG m ∧ PK m u.1) := by
  have hN : iN (inp m) ≤ 6 := nWk_le M
  unfold f_X8_digest
  refine ok_lt2 (fun h' l' => MT m h' ∧ l' = D1 m) ?_ ?_
  · rintro h1 l2 ⟨T1, rfl⟩
    refine ok_lt2 (fun h' l' => MT m h' ∧ l' = D2 m) ?_ ?_
    · rintro h3 l4 ⟨T3, rfl⟩
      refine ok_bdv (m_lives M T3) (fun h5 H => ?_)
      obtain ⟨T5, L5⟩ := H
      refine ok_lt1 (fun l' => l' = D3 m) ?_ ?_
      · rintro l6 rfl
        refine ok_lt1 (fun l' => l' = D4 m) ?_ ?_
        · rintro l7 rfl
          refine ok_lt2 (fun h' l' => MT m h' ∧ l' = D5 m) ?_ ?_
          · rintro h8 l9 ⟨T8, rfl⟩
            refine ok_bdv (m_lives M T8) (fun h10 H => ?_)
            obtain ⟨T10, L10⟩ := H
            refine ok_lt1 (fun l' => l' = R1 (inp m) (D5 m)) ?_ ?_
            · rintro l11 rfl
              exact ok_mono (m_restD M T10 L10 _) (fun u H => ⟨H.1, H.2.1⟩)
            · intro kk hkk
              refine ok_fx2 (fun f l1 y => ∃ j, y = nI j ∧ j + f = 3 ∧ l1 = itF (fun j l => mx l (smV (inp m) (nI j)).toInt64) (D5 m) j) 3 (by decide) ⟨0, rfl, rfl, rfl⟩ ?_
              rintro f self l1 y ⟨j, rfl, hj, rfl⟩ ih
              by_cases hf : f = 0
              · have e : j = 3 := by omega
                rw [e, if_pos (by decide)]
                exact hkk _ rfl
              · have j3 : j < 3 := by omega
                rw [if_neg ((show ∀ j, j < 3 → ¬ (3 : Int32) ≤ nI j by decide +kernel) j j3)]
                refine ok_bdr (m_sumBy hN T10.2.1.1 L10 (nI j)) (fun x q => ?_)
                rw [q, nm_eq, nm_eq, show nI j + (1 : Int32) = nI (j + 1) from nI_1 j]
                exact ih (f - 1) _ _ (by omega) ⟨j + 1, rfl, by omega, rfl⟩
          · intro kk hkk
            refine ok_fx3 (fun f h1 l1 y => ∃ j, y = nI j ∧ j + f = nWk m ∧ l1 = itF (fun k l => W3 m k (W2 (inp m) k l)) (D4 m) j ∧ MT m h1) (nWk m) (by have : nWk m ≤ 6 := hN; omega) ⟨0, rfl, by omega, rfl, T5⟩ ?_
            rintro f self h1 l1 y ⟨j, rfl, hj, rfl, T1⟩ ih
            have h6 : nWk m ≤ 6 := hN
            rw [show h1.1 68 7 = nI (nWk m) from T1.2.1.1]
            by_cases hf : f = 0
            · have e : j = nWk m := by omega
              rw [if_pos (nI_le (by omega) (by omega)), e]
              exact hkk _ _ ⟨T1, rfl⟩
            · have jn : j < nWk m := by omega
              rw [if_neg (nI_ge jn (by omega))]
              refine ok_bnd (m_tellsWalker M T1 jn _) (fun h2 x2 H => ?_)
              have q := H.1
              have T2 : MT m h2 := H.2
              dsimp only at q
              rw [q, nm_eq, show nI j + (1 : Int32) = nI (j + 1) from nI_1 j]
              exact ih (f - 1) _ _ _ (by omega) ⟨j + 1, rfl, by omega, rfl, T2⟩
        · intro kk hkk
          refine ok_fx2 (fun f l1 y => ∃ p, y = nI p ∧ p + f = 41 ∧ l1 = itF (fun p l => mx l (seV (inp m) 9 (nI p)).toInt64) (D3 m) p) 41 (by decide) ⟨0, rfl, rfl, rfl⟩ ?_
          rintro f self l1 y ⟨p, rfl, hp, rfl⟩ ih
          by_cases hf : f = 0
          · have e : p = 41 := by omega
            rw [e, if_pos (by decide)]
            exact hkk _ rfl
          · have p41 : p < 41 := by omega
            rw [if_neg ((show ∀ p, p < 41 → ¬ (41 : Int32) ≤ nI p by decide +kernel) p p41)]
            refine ok_bdr (m_seesBy (y := 9) M T5.2.1.1 L5 (by decide) (nI p)) (fun x q => ?_)
            rw [q, nm_eq, nm_eq, show nI p + (1 : Int32) = nI (p + 1) from nI_1 p]
            exact ih (f - 1) _ _ (by omega) ⟨p + 1, rfl, by omega, rfl⟩
      · intro kk hkk
        refine ok_fx2 (fun f l1 y => ∃ b, y = nI b ∧ b + f = 24 ∧ l1 = itF (fun b l => mx (mx l (iMv (inp m) b).toInt64) (swV (inp m) b).toInt64) (D2 m) b) 24 (by decide) ⟨0, rfl, rfl, rfl⟩ ?_
        rintro f self l1 y ⟨b, rfl, hb, rfl⟩ ih
        by_cases hf : f = 0
        · have e : b = 24 := by omega
          rw [e, if_pos (by decide)]
          exact hkk _ rfl
        · have b24 : b < 24 := by omega
          have v1 : h5.1 76 b = iMv (inp m) b := T5.2.1.2.2.2.2.2.2.2.1 b b24
          have v2 : h5.1 90 b = swV (inp m) b := (L5.2 b b24).2
          rw [if_neg ((show ∀ b, b < 24 → ¬ (24 : Int32) ≤ nI b by decide +kernel) b b24)]
          simp only [ck_nI b24 (show 24 < 2 ^ 31 by decide), ia_nI (show b < 2 ^ 31 by omega), nm_eq, v1, v2]
          rw [show nI b + (1 : Int32) = nI (b + 1) from nI_1 b]
          exact ih (f - 1) _ _ (by omega) ⟨b + 1, rfl, by omega, rfl⟩
    · intro kk hkk
      refine ok_fx3 (fun f h1 l1 y => ∃ j, y = nI j ∧ j + f = 2 ∧ l1 = itF (fun j l => mx l (if j = 0 then fltV m 0 else fltV m 1).toInt64) (D1 m) j ∧ MT m h1) 2 (by decide) ⟨0, rfl, rfl, rfl, T1⟩ ?_
      rintro f self h1 l1 y ⟨j, rfl, hj, rfl, T1⟩ ih
      by_cases hf : f = 0
      · have e : j = 2 := by omega
        rw [e, if_pos (by decide)]
        exact hkk _ _ ⟨T1, rfl⟩
      · rcases (show j = 0 ∨ j = 1 by omega) with rfl | rfl
        · rw [if_neg (by decide)]
          unfold f_X8_readsText
          rw [if_pos (show nI 0 = 0 from rfl)]
          refine ok_bnd (ok_bnd (m_rw M T1.1) (fun h2 x2 H => ok_some (P := fun u : Hp × Int32 => u.2 = fltV m 0 ∧ MT m u.1) ⟨?_, ?_⟩)) (fun h3 x3 H => ?_)
          · rw [fl_0]; exact H.1
          · obtain ⟨-, P2, W2', g1, g2⟩ := H
            refine mt_of M P2 W2' ⟨(g2 9 (by decide)).trans T1.2.2, fun jj hjj => ?_⟩
            have := g1 76 (by decide) (by decide)
            rw [show h2.1 76 = h1.1 76 from this]; exact T1.2.1.2.2.2.2.2.2.2.1 jj hjj
          · have q := H.1
            have T3 : MT m h3 := H.2
            dsimp only at q
            rw [q, nm_eq, nm_eq, show nI 0 + (1 : Int32) = nI 1 from rfl]
            exact ih (f - 1) _ _ _ (by omega) ⟨1, rfl, by omega, rfl, T3⟩
        · rw [if_neg (by decide)]
          unfold f_X8_readsText
          rw [if_neg (show ¬ nI 1 = 0 by decide)]
          refine ok_bnd (ok_bnd (m_rr M T1.1) (fun h2 x2 H => ok_some (P := fun u : Hp × Int32 => u.2 = fltV m 1 ∧ MT m u.1) ⟨?_, ?_⟩)) (fun h3 x3 H => ?_)
          · rw [fl_1]; exact H.1
          · obtain ⟨-, P2, R2', g1, g2⟩ := H
            refine mt_of M P2 ⟨(g2 7 (by decide)).trans T1.2.1.1, fun kk hk => ?_⟩ R2'
            have := g1 75 (by decide) (by decide)
            rw [show h2.1 75 = h1.1 75 from this]; exact T1.2.1.2.2.2.2.2.2.1 kk hk
          · have q := H.1
            have T3 : MT m h3 := H.2
            dsimp only at q
            rw [q, nm_eq, nm_eq, show nI 1 + (1 : Int32) = nI 2 from rfl]
            exact ih (f - 1) _ _ _ (by omega) ⟨2, rfl, by omega, rfl, T3⟩
  · intro kk hkk
    refine ok_fx3 (fun f h1 l1 y => ∃ j, y = nI j ∧ j + f = 8 ∧ l1 = itF (fun j l => mx l (cntV m (nI j)).toInt64) 17 j ∧ PK m h1 ∧ (0 < j → MT m h1)) 8 (by decide) ⟨0, rfl, rfl, rfl, P, fun q => by omega⟩ ?_
    rintro f self h1 l1 y ⟨j, rfl, hj, rfl, P1, T1⟩ ih
    by_cases hf : f = 0
    · have e : j = 8 := by omega
      have T1' := T1 (by omega)
      rw [e, if_pos (by decide)]
      exact hkk _ _ ⟨T1', rfl⟩
    · have j8 : j < 8 := by omega
      rw [if_neg ((show ∀ j, j < 8 → ¬ (8 : Int32) ≤ nI j by decide +kernel) j j8)]
      refine ok_bnd (m_count M P1 (nI j)) (fun h2 x2 H => ?_)
      have q := H.1
      have T2 : MT m h2 := H.2.1
      dsimp only at q
      rw [q, nm_eq, nm_eq, show nI j + (1 : Int32) = nI (j + 1) from nI_1 j]
      exact ih (f - 1) _ _ _ (by omega) ⟨j + 1, rfl, by omega, rfl, T2.1, fun _ => T2⟩
theorem op_digest {h : Hp} (I : Inv h) : Step (f_X7_digest h) (fun h1 => f_X8_digest h1) := by
  obtain ⟨m, M, C, P⟩ := I
  exact comb P M (c_digest M C) (r_X7_digest h) (fun h1 P1 => m_digest M P1) (fun h1 => r_X8_digest h1)
