/-! seen, forget, never, was (of what sort) -/
def sgN (m : Hp) (n : Nat) (a b c : Int32) : Hp := uf (uf (uf (uf m 91 (3 * n) a) 91 (3 * n + 1) b) 91 (3 * n + 2) c) 68 29 (nI (n + 1))
theorem sgN_91 {m : Hp} {n : Nat} {a b c : Int32} (e : Nat) : ((sgN m n a b c).1 91 (3 * e) = if e = n then a else m.1 91 (3 * e)) ∧ ((sgN m n a b c).1 91 (3 * e + 1) = if e = n then b else m.1 91 (3 * e + 1)) ∧ ((sgN m n a b c).1 91 (3 * e + 2) = if e = n then c else m.1 91 (3 * e + 2)) := by
  unfold sgN
  by_cases q : e = n
  · subst q
    simp [uf_get]
  · have q1 : 3 * e ≠ 3 * n := by omega
    have q2 : 3 * e ≠ 3 * n + 1 := by omega
    have q3 : 3 * e ≠ 3 * n + 2 := by omega
    have q4 : 3 * e + 1 ≠ 3 * n := by omega
    have q5 : 3 * e + 1 ≠ 3 * n + 1 := by omega
    have q6 : 3 * e + 1 ≠ 3 * n + 2 := by omega
    have q7 : 3 * e + 2 ≠ 3 * n := by omega
    have q8 : 3 * e + 2 ≠ 3 * n + 1 := by omega
    have q9 : 3 * e + 2 ≠ 3 * n + 2 := by omega
    rw [if_neg q, if_neg q, if_neg q]
    simp only [uf_get]
    simp [q1, q2, q3, q4, q5, q6, q7, q8, q9, q]
theorem sgN_n {m : Hp} {n : Nat} {a b c : Int32} (hn : n < 8) : nSg (sgN m n a b c) = n + 1 := by
  show ((uf (uf (uf (uf m 91 (3 * n) a) 91 (3 * n + 1) b) 91 (3 * n + 2) c) 68 29 (nI (n + 1))).1 68 29).toNatClampNeg = n + 1
  rw [uf_get, if_pos ⟨rfl, rfl⟩]; exact nI_clamp (by omega)
theorem sgN_c {m : Hp} {n : Nat} {a b c : Int32} : ∀ d, d ≠ 68 → d ≠ 91 → (sgN m n a b c).1 d = m.1 d := fun d q r => by
  unfold sgN; rw [uf_ne q, uf_ne r, uf_ne r, uf_ne r]
theorem sgN_s {m : Hp} {n : Nat} {a b c : Int32} {z : Nat} (q : z ≠ 29) : (sgN m n a b c).1 68 z = m.1 68 z := by
  unfold sgN; rw [uf_get, if_neg (fun r => q r.2), uf_ne (by decide), uf_ne (by decide), uf_ne (by decide)]
theorem st_oth {m m' h h' : Hp} (t : ST m h) (a : m'.1 69 = m.1 69) (b : m'.1 70 = m.1 70) (c : m'.1 71 = m.1 71) (g : ∀ d, 60 ≤ d → d < 68 → h'.1 d = h.1 d) : ST m' h' := by
  have := t.ke g
  intro s hs
  have q : sSz m' s = sSz m s := by unfold sSz; rw [b]
  rw [q, a, b, c]
  exact this s hs
abbrev seOK (a b c : Int32) : Prop := inR a 0 23 ∧ inR b 0 5 ∧ inR c 0 3
theorem op_seen {h : Hp} (I : Inv h) (a b c : Int32) : Step (f_X7_seen h a b c) (fun h1 => f_X8_seen h1 a b c) := by
  obtain ⟨m, M, C, P⟩ := I
  obtain ⟨n8, en, eg⟩ := M.2.2.2.2.2.1
  have e3 : h.1 13 3 = nI (nSg m) := C.2.2.1.1.trans en
  have n31 : nSg m < 2 ^ 31 := by omega
  by_cases r1 : inR a 0 23
  · by_cases r2 : inR b 0 5
    · by_cases r3 : inR c 0 3
      · by_cases hf : nSg m = 8
        · refine comb (v := -4) P M ?_ (r_X7_seen h _ _ _) (fun h1 P1 => ?_) (fun h1 => r_X8_seen h1 _ _ _)
          · unfold f_X7_seen f_X3_hasRoom
            rw [cb_eq, w_5, w_3]
            simp only [bdr_some, if_pos r1, if_pos r2, if_pos r3, if_neg one_ne]
            rw [e3, hf, if_pos (by decide), bdr_some, if_pos rfl]
            exact ok_some ⟨rfl, C⟩
          · unfold f_X8_seen
            rw [mb_eq, v_5, v_3]
            simp only [bdr_some, if_pos r1, if_pos r2, if_pos r3, if_neg one_ne]
            rw [P1.2.2.2.2.2.2.2.2.2.2.2, en, hf, if_pos (by decide)]
            exact ok_some ⟨rfl, P1⟩
        · have hn : nSg m < 8 := by omega
          have M' : MOK (sgN m (nSg m) a b c) := by
            refine mok_oth M (sgN_c 74 (by decide) (by decide)) (sgN_c 77 (by decide) (by decide)) (sgN_c 78 (by decide) (by decide)) (sgN_s (by decide)) (sgN_s (by decide)) ?_ (fun s hs => ?_)
            · rw [sgN_n hn]
              refine ⟨by omega, by unfold sgN; rw [uf_get, if_pos ⟨rfl, rfl⟩], fun j hj => ?_⟩
              obtain ⟨g1, g2, g3⟩ := sgN_91 (m := m) (n := nSg m) (a := a) (b := b) (c := c) j
              rw [g1, g2, g3]
              by_cases q : j = nSg m
              · rw [if_pos q, if_pos q, if_pos q]
                obtain ⟨x, -, hx, rfl⟩ := inR_ex r1 (by decide) (by decide)
                obtain ⟨y, -, hy, rfl⟩ := inR_ex r2 (by decide) (by decide)
                obtain ⟨z, -, hz, rfl⟩ := inR_ex r3 (by decide) (by decide)
                exact ⟨⟨x, by omega, rfl⟩, ⟨y, by omega, rfl⟩, ⟨z, by omega, rfl⟩⟩
              · rw [if_neg q, if_neg q, if_neg q]; exact eg j (by omega)
            · have q : sSz (sgN m (nSg m) a b c) s = sSz m s := by unfold sSz; rw [sgN_c 70 (by decide) (by decide)]
              rw [q, sgN_c 69 (by decide) (by decide), sgN_c 70 (by decide) (by decide)]
              exact M.2.2.2.2.2.2 s hs
          refine comb (v := nI (nSg m + 1)) P M' ?_ (r_X7_seen h _ _ _) (fun h1 P1 => ?_) (fun h1 => r_X8_seen h1 _ _ _)
          · unfold f_X7_seen f_X3_hasRoom f_X3_add
            have n8' : ¬ (8 : Int32) ≤ nI (nSg m) := nI_ge (b := 8) hn (by decide)
            have g1 : (uf h 14 (nSg m) a).1 13 3 = nI (nSg m) := by rw [uf_ne (by decide)]; exact e3
            have g2 : (uf (uf h 14 (nSg m) a) 15 (nSg m) b).1 13 3 = nI (nSg m) := by rw [uf_ne (by decide)]; exact g1
            have g3 : (uf (uf (uf h 14 (nSg m) a) 15 (nSg m) b) 16 (nSg m) c).1 13 3 = nI (nSg m) := by rw [uf_ne (by decide)]; exact g2
            rw [cb_eq, w_5, w_3]
            simp only [bdr_some, if_pos r1, if_pos r2, if_pos r3, if_neg one_ne, e3, if_neg n8', if_neg (nI_pos n31), ck_nI hn (show 8 < 2 ^ 31 by decide), nm_eq, ux_nI n31, g1, g2, g3, bdv_some]
            rw [show nI (nSg m) + (1 : Int32) = nI (nSg m + 1) from nI_1 _]
            have f : ∀ d, d ≠ 13 → d ≠ 14 → d ≠ 15 → d ≠ 16 → (uf (uf (uf (uf h 14 (nSg m) a) 15 (nSg m) b) 16 (nSg m) c) 13 3 (nI (nSg m + 1))).1 d = h.1 d := fun d q1 q2 q3 q4 => by rw [uf_ne q1, uf_ne q4, uf_ne q3, uf_ne q2]
            refine ok_some ⟨by simp [uf_get], ?_⟩
            refine cr_oth C (sgN_c 73 (by decide) (by decide)) (sgN_c 74 (by decide) (by decide)) (sgN_c 77 (by decide) (by decide)) (sgN_c 78 (by decide) (by decide)) (sgN_s (by decide)) (fun c q r => f c (by omega) (by omega) (by omega) (by omega)) (fun c q r => f c (by omega) (by omega) (by omega) (by omega)) (f 56 (by decide) (by decide) (by decide) (by decide)) (by rw [f 0 (by decide) (by decide) (by decide) (by decide)]) (by rw [f 0 (by decide) (by decide) (by decide) (by decide)]) ⟨?_, fun j hj => ?_⟩ ?_ ?_
            · unfold sgN; simp [uf_get]
            · rw [sgN_n hn] at hj
              obtain ⟨k1, k2, k3⟩ := sgN_91 (m := m) (n := nSg m) (a := a) (b := b) (c := c) j
              rw [k1, k2, k3]
              by_cases q : j = nSg m
              · simp [uf_get, q]
              · rw [if_neg q, if_neg q, if_neg q]
                simp [uf_get, q]
                exact C.2.2.1.2 j (by omega)
            · exact st_oth C.2.2.2.1 (sgN_c 69 (by decide) (by decide)) (sgN_c 70 (by decide) (by decide)) (sgN_c 71 (by decide) (by decide)) (fun d q r => f d (by omega) (by omega) (by omega) (by omega))
            · rw [f 0 (by decide) (by decide) (by decide) (by decide), sgN_s (by decide)]; exact C.2.2.2.2.1
          · have e8 : h1.1 68 29 = nI (nSg m) := P1.2.2.2.2.2.2.2.2.2.2.2.trans en
            have g1 : (uf h1 91 (3 * nSg m) a).1 68 29 = nI (nSg m) := by rw [uf_ne (by decide)]; exact e8
            have g2 : (uf (uf h1 91 (3 * nSg m) a) 91 (3 * nSg m + 1) b).1 68 29 = nI (nSg m) := by rw [uf_ne (by decide)]; exact g1
            have g3 : (uf (uf (uf h1 91 (3 * nSg m) a) 91 (3 * nSg m + 1) b) 91 (3 * nSg m + 2) c).1 68 29 = nI (nSg m) := by rw [uf_ne (by decide)]; exact g2
            have q0 : (3 : Int32) * nI (nSg m) = nI (3 * nSg m) := t30 _
            have q1 : nI (3 * nSg m) + (1 : Int32) = nI (3 * nSg m + 1) := nI_1 _
            have q2 : nI (3 * nSg m) + (2 : Int32) = nI (3 * nSg m + 2) := nI_add _ 2
            unfold f_X8_seen
            rw [mb_eq, v_5, v_3]
            simp only [bdr_some, if_pos r1, if_pos r2, if_pos r3, if_neg one_ne]
            rw [e8, if_neg (show ¬ nI (nSg m) = 8 from fun q => absurd ((nI_eq n31 (by decide)).mp (show nI (nSg m) = nI 8 from q)) (by omega))]
            simp only [q0, q1, q2, ck_nI (show 3 * nSg m < 24 by omega) (show 24 < 2 ^ 31 by decide), ck_nI (show 3 * nSg m + 1 < 24 by omega) (show 24 < 2 ^ 31 by decide), ck_nI (show 3 * nSg m + 2 < 24 by omega) (show 24 < 2 ^ 31 by decide), nm_eq, ux_nI (show 3 * nSg m < 2 ^ 31 by omega), ux_nI (show 3 * nSg m + 1 < 2 ^ 31 by omega), ux_nI (show 3 * nSg m + 2 < 2 ^ 31 by omega), g1, g2, g3]
            rw [show nI (nSg m) + (1 : Int32) = nI (nSg m + 1) from nI_1 _]
            exact ok_some ⟨by simp [uf_get], (((P1.uf _ _ _).uf _ _ _).uf _ _ _).uf _ _ _⟩
      · refine comb (v := -2) P M ?_ (r_X7_seen h _ _ _) (fun h1 P1 => ?_) (fun h1 => r_X8_seen h1 _ _ _)
        · unfold f_X7_seen
          rw [cb_eq, bdr_some, if_pos r1, if_neg one_ne, w_5, bdr_some, if_pos r2, if_neg one_ne, w_3, bdr_some, if_neg r3, if_pos rfl]
          exact ok_some ⟨rfl, C⟩
        · unfold f_X8_seen
          rw [mb_eq, bdr_some, if_pos r1, if_neg one_ne, v_5, bdr_some, if_pos r2, if_neg one_ne, v_3, bdr_some, if_neg r3, if_pos rfl]
          exact ok_some ⟨rfl, P1⟩
    · refine comb (v := -2) P M ?_ (r_X7_seen h _ _ _) (fun h1 P1 => ?_) (fun h1 => r_X8_seen h1 _ _ _)
      · unfold f_X7_seen
        rw [cb_eq, bdr_some, if_pos r1, if_neg one_ne, w_5, bdr_some, if_neg r2, if_pos rfl]
        exact ok_some ⟨rfl, C⟩
      · unfold f_X8_seen
        rw [mb_eq, bdr_some, if_pos r1, if_neg one_ne, v_5, bdr_some, if_neg r2, if_pos rfl]
        exact ok_some ⟨rfl, P1⟩
  · refine comb (v := -2) P M ?_ (r_X7_seen h _ _ _) (fun h1 P1 => ?_) (fun h1 => r_X8_seen h1 _ _ _)
    · unfold f_X7_seen
      rw [cb_eq, bdr_some, if_neg r1, if_pos rfl]
      exact ok_some ⟨rfl, C⟩
    · unfold f_X8_seen
      rw [mb_eq, bdr_some, if_neg r1, if_pos rfl]
      exact ok_some ⟨rfl, P1⟩
theorem op_forget {h : Hp} (I : Inv h) : Step (f_X7_forget h) (fun h1 => f_X8_forget h1) := by
  obtain ⟨m, M, C, P⟩ := I
  have z : nSg (uf m 68 29 0) = 0 := by unfold nSg; rw [uf_get, if_pos ⟨rfl, rfl⟩]; rfl
  have f : ∀ d, d ≠ 13 → (uf h 13 3 0).1 d = h.1 d := fun d q => uf_ne q
  refine comb (m' := uf m 68 29 0) (v := m.1 68 29) P ?_ ?_ (r_X7_forget h) (fun h1 P1 => ?_) (fun h1 => r_X8_forget h1)
  · refine mok_oth M (uf_ne (by decide)) (uf_ne (by decide)) (uf_ne (by decide)) (by simp [uf_get]) (by simp [uf_get]) ?_ (fun s hs => ?_)
    · rw [z]; exact ⟨by omega, by simp [uf_get]; rfl, fun j hj => by omega⟩
    · have q : sSz (uf m 68 29 0) s = sSz m s := by unfold sSz; rw [uf_ne (by decide)]
      rw [q, uf_ne (show 69 ≠ 68 by decide), uf_ne (show 70 ≠ 68 by decide)]
      exact M.2.2.2.2.2.2 s hs
  · unfold f_X7_forget
    rw [nm_eq, nm_eq]
    refine ok_some ⟨C.2.2.1.1, ?_⟩
    refine cr_oth C (uf_ne (by decide)) (uf_ne (by decide)) (uf_ne (by decide)) (uf_ne (by decide)) (by simp [uf_get]) (fun c q r => f c (by omega)) (fun c q r => f c (by omega)) (f 56 (by decide)) (by rw [f 0 (by decide)]) (by rw [f 0 (by decide)]) ⟨by simp [uf_get], fun j hj => by rw [z] at hj; omega⟩ ?_ ?_
    · exact st_oth C.2.2.2.1 (uf_ne (by decide)) (uf_ne (by decide)) (uf_ne (by decide)) (fun d q r => f d (by omega))
    · rw [f 0 (by decide)]; simp [uf_get]; exact C.2.2.2.2.1
  · unfold f_X8_forget
    rw [nm_eq, nm_eq]
    exact ok_some ⟨P1.2.2.2.2.2.2.2.2.2.2.2, P1.uf _ _ _⟩
abbrev ftP (m : Hp) (i : Inp) (j : Nat) : Prop := m.1 91 (3 * j + 1) < nI (iN i) ∧ stV i (m.1 91 (3 * j)).toNatClampNeg (m.1 91 (3 * j + 1)).toNatClampNeg = m.1 91 (3 * j + 2)
def ftB (m : Hp) (i : Inp) : Bool := decide (∀ j, j < nSg m → ftP m i j)
theorem c_fit {m h : Hp} {i : Inp} (M : MOK m) (S : SG m h) (hN : iN i ≤ 6) (L : LG i 36 h 24) : Ok (f_X3_fit h (nI (iN i))) (fun x => x = if ftB m i = true then 1 else 0) := by
  obtain ⟨n8, en, eg⟩ := M.2.2.2.2.2.1
  unfold f_X3_fit
  refine ok_fx1 (fun f x => ∃ j, x = nI j ∧ j + f = nSg m ∧ ∀ k, k < j → ftP m i k) (nSg m) (by omega) ⟨0, rfl, by omega, fun k hk => by omega⟩ ?_
  rintro f self x ⟨j, rfl, hj, hg⟩ ih
  rw [S.1, en]
  by_cases hf : f = 0
  · have ej : j = nSg m := by omega
    rw [if_pos (nI_le (by omega) (by omega)), if_pos (show ftB m i = true from decide_eq_true (fun k hk => hg k (by omega)))]
    exact ok_some rfl
  · have jn : j < nSg m := by omega
    have j8 : j < 8 := by omega
    have j31 : j < 2 ^ 31 := by omega
    have no : ¬ ftP m i j → (0 : Int32) = if ftB m i = true then 1 else 0 := fun q => by
      rw [if_neg (show ¬ ftB m i = true from fun r => q (of_decide_eq_true r j jn))]
    rw [if_neg (nI_ge jn (by omega)), if_neg (show ¬ (8 : Int32) ≤ nI j from nI_ge (b := 8) j8 (by decide))]
    simp only [ck_nI j8 (show 8 < 2 ^ 31 by decide), ia_nI j31]
    obtain ⟨s1, s2, s3⟩ := S.2 j jn
    obtain ⟨⟨y, hy, ey⟩, ⟨k, hk, ek⟩, -⟩ := eg j jn
    rw [s1, s2, s3, ey, ek]
    by_cases q : k < iN i
    · rw [if_neg (nI_ge q (by omega)), sb_eq hy (by omega), bdr_some, show h.1 (41 + 1) (6 * y + k) = stV i y k from ((L y hy).1 k q).1]
      have iff : ftP m i j ↔ stV i y k = m.1 91 (3 * j + 2) := by
        unfold ftP
        rw [ey, ek, nI_clamp (by omega), nI_clamp (by omega)]
        exact ⟨fun r => r.2, fun r => ⟨nI_lt q (by omega), r⟩⟩
      refine ok_ite (fun r => ?_) (fun r => ok_some (no (fun t => r (iff.mp t))))
      rw [nm_eq, show nI j + (1 : Int32) = nI (j + 1) from nI_1 j]
      refine ih (f - 1) _ (by omega) ⟨j + 1, rfl, by omega, fun k' hk' => ?_⟩
      by_cases e : k' = j
      · rw [e]; exact iff.mpr r
      · exact hg k' (by omega)
    · rw [if_pos (nI_le (by omega) (by omega))]
      refine ok_some (no (fun t => ?_))
      have t1 := t.1
      rw [ek] at t1
      exact q ((nI_ltI (by omega) (by omega)).mp t1)
theorem m_isSeen {m h : Hp} {i : Inp} (M : MOK m) (hI : InOk i) (T : TM i h) (e91 : h.1 91 = m.1 91) (e29 : h.1 68 29 = m.1 68 29) : Ok (f_X8_isSeen h) (fun u => u.2 = (if ftB m i = true then 1 else 0) ∧ ML i u.1 ∧ KM h u.1) := by
  obtain ⟨n8, en, eg⟩ := M.2.2.2.2.2.1
  have hN := hI.1
  unfold f_X8_isSeen
  refine ok_bdv (p_lives hI T) (fun h1 H => ?_)
  obtain ⟨R, L, K⟩ := H
  have T1 := km_tm K T
  have e91' : h1.1 91 = m.1 91 := (K.1 91 (by decide) (by decide)).trans e91
  have e29' : h1.1 68 29 = nI (nSg m) := (K.2.1 29 (by decide) (by decide)).trans (e29.trans en)
  refine ok_fx2 (fun f x y => ∃ j, y = nI j ∧ j + f = nSg m ∧ ((x = 1 ∧ ∀ k, k < j → ftP m i k) ∨ (x = 0 ∧ ∃ k, k < j ∧ ¬ ftP m i k))) (nSg m) (by omega) ⟨0, rfl, by omega, Or.inl ⟨rfl, fun k hk => by omega⟩⟩ ?_
  rintro f self x y ⟨j, rfl, hj, hx⟩ ih
  rw [e29']
  by_cases hf : f = 0
  · have ej : j = nSg m := by omega
    rw [if_pos (nI_le (by omega) (by omega))]
    rcases hx with ⟨rfl, hg⟩ | ⟨rfl, k, hk, hg⟩
    · refine ok_cy (by decide) (ok_some ⟨?_, ⟨R, L⟩, K⟩)
      rw [if_pos (show ftB m i = true from decide_eq_true (fun k hk => hg k (by omega)))]
    · refine ok_cy (by decide) (ok_some ⟨?_, ⟨R, L⟩, K⟩)
      rw [if_neg (show ¬ ftB m i = true from fun r => hg (of_decide_eq_true r k (by omega)))]
  · have jn : j < nSg m := by omega
    obtain ⟨⟨y, hy, ey⟩, ⟨k, hk, ek⟩, -⟩ := eg j jn
    have q0 : (3 : Int32) * nI j = nI (3 * j) := t30 _
    have q1 : nI (3 * j) + (1 : Int32) = nI (3 * j + 1) := nI_1 _
    have q2 : nI (3 * j) + (2 : Int32) = nI (3 * j + 2) := nI_add _ 2
    rw [if_neg (nI_ge jn (by omega))]
    simp only [q0, q1, q2, ck_nI (show 3 * j < 24 by omega) (show 24 < 2 ^ 31 by decide), ck_nI (show 3 * j + 1 < 24 by omega) (show 24 < 2 ^ 31 by decide), ck_nI (show 3 * j + 2 < 24 by omega) (show 24 < 2 ^ 31 by decide), nm_eq, ia_nI (show 3 * j < 2 ^ 31 by omega), ia_nI (show 3 * j + 1 < 2 ^ 31 by omega), ia_nI (show 3 * j + 2 < 2 ^ 31 by omega), e91', ey, ek, lt1_eq, mw_eq T1.1, bdr_some, e6]
    rw [show nI j + (1 : Int32) = nI (j + 1) from nI_1 j]
    rcases hx with ⟨rfl, hg⟩ | ⟨rfl, k', hk', hg⟩
    · rw [if_neg one_ne]
      refine ok_w (fun r => ?_) (fun r => ?_)
      · have kN : k < iN i := by
          obtain ⟨k2, h2, e2⟩ := isW_ex hN r
          have := (nI_eq (show k < 2 ^ 31 by omega) (show k2 < 2 ^ 31 by omega)).mp e2
          omega
        rw [ck_nI (by omega) (by decide), ia_nI (by omega), show h1.1 87 (6 * y + k) = stV i y k from ((L y hy).1 k kN).1]
        have iff : ftP m i j ↔ stV i y k = m.1 91 (3 * j + 2) := by
          unfold ftP
          rw [ey, ek, nI_clamp (by omega), nI_clamp (by omega)]
          exact ⟨fun r => r.2, fun r => ⟨nI_lt kN (by omega), r⟩⟩
        refine ok_ite (fun r2 => ?_) (fun r2 => ?_)
        · refine ih (f - 1) _ _ (by omega) ⟨j + 1, rfl, by omega, Or.inl ⟨rfl, fun k' hk' => ?_⟩⟩
          by_cases e : k' = j
          · rw [e]; exact iff.mpr r2
          · exact hg k' (by omega)
        · exact ih (f - 1) _ _ (by omega) ⟨j + 1, rfl, by omega, Or.inr ⟨rfl, j, by omega, fun t => r2 (iff.mp t)⟩⟩
      · refine ih (f - 1) _ _ (by omega) ⟨j + 1, rfl, by omega, Or.inr ⟨rfl, j, by omega, fun t => ?_⟩⟩
        have t1 := t.1
        rw [ek] at t1
        exact r (isW_nI hN ((nI_ltI (by omega) (by omega)).mp t1))
    · rw [if_pos rfl]
      exact ih (f - 1) _ _ (by omega) ⟨j + 1, rfl, by omega, Or.inr ⟨rfl, k', by omega, hg⟩⟩
