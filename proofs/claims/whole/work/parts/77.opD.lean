/-! event, back, read -/
theorem inp_eq {m m' : Hp} (a : m'.1 73 = m.1 73) (b : m'.1 74 = m.1 74) (c : m'.1 77 = m.1 77) (d : m'.1 78 = m.1 78) (e : m'.1 68 12 = m.1 68 12) : inp m' = inp m := by
  have zr : rT m' = rT m := by funext j; unfold rT; rw [a]
  unfold inp nWk tx0 tx1 nEv
  rw [zr, a, b, c, d, e]
/-- sheets, sightings and findings change; nothing else -/
theorem cr_oth {m m' h h' : Hp} (C : CR m h) (a : m'.1 73 = m.1 73) (b : m'.1 74 = m.1 74) (c : m'.1 77 = m.1 77) (d : m'.1 78 = m.1 78) (e : m'.1 68 12 = m.1 68 12) (g : ∀ c, 0 < c → c < 13 → h'.1 c = h.1 c) (g2 : ∀ c, 17 ≤ c → c < 36 → h'.1 c = h.1 c) (g3 : h'.1 56 = h.1 56) (g4 : h'.1 0 11 = h.1 0 11) (g5 : h'.1 0 12 = h.1 0 12) (s : SG m' h') (t : ST m' h') (l : h'.1 0 15 = m'.1 68 4) : CR m' h' := by
  obtain ⟨c1, c2, c3, c4, c5, c6, c7⟩ := C
  have zi : inp m' = inp m := inp_eq a b c d e
  have zr : rT m' = rT m := by funext j; unfold rT; rw [a]
  refine ⟨?_, ?_, s, t, l, ?_, ?_⟩
  · have := c1.ke (h' := h') (fun c q r => g c q (by omega))
    unfold TX tx0 tx1
    rw [zr, a, b]
    exact this
  · rw [zi]; exact c2.ke (fun c q r => g c (by omega) (by omega)) (g 9 (by decide) (by decide))
  · rw [zi, g4]; exact c6.imp id (fun s => s.ke g2)
  · rw [zi, g5]; exact c7.imp id (fun s z hz k hk => by rw [g3]; exact s z hz k hk)
theorem mok_oth {m m' : Hp} (M : MOK m) (b : m'.1 74 = m.1 74) (c : m'.1 77 = m.1 77) (d : m'.1 78 = m.1 78) (e : m'.1 68 12 = m.1 68 12) (f : m'.1 68 14 = m.1 68 14) (s : nSg m' ≤ 8 ∧ m'.1 68 29 = nI (nSg m') ∧ ∀ j, j < nSg m' → (∃ z, z < 24 ∧ m'.1 91 (3 * j) = nI z) ∧ (∃ z, z < 6 ∧ m'.1 91 (3 * j + 1) = nI z) ∧ ∃ z, z < 4 ∧ m'.1 91 (3 * j + 2) = nI z) (t : ∀ s, s < 4 → (m'.1 69 s = -1 ∨ ∃ z, z < 3 ∧ m'.1 69 s = nI z) ∧ sSz m' s ≤ 60 ∧ m'.1 70 s = nI (sSz m' s)) : MOK m' := by
  obtain ⟨m1, m2, m3, m4, m5, m6, m7⟩ := M
  refine ⟨?_, ?_, ?_, ?_, by rw [f]; exact m5, s, t⟩
  · unfold tx0; rw [b]; exact m1
  · unfold tx1; rw [b]; exact m2
  · unfold nEv; rw [d, e]; exact m3
  · rw [c]; exact m4
theorem c_found {m h : Hp} (C : CR m h) (v : Int32) : CR (uf m 68 4 v) (uf h 0 15 v) := by
  obtain ⟨c1, c2, c3, c4, c5, c6, c7⟩ := id C
  have f : ∀ c, c ≠ 0 → (uf h 0 15 v).1 c = h.1 c := fun c q => uf_ne q
  refine cr_oth C (uf_ne (by decide)) (uf_ne (by decide)) (uf_ne (by decide)) (uf_ne (by decide)) (by simp [uf_get]) (fun c q r => f c (by omega)) (fun c q r => f c (by omega)) (f 56 (by decide)) (by simp [uf_get]) (by simp [uf_get]) ?_ ?_ (by simp [uf_get])
  · have := c3.ke (h' := uf h 0 15 v) (fun c q r => f c (by omega))
    have z : nSg (uf m 68 4 v) = nSg m := by unfold nSg; simp [uf_get]
    unfold SG
    rw [z, uf_ne (show 91 ≠ 68 by decide), show (uf m 68 4 v).1 68 29 = m.1 68 29 by simp [uf_get]]
    exact this
  · have := c4.ke (h' := uf h 0 15 v) (fun c q r => f c (by omega))
    intro s hs
    have q : sSz (uf m 68 4 v) s = sSz m s := by unfold sSz; rw [uf_ne (by decide)]
    rw [q, uf_ne (show 69 ≠ 68 by decide), uf_ne (show 70 ≠ 68 by decide), uf_ne (show 71 ≠ 68 by decide)]
    exact this s hs
theorem mok_found {m : Hp} (M : MOK m) (v : Int32) : MOK (uf m 68 4 v) := by
  obtain ⟨m1, m2, m3, m4, m5, m6, m7⟩ := id M
  refine mok_oth M (uf_ne (by decide)) (uf_ne (by decide)) (uf_ne (by decide)) (by simp [uf_get]) (by simp [uf_get]) ?_ (fun s hs => ?_)
  · have z : nSg (uf m 68 4 v) = nSg m := by unfold nSg; simp [uf_get]
    rw [z, uf_ne (show 91 ≠ 68 by decide), show (uf m 68 4 v).1 68 29 = m.1 68 29 by simp [uf_get]]
    exact m6
  · have q : sSz (uf m 68 4 v) s = sSz m s := by unfold sSz; rw [uf_ne (by decide)]
    rw [q, uf_ne (show 69 ≠ 68 by decide), uf_ne (show 70 ≠ 68 by decide)]
    exact m7 s hs
theorem fo_eq (h : Hp) (v : Int32) : f_X7_found h v = some (uf h 0 15 v, -10 - v) := by unfold f_X7_found; rw [nm_eq]
theorem fd_eq (h : Hp) (v : Int32) : f_X8_finds h v = some (uf h 68 4 v, -10 - v) := by unfold f_X8_finds; rw [nm_eq]
abbrev evOK (a b c : Int32) : Prop := inR a 0 2 ∧ inR b 0 23 ∧ inR c 0 5
theorem cme (a b c : Int32) : f_X5_mayBeEvent a b c = some (if evOK a b c then 1 else 0) := by
  unfold f_X5_mayBeEvent
  rw [w_2, cb_eq, w_5]
  simp only [bdr_some]
  by_cases r1 : inR a 0 2
  · rw [if_pos r1, if_neg one_ne]
    by_cases r2 : inR b 0 23
    · rw [if_pos r2, if_neg one_ne]
      by_cases r3 : inR c 0 5
      · rw [if_pos r3, if_neg one_ne, if_pos ⟨r1, r2, r3⟩]
      · rw [if_neg r3, if_pos rfl, if_neg (fun q => r3 q.2.2)]
    · rw [if_neg r2, if_pos rfl, if_neg (fun q => r2 q.2.1)]
  · rw [if_neg r1, if_pos rfl, if_neg (fun q => r1 q.1)]
def evN (m : Hp) (n : Nat) (a b c : Int32) : Hp := uf (uf (uf (uf m 78 (3 * n) a) 78 (3 * n + 1) b) 78 (3 * n + 2) c) 68 12 (nI (n + 1))
def evM (m : Hp) (a b c : Int32) : Hp := evN m (nEv m) a b c
theorem evN_78 {m : Hp} {n : Nat} {a b c : Int32} (e : Nat) : ((evN m n a b c).1 78 (3 * e) = if e = n then a else m.1 78 (3 * e)) ∧ ((evN m n a b c).1 78 (3 * e + 1) = if e = n then b else m.1 78 (3 * e + 1)) ∧ ((evN m n a b c).1 78 (3 * e + 2) = if e = n then c else m.1 78 (3 * e + 2)) := by
  unfold evN
  by_cases q : e = n
  · subst q
    simp [uf_get]
  · have q1 : 3 * e ≠ 3 * n := by omega
    have q2 : 3 * e ≠ 3 * n + 1 := by omega
    have q3 : 3 * e ≠ 3 * n + 2 := by omega
    have q4 : 3 * e + 1 ≠ 3 * n := by omega
    have q5 : 3 * e + 1 ≠ 3 * n + 1 := by omega
    have q6 : 3 * e + 1 ≠ 3 * n + 2 := by omega
    have q7 : 3 * e + 2 ≠ 3 * n := by omega
    have q8 : 3 * e + 2 ≠ 3 * n + 1 := by omega
    have q9 : 3 * e + 2 ≠ 3 * n + 2 := by omega
    rw [if_neg q, if_neg q, if_neg q]
    simp only [uf_get]
    simp [q1, q2, q3, q4, q5, q6, q7, q8, q9, q]
theorem evN_nEv {m : Hp} {n : Nat} {a b c : Int32} (hn : n < 8) : nEv (evN m n a b c) = n + 1 := by
  show ((uf (uf (uf (uf m 78 (3 * n) a) 78 (3 * n + 1) b) 78 (3 * n + 2) c) 68 12 (nI (n + 1))).1 68 12).toNatClampNeg = n + 1
  rw [uf_get, if_pos ⟨rfl, rfl⟩]; exact nI_clamp (by omega)
theorem evN_c {m : Hp} {n : Nat} {a b c : Int32} : ∀ d, d ≠ 68 → d ≠ 78 → (evN m n a b c).1 d = m.1 d := fun d q r => by
  unfold evN; rw [uf_ne q, uf_ne r, uf_ne r, uf_ne r]
theorem evN_s {m : Hp} {n : Nat} {a b c : Int32} {z : Nat} (q : z ≠ 12) : (evN m n a b c).1 68 z = m.1 68 z := by
  unfold evN; rw [uf_get, if_neg (fun r => q r.2), uf_ne (by decide), uf_ne (by decide), uf_ne (by decide)]
theorem evM_ok {m : Hp} {a b c : Int32} (M : MOK m) (hn : nEv m < 8) (E : evOK a b c) : MOK (evM m a b c) := by
  unfold evM
  obtain ⟨e1, e2, e3⟩ := E
  obtain ⟨x, -, hx, rfl⟩ := inR_ex e1 (by decide) (by decide)
  obtain ⟨y, -, hy, rfl⟩ := inR_ex e2 (by decide) (by decide)
  obtain ⟨z, -, hz, rfl⟩ := inR_ex e3 (by decide) (by decide)
  refine mok_ev M (fun c q _ r => evN_c c q r) (evN_s (by decide)) (evN_s (by decide)) ?_ ?_
  · rw [evN_nEv hn]
    refine ⟨by omega, ?_, fun e he => ?_⟩
    · unfold evN; rw [uf_get, if_pos ⟨rfl, rfl⟩]
    · obtain ⟨g1, g2, g3⟩ := evN_78 (m := m) (n := nEv m) (a := nI x) (b := nI y) (c := nI z) e
      rw [g1, g2, g3]
      by_cases q : e = nEv m
      · rw [if_pos q, if_pos q, if_pos q]
        exact ⟨⟨x, by omega, rfl⟩, ⟨y, by omega, rfl⟩, ⟨z, by omega, rfl⟩⟩
      · rw [if_neg q, if_neg q, if_neg q]
        exact M.2.2.1.2.2 e (by omega)
  · rw [evN_c 77 (by decide) (by decide)]; exact M.2.2.2.1
theorem c_add {m h : Hp} {a b c : Int32} (M : MOK m) (C : CR0 m h) (hn : nEv m < 8) : Ok (f_X5_addEvent h a b c) (fun h' => CR0 (evM m a b c) h' ∧ (∀ d, 13 ≤ d → h'.1 d = h.1 d) ∧ h'.1 5 8 = nI (nEv m + 1)) := by
  have e8 : h.1 5 8 = nI (nEv m) := C.2.1.2.1
  obtain ⟨t1, t2, t3, t4, t5, t6, t7, t8⟩ := id C.2.1
  have n31 : nEv m < 2 ^ 31 := by omega
  unfold f_X5_addEvent
  have g1 : (uf h 10 (nEv m) a).1 5 8 = nI (nEv m) := by rw [uf_ne (by decide)]; exact e8
  have g2 : (uf (uf h 10 (nEv m) a) 11 (nEv m) b).1 5 8 = nI (nEv m) := by rw [uf_ne (by decide)]; exact g1
  have g3 : (uf (uf (uf h 10 (nEv m) a) 11 (nEv m) b) 12 (nEv m) c).1 5 8 = nI (nEv m) := by rw [uf_ne (by decide)]; exact g2
  simp only [e8, if_neg (nI_pos n31), if_neg (show ¬ (8 : Int32) ≤ nI (nEv m) from nI_ge (b := 8) hn (by decide)), ck_nI hn (show 8 < 2 ^ 31 by decide), nm_eq, ux_nI n31, g1, g2, g3]
  rw [show nI (nEv m) + (1 : Int32) = nI (nEv m + 1) from nI_1 _]
  refine ok_some ⟨?_, fun d hd => ?_, by simp [uf_get]⟩
  · unfold evM
    refine cr0_ev C (fun c q _ r => evN_c c q r) (evN_s (by decide)) (evN_s (by decide)) (fun d q1 q2 q3 q4 => by rw [uf_ne q1, uf_ne q4, uf_ne q3, uf_ne q2]) (by simp [uf_get]) ?_ ?_ ?_ ?_ (fun e he => ?_)
    · rw [evN_nEv hn]; simp [uf_get]
    · rw [evN_c 77 (by decide) (by decide)]; simp [uf_get]; exact t3
    · rw [evN_c 77 (by decide) (by decide)]; simp [uf_get]; exact t4
    · rw [evN_c 77 (by decide) (by decide)]; simp [uf_get]; exact t5
    · rw [evN_nEv hn] at he
      obtain ⟨k1, k2, k3⟩ := evN_78 (m := m) (n := nEv m) (a := a) (b := b) (c := c) e
      rw [k1, k2, k3]
      by_cases q : e = nEv m
      · simp [uf_get, q]
      · rw [if_neg q, if_neg q, if_neg q]
        simp [uf_get, q]
        exact t8 e (show e < nEv m by omega)
  · rw [uf_ne (by omega), uf_ne (by omega), uf_ne (by omega), uf_ne (by omega)]
theorem m_event {m h : Hp} {a b c : Int32} (M : MOK m) (P : PK m h) (hn : nEv m < 8) (E : evOK a b c) : Ok (f_X8_event h a b c) (fun u => u.2 = nI (nEv m + 1) ∧ PK (evM m a b c) u.1) := by
  have e8 : h.1 68 12 = nI (nEv m) := P.2.2.2.2.2.2.2.2.2.1.trans M.2.2.1.2.1
  have n31 : nEv m < 2 ^ 31 := by omega
  have g1 : (uf h 78 (3 * nEv m) a).1 68 12 = nI (nEv m) := by rw [uf_ne (by decide)]; exact e8
  have g2 : (uf (uf h 78 (3 * nEv m) a) 78 (3 * nEv m + 1) b).1 68 12 = nI (nEv m) := by rw [uf_ne (by decide)]; exact g1
  have g3 : (uf (uf (uf h 78 (3 * nEv m) a) 78 (3 * nEv m + 1) b) 78 (3 * nEv m + 2) c).1 68 12 = nI (nEv m) := by rw [uf_ne (by decide)]; exact g2
  have q0 : (3 : Int32) * nI (nEv m) = nI (3 * nEv m) := t30 _
  have q1 : nI (3 * nEv m) + (1 : Int32) = nI (3 * nEv m + 1) := nI_1 _
  have q2 : nI (3 * nEv m) + (2 : Int32) = nI (3 * nEv m + 2) := nI_add _ 2
  unfold f_X8_event
  rw [v_2, mb_eq, v_5]
  simp only [bdr_some, if_pos E.1, if_pos E.2.1, if_pos E.2.2, if_neg one_ne]
  rw [e8, if_neg (show ¬ nI (nEv m) = 8 from fun q => absurd ((nI_eq n31 (by decide)).mp (show nI (nEv m) = nI 8 from q)) (by omega))]
  simp only [q0, q1, q2, ck_nI (show 3 * nEv m < 24 by omega) (show 24 < 2 ^ 31 by decide), ck_nI (show 3 * nEv m + 1 < 24 by omega) (show 24 < 2 ^ 31 by decide), ck_nI (show 3 * nEv m + 2 < 24 by omega) (show 24 < 2 ^ 31 by decide), nm_eq, ux_nI (show 3 * nEv m < 2 ^ 31 by omega), ux_nI (show 3 * nEv m + 1 < 2 ^ 31 by omega), ux_nI (show 3 * nEv m + 2 < 2 ^ 31 by omega), g1, g2, g3]
  rw [show nI (nEv m) + (1 : Int32) = nI (nEv m + 1) from nI_1 _]
  exact ok_some ⟨by simp [uf_get], (((P.uf _ _ _).uf _ _ _).uf _ _ _).uf _ _ _⟩
theorem m_event_no {m h : Hp} {a b c : Int32} (M : MOK m) (P : PK m h) (hn : ¬ (evOK a b c ∧ nEv m < 8)) : Ok (f_X8_event h a b c) (fun u => u.2 = (if evOK a b c then -4 else -2) ∧ PK m u.1) := by
  have e8 : h.1 68 12 = nI (nEv m) := P.2.2.2.2.2.2.2.2.2.1.trans M.2.2.1.2.1
  unfold f_X8_event
  rw [v_2, mb_eq, v_5]
  simp only [bdr_some]
  by_cases r1 : inR a 0 2
  · rw [if_pos r1, if_neg one_ne]
    by_cases r2 : inR b 0 23
    · rw [if_pos r2, if_neg one_ne]
      by_cases r3 : inR c 0 5
      · have e : nEv m = 8 := by
          have := M.2.2.1.1
          have : ¬ nEv m < 8 := fun q => hn ⟨⟨r1, r2, r3⟩, q⟩
          omega
        rw [if_pos r3, if_neg one_ne, if_pos (show evOK a b c from ⟨r1, r2, r3⟩), e8, e, if_pos (by decide)]
        exact ok_some ⟨rfl, P⟩
      · rw [if_neg r3, if_pos rfl, if_neg (fun q => r3 q.2.2)]
        exact ok_some ⟨rfl, P⟩
    · rw [if_neg r2, if_pos rfl, if_neg (fun q => r2 q.2.1)]
      exact ok_some ⟨rfl, P⟩
  · rw [if_neg r1, if_pos rfl, if_neg (fun q => r1 q.1)]
    exact ok_some ⟨rfl, P⟩
theorem hr_eq {m h : Hp} (M : MOK m) (C : CR0 m h) : f_X5_hasRoomForEvent h = some (if nEv m < 8 then 1 else 0) := by
  have e8 : h.1 5 8 = nI (nEv m) := C.2.1.2.1
  have := M.2.2.1.1
  unfold f_X5_hasRoomForEvent
  rw [e8]
  by_cases q : nEv m < 8
  · rw [if_pos q, if_neg (show ¬ (8 : Int32) ≤ nI (nEv m) from nI_ge (b := 8) q (by decide))]
  · rw [if_neg q, if_pos (show (8 : Int32) ≤ nI (nEv m) from nI_le (a := 8) (by omega) (by omega))]
theorem op_event {h : Hp} (I : Inv h) (a b c : Int32) : Step (f_X7_event h a b c) (fun h1 => f_X8_event h1 a b c) := by
  obtain ⟨m, M, C, P⟩ := I
  by_cases E : evOK a b c ∧ nEv m < 8
  · refine comb (v := nI (nEv m + 1)) P (evM_ok M E.2 E.1) ?_ (r_X7_event h _ _ _) (fun h1 P1 => m_event M P1 E.2 E.1) (fun h1 => r_X8_event h1 _ _ _)
    unfold f_X7_event
    rw [cme, bdr_some, if_pos E.1, if_neg one_ne, hr_eq M C.c0, bdr_some, if_pos E.2, if_neg one_ne]
    refine ok_bdv (c_add M C.c0 E.2) (fun h3 H => ?_)
    rw [fg_eq, bdv_some]
    exact ok_some ⟨by simp [uf_get]; exact H.2.2, H.1.fg⟩
  · refine comb (v := if evOK a b c then -4 else -2) P M ?_ (r_X7_event h _ _ _) (fun h1 P1 => m_event_no M P1 E) (fun h1 => r_X8_event h1 _ _ _)
    unfold f_X7_event
    rw [cme, bdr_some, hr_eq M C.c0]
    refine ok_w (fun r => ?_) (fun r => ?_)
    · rw [if_pos r, bdr_some, if_neg (fun q => E ⟨r, q⟩), if_pos rfl]
      exact ok_some ⟨rfl, C⟩
    · rw [if_neg r]; exact ok_some ⟨rfl, C⟩
theorem op_back {h : Hp} (I : Inv h) : Step (f_X7_back h) (fun h1 => f_X8_back h1) := by
  obtain ⟨m, M, C, P⟩ := I
  have e8 : h.1 5 8 = nI (nEv m) := C.2.1.2.1
  have le8 := M.2.2.1.1
  by_cases h0 : nEv m = 0
  · refine comb (v := -3) P M ?_ (r_X7_back h) (fun h1 P1 => ?_) (fun h1 => r_X8_back h1)
    · unfold f_X7_back
      rw [e8, h0, if_neg (by decide)]; exact ok_some ⟨rfl, C⟩
    · unfold f_X8_back
      rw [P1.2.2.2.2.2.2.2.2.2.1, M.2.2.1.2.1, h0, if_pos (by decide)]; exact ok_some ⟨rfl, P1⟩
  · obtain ⟨n, hn⟩ : ∃ n, nEv m = n + 1 := ⟨nEv m - 1, by omega⟩
    have hp : nI (n + 1) - (1 : Int32) = nI n := nI_pred n
    have z : nEv (uf m 68 12 (nI n)) = n := by unfold nEv; rw [uf_get, if_pos ⟨rfl, rfl⟩]; exact nI_clamp (by omega)
    have sm : ∀ c, c ≠ 68 → c ≠ 77 → c ≠ 78 → (uf m 68 12 (nI n)).1 c = m.1 c := fun c q _ _ => uf_ne q
    refine comb (m' := uf m 68 12 (nI n)) (v := nI n) P ?_ ?_ (r_X7_back h) (fun h1 P1 => ?_) (fun h1 => r_X8_back h1)
    · refine mok_ev M sm (by simp [uf_get]) (by simp [uf_get]) ?_ ?_
      · rw [z]
        refine ⟨by omega, by simp [uf_get], fun e he => ?_⟩
        rw [uf_ne (by decide)]
        exact M.2.2.1.2.2 e (by omega)
      · rw [uf_ne (by decide)]; exact M.2.2.2.1
    · unfold f_X7_back
      rw [e8, hn, if_pos (show (0 : Int32) < nI (n + 1) from nI_lt (a := 0) (by omega) (by omega)), hp, nm_eq, fg_eq, bdv_some]
      have C' : CR0 (uf m 68 12 (nI n)) (uf h 5 8 (nI n)) := by
        obtain ⟨t1, t2, t3, t4, t5, t6, t7, t8⟩ := C.2.1
        refine cr0_ev C.c0 sm (by simp [uf_get]) (by simp [uf_get]) (fun c q _ _ _ => uf_ne q) (by simp [uf_get]) ?_ ?_ ?_ ?_ (fun e he => ?_)
        · rw [z]; simp [uf_get]
        · rw [uf_ne (show 77 ≠ 68 by decide)]; simp [uf_get]; exact t3
        · rw [uf_ne (show 77 ≠ 68 by decide)]; simp [uf_get]; exact t4
        · rw [uf_ne (show 77 ≠ 68 by decide)]; simp [uf_get]; exact t5
        · rw [z] at he
          rw [uf_ne (by decide), uf_ne (by decide), uf_ne (by decide), uf_ne (by decide)]
          exact t8 e (show e < nEv m by omega)
      exact ok_some ⟨by simp [uf_get], C'.fg⟩
    · unfold f_X8_back
      rw [P1.2.2.2.2.2.2.2.2.2.1, M.2.2.1.2.1, hn, if_neg (nI_ne0 (by omega) (by omega)), hp, nm_eq]
      exact ok_some ⟨by simp [uf_get], P1.uf _ _ _⟩
