/-! wire, event, back -/
def CR0 (m h : Hp) : Prop := TX m h ∧ TI (inp m) 9 h ∧ SG m h ∧ ST m h ∧ h.1 0 15 = m.1 68 4
theorem CR.c0 {m h : Hp} (C : CR m h) : CR0 m h := ⟨C.1, C.2.1, C.2.2.1, C.2.2.2.1, C.2.2.2.2.1⟩
theorem CR0.fg {m h : Hp} (C : CR0 m h) : CR m (uf (uf h 0 11 0) 0 12 0) := by
  obtain ⟨c1, c2, c3, c4, c5⟩ := C
  have f : ∀ c, c ≠ 0 → (uf (uf h 0 11 0) 0 12 0).1 c = h.1 c := fun c q => by rw [uf_ne q, uf_ne q]
  exact ⟨c1.ke (fun c q r => f c (by omega)), c2.ke (fun c q r => f c (by omega)) (f 9 (by decide)), c3.ke (fun c q r => f c (by omega)), c4.ke (fun c q r => f c (by omega)), by simp [uf_get]; exact c5, Or.inl (by simp [uf_get]), Or.inl (by simp [uf_get])⟩
theorem fg_eq (h : Hp) : f_X7_forgetShows h = some (uf (uf h 0 11 0) 0 12 0) := by
  unfold f_X7_forgetShows; rw [nm_eq, nm_eq]
theorem cr0_ev {m m' h h' : Hp} (C : CR0 m h) (sm : ∀ c, c ≠ 68 → c ≠ 77 → c ≠ 78 → m'.1 c = m.1 c) (s4 : m'.1 68 4 = m.1 68 4) (s29 : m'.1 68 29 = m.1 68 29) (sh : ∀ c, c ≠ 5 → c ≠ 10 → c ≠ 11 → c ≠ 12 → h'.1 c = h.1 c) (s7 : h'.1 5 7 = h.1 5 7) (e8 : h'.1 5 8 = nI (nEv m')) (e9 : h'.1 5 9 = m'.1 77 0) (e10 : h'.1 5 10 = m'.1 77 1) (e11 : h'.1 5 11 = m'.1 77 2) (ev : ∀ e, e < nEv m' → h'.1 10 e = m'.1 78 (3 * e) ∧ h'.1 11 e = m'.1 78 (3 * e + 1) ∧ h'.1 12 e = m'.1 78 (3 * e + 2)) : CR0 m' h' := by
  obtain ⟨c1, c2, c3, c4, c5⟩ := C
  have z0 : tx0 m' = tx0 m := by unfold tx0; rw [sm 74 (by decide) (by decide) (by decide)]
  have z1 : tx1 m' = tx1 m := by unfold tx1; rw [sm 74 (by decide) (by decide) (by decide)]
  have zr : rT m' = rT m := by funext j; unfold rT; rw [sm 73 (by decide) (by decide) (by decide)]
  have zw : nWk m' = nWk m := by unfold nWk; rw [z0, sm 73 (by decide) (by decide) (by decide)]
  have zs : nSg m' = nSg m := by unfold nSg; rw [s29]
  refine ⟨?_, ⟨?_, e8, e9, e10, e11, fun k hk => ?_, fun j hj => ?_, ev⟩, ?_, ?_, ?_⟩
  · have := c1.ke (h' := h') (fun c q r => sh c (by omega) (by omega) (by omega) (by omega))
    unfold TX
    rw [z0, z1, zr, sm 74 (by decide) (by decide) (by decide), sm 73 (by decide) (by decide) (by decide)]
    exact this
  · rw [s7]
    show _ = nI (nWk m')
    rw [zw]; exact c2.1
  · rw [sh 6 (by decide) (by decide) (by decide) (by decide), sh 7 (by decide) (by decide) (by decide) (by decide), sh 8 (by decide) (by decide) (by decide) (by decide)]
    show h.1 6 k = wkO 0 (m'.1 73 (4 * k)) ∧ h.1 7 k = wkO 1 (m'.1 73 (4 * k + 1)) ∧ h.1 8 k = wkO 2 (m'.1 73 (4 * k + 2))
    rw [sm 73 (by decide) (by decide) (by decide)]
    exact c2.2.2.2.2.2.1 k (show k < nWk m by rw [← zw]; exact hk)
  · rw [sh 9 (by decide) (by decide) (by decide) (by decide)]
    show _ = rtV (tx1 m') (rT m') j
    rw [z1, zr]; exact c2.2.2.2.2.2.2.1 j hj
  · have := c3.ke (h' := h') (fun c q r => sh c (by omega) (by omega) (by omega) (by omega))
    unfold SG
    rw [zs, s29, sm 91 (by decide) (by decide) (by decide)]
    exact this
  · have := c4.ke (h' := h') (fun c q r => sh c (by omega) (by omega) (by omega) (by omega))
    intro s hs
    have q : sSz m' s = sSz m s := by unfold sSz; rw [sm 70 (by decide) (by decide) (by decide)]
    rw [q, sm 69 (by decide) (by decide) (by decide), sm 70 (by decide) (by decide) (by decide), sm 71 (by decide) (by decide) (by decide)]
    exact this s hs
  · rw [sh 0 (by decide) (by decide) (by decide) (by decide), s4]; exact c5
theorem mok_ev {m m' : Hp} (M : MOK m) (sm : ∀ c, c ≠ 68 → c ≠ 77 → c ≠ 78 → m'.1 c = m.1 c) (s14 : m'.1 68 14 = m.1 68 14) (s29 : m'.1 68 29 = m.1 68 29) (ev : nEv m' ≤ 8 ∧ m'.1 68 12 = nI (nEv m') ∧ ∀ e, e < nEv m' → (∃ z, z < 3 ∧ m'.1 78 (3 * e) = nI z) ∧ (∃ z, z < 24 ∧ m'.1 78 (3 * e + 1) = nI z) ∧ ∃ z, z < 6 ∧ m'.1 78 (3 * e + 2) = nI z) (wr : (∃ z, 5 ≤ z ∧ z ≤ 40 ∧ m'.1 77 0 = nI z) ∧ (∃ z, z < 10 ∧ m'.1 77 1 = nI z) ∧ ∃ z, 3 ≤ z ∧ z ≤ 20 ∧ m'.1 77 2 = nI z) : MOK m' := by
  obtain ⟨m1, m2, m3, m4, m5, m6, m7⟩ := M
  have z0 : tx0 m' = tx0 m := by unfold tx0; rw [sm 74 (by decide) (by decide) (by decide)]
  have z1 : tx1 m' = tx1 m := by unfold tx1; rw [sm 74 (by decide) (by decide) (by decide)]
  have zs : nSg m' = nSg m := by unfold nSg; rw [s29]
  refine ⟨?_, ?_, ev, wr, by rw [s14]; exact m5, ?_, fun s hs => ?_⟩
  · rw [z0, sm 74 (by decide) (by decide) (by decide)]; exact m1
  · rw [z1, sm 74 (by decide) (by decide) (by decide)]; exact m2
  · rw [zs, s29, sm 91 (by decide) (by decide) (by decide)]; exact m6
  · have q : sSz m' s = sSz m s := by unfold sSz; rw [sm 70 (by decide) (by decide) (by decide)]
    rw [q, sm 69 (by decide) (by decide) (by decide), sm 70 (by decide) (by decide) (by decide)]; exact m7 s hs
theorem op_wire0 {h : Hp} (I : Inv h) (v : Int32) (r : inR v 5 40) : Step (f_X7_wire h (nI 0) v) (fun h1 => f_X8_wire h1 (nI 0) v) := by
  obtain ⟨m, M, C, P⟩ := I
  have c0 := C.c0
  obtain ⟨t1, t2, t3, t4, t5, t6, t7, t8⟩ := C.2.1
  have n1 : nEv (uf m 77 0 v) = nEv m := by unfold nEv; rw [uf_ne (by decide)]
  obtain ⟨z, hz1, hz2, ez⟩ := inR_ex r (by decide) (by decide)
  have sm : ∀ c, c ≠ 68 → c ≠ 77 → c ≠ 78 → (uf m 77 0 v).1 c = m.1 c := fun c _ q _ => uf_ne q
  refine comb (m' := uf m 77 0 v) (v := m.1 77 0) P ?_ ?_ (r_X7_wire h _ _) (fun h1 P1 => ?_) (fun h1 => r_X8_wire h1 _ _)
  · refine mok_ev M sm (by rw [uf_ne (by decide)]) (by rw [uf_ne (by decide)]) ?_ ?_
    · rw [n1, uf_ne (by decide), uf_ne (by decide)]; exact M.2.2.1
    · obtain ⟨w0, w1, w2⟩ := M.2.2.2.1
      refine ⟨?_, ?_, ?_⟩
      · rw [uf_get, if_pos ⟨rfl, rfl⟩]; exact ⟨z, hz1, hz2, ez⟩
      · rw [uf_get, if_neg (by decide)]; exact w1
      · rw [uf_get, if_neg (by decide)]; exact w2
  · have C' : CR0 (uf m 77 0 v) (uf h 5 9 v) := by
      refine cr0_ev c0 sm (by rw [uf_ne (by decide)]) (by rw [uf_ne (by decide)]) (fun c q _ _ _ => uf_ne q) (by simp [uf_get]) ?_ ?_ ?_ ?_ ?_
      · rw [n1]; simp [uf_get]; exact t2
      · simp [uf_get]
      · simp [uf_get]; exact t4
      · simp [uf_get]; exact t5
      · intro e he
        rw [n1] at he
        rw [uf_ne (by decide), uf_ne (by decide), uf_ne (by decide), uf_ne (by decide)]
        exact t8 e he
    unfold f_X7_wire
    simp only [lt1_eq]
    rw [if_pos (show nI 0 = 0 from rfl), w_540]
    rw [bdr_some, if_pos r, if_neg one_ne, nm_eq, nm_eq, fg_eq, bdv_some]
    exact ok_some ⟨t3, C'.fg⟩
  · unfold f_X8_wire f_X8_isSet
    rw [if_pos (show nI 0 = 0 from rfl), v_540]
    simp only [bdr_some, if_pos r, if_neg one_ne, cy, or_true, if_true]
    rw [ck_nI (by decide) (by decide), ia_nI (by decide), nm_eq, ck_nI (by decide) (by decide), ux_nI (by decide), nm_eq]
    exact ok_some ⟨by rw [P1.2.2.1], P1.uf _ _ _⟩
theorem op_wire1 {h : Hp} (I : Inv h) (v : Int32) (r : inR v 0 9) : Step (f_X7_wire h (nI 1) v) (fun h1 => f_X8_wire h1 (nI 1) v) := by
  obtain ⟨m, M, C, P⟩ := I
  have c0 := C.c0
  obtain ⟨t1, t2, t3, t4, t5, t6, t7, t8⟩ := C.2.1
  have n1 : nEv (uf m 77 1 v) = nEv m := by unfold nEv; rw [uf_ne (by decide)]
  obtain ⟨z, hz1, hz2, ez⟩ := inR_ex r (by decide) (by decide)
  have sm : ∀ c, c ≠ 68 → c ≠ 77 → c ≠ 78 → (uf m 77 1 v).1 c = m.1 c := fun c _ q _ => uf_ne q
  refine comb (m' := uf m 77 1 v) (v := m.1 77 1) P ?_ ?_ (r_X7_wire h _ _) (fun h1 P1 => ?_) (fun h1 => r_X8_wire h1 _ _)
  · refine mok_ev M sm (by rw [uf_ne (by decide)]) (by rw [uf_ne (by decide)]) ?_ ?_
    · rw [n1, uf_ne (by decide), uf_ne (by decide)]; exact M.2.2.1
    · obtain ⟨w0, w1, w2⟩ := M.2.2.2.1
      refine ⟨?_, ?_, ?_⟩
      · rw [uf_get, if_neg (by decide)]; exact w0
      · rw [uf_get, if_pos ⟨rfl, rfl⟩]; exact ⟨z, by omega, ez⟩
      · rw [uf_get, if_neg (by decide)]; exact w2
  · have C' : CR0 (uf m 77 1 v) (uf h 5 10 v) := by
      refine cr0_ev c0 sm (by rw [uf_ne (by decide)]) (by rw [uf_ne (by decide)]) (fun c q _ _ _ => uf_ne q) (by simp [uf_get]) ?_ ?_ ?_ ?_ ?_
      · rw [n1]; simp [uf_get]; exact t2
      · simp [uf_get]; exact t3
      · simp [uf_get]
      · simp [uf_get]; exact t5
      · intro e he
        rw [n1] at he
        rw [uf_ne (by decide), uf_ne (by decide), uf_ne (by decide), uf_ne (by decide)]
        exact t8 e he
    unfold f_X7_wire
    simp only [lt1_eq]
    rw [if_neg (show ¬ nI 1 = 0 by decide), if_pos (show nI 1 = 1 from rfl), w_9]
    rw [bdr_some, if_pos r, if_neg one_ne, nm_eq, nm_eq, fg_eq, bdv_some]
    exact ok_some ⟨t4, C'.fg⟩
  · unfold f_X8_wire f_X8_isSet
    rw [if_neg (show ¬ nI 1 = 0 by decide), if_pos (show nI 1 = 1 from rfl), v_9]
    simp only [bdr_some, if_pos r, if_neg one_ne, cy, or_true, if_true]
    rw [ck_nI (by decide) (by decide), ia_nI (by decide), nm_eq, ck_nI (by decide) (by decide), ux_nI (by decide), nm_eq]
    exact ok_some ⟨by rw [P1.2.2.1], P1.uf _ _ _⟩
theorem op_wire2 {h : Hp} (I : Inv h) (v : Int32) (r : inR v 3 20) : Step (f_X7_wire h (nI 2) v) (fun h1 => f_X8_wire h1 (nI 2) v) := by
  obtain ⟨m, M, C, P⟩ := I
  have c0 := C.c0
  obtain ⟨t1, t2, t3, t4, t5, t6, t7, t8⟩ := C.2.1
  have n1 : nEv (uf m 77 2 v) = nEv m := by unfold nEv; rw [uf_ne (by decide)]
  obtain ⟨z, hz1, hz2, ez⟩ := inR_ex r (by decide) (by decide)
  have sm : ∀ c, c ≠ 68 → c ≠ 77 → c ≠ 78 → (uf m 77 2 v).1 c = m.1 c := fun c _ q _ => uf_ne q
  refine comb (m' := uf m 77 2 v) (v := m.1 77 2) P ?_ ?_ (r_X7_wire h _ _) (fun h1 P1 => ?_) (fun h1 => r_X8_wire h1 _ _)
  · refine mok_ev M sm (by rw [uf_ne (by decide)]) (by rw [uf_ne (by decide)]) ?_ ?_
    · rw [n1, uf_ne (by decide), uf_ne (by decide)]; exact M.2.2.1
    · obtain ⟨w0, w1, w2⟩ := M.2.2.2.1
      refine ⟨?_, ?_, ?_⟩
      · rw [uf_get, if_neg (by decide)]; exact w0
      · rw [uf_get, if_neg (by decide)]; exact w1
      · rw [uf_get, if_pos ⟨rfl, rfl⟩]; exact ⟨z, hz1, hz2, ez⟩
  · have C' : CR0 (uf m 77 2 v) (uf h 5 11 v) := by
      refine cr0_ev c0 sm (by rw [uf_ne (by decide)]) (by rw [uf_ne (by decide)]) (fun c q _ _ _ => uf_ne q) (by simp [uf_get]) ?_ ?_ ?_ ?_ ?_
      · rw [n1]; simp [uf_get]; exact t2
      · simp [uf_get]; exact t3
      · simp [uf_get]; exact t4
      · simp [uf_get]
      · intro e he
        rw [n1] at he
        rw [uf_ne (by decide), uf_ne (by decide), uf_ne (by decide), uf_ne (by decide)]
        exact t8 e he
    unfold f_X7_wire
    simp only [lt1_eq]
    rw [if_neg (show ¬ nI 2 = 0 by decide), if_neg (show ¬ nI 2 = 1 by decide), if_pos (show nI 2 = 2 from rfl), w_320]
    rw [bdr_some, if_pos r, if_neg one_ne, nm_eq, nm_eq, fg_eq, bdv_some]
    exact ok_some ⟨t5, C'.fg⟩
  · unfold f_X8_wire f_X8_isSet
    rw [if_neg (show ¬ nI 2 = 0 by decide), if_neg (show ¬ nI 2 = 1 by decide), if_pos (show nI 2 = 2 from rfl), v_320]
    simp only [bdr_some, if_pos r, if_neg one_ne, cy, or_true, if_true]
    rw [ck_nI (by decide) (by decide), ia_nI (by decide), nm_eq, ck_nI (by decide) (by decide), ux_nI (by decide), nm_eq]
    exact ok_some ⟨by rw [P1.2.2.1], P1.uf _ _ _⟩
theorem op_wire {h : Hp} (I : Inv h) (a v : Int32) : Step (f_X7_wire h a v) (fun h1 => f_X8_wire h1 a v) := by
  by_cases q0 : a = 0 ∧ inR v 5 40
  · rw [q0.1]; exact op_wire0 I v q0.2
  by_cases q1 : a = 1 ∧ inR v 0 9
  · rw [q1.1]; exact op_wire1 I v q1.2
  by_cases q2 : a = 2 ∧ inR v 3 20
  · rw [q2.1]; exact op_wire2 I v q2.2
  obtain ⟨m, M, C, P⟩ := I
  refine comb (v := -2) P M ?_ (r_X7_wire h _ _) (fun h1 P1 => ?_) (fun h1 => r_X8_wire h1 _ _)
  · unfold f_X7_wire
    simp only [lt1_eq, w_540, w_9, w_320, bdr_some]
    by_cases a0 : a = 0
    · have r : ¬ inR v 5 40 := fun r => q0 ⟨a0, r⟩
      rw [if_pos a0, if_neg r, if_pos rfl, if_neg (by rw [a0]; decide), if_neg (by rw [a0]; decide)]
      exact ok_some ⟨rfl, C⟩
    · rw [if_neg a0]
      by_cases a1 : a = 1
      · have r : ¬ inR v 0 9 := fun r => q1 ⟨a1, r⟩
        rw [if_pos a1, if_neg r, if_pos rfl, if_neg (by rw [a1]; decide)]
        exact ok_some ⟨rfl, C⟩
      · rw [if_neg a1]
        by_cases a2 : a = 2
        · have r : ¬ inR v 3 20 := fun r => q2 ⟨a2, r⟩
          rw [if_pos a2, if_neg r, if_pos rfl]
          exact ok_some ⟨rfl, C⟩
        · rw [if_neg a2]
          exact ok_some ⟨rfl, C⟩
  · unfold f_X8_wire f_X8_isSet
    rw [v_540, v_9, v_320]
    simp only [bdr_some]
    by_cases a0 : a = 0
    · have r : ¬ inR v 5 40 := fun r => q0 ⟨a0, r⟩
      simp only [if_pos a0, if_neg r, cy, true_or, if_true, bdr_some]
      exact ok_some ⟨rfl, P1⟩
    · by_cases a1 : a = 1
      · have r : ¬ inR v 0 9 := fun r => q1 ⟨a1, r⟩
        simp only [if_neg a0, if_pos a1, if_neg r, cy, true_or, if_true, bdr_some]
        exact ok_some ⟨rfl, P1⟩
      · by_cases a2 : a = 2
        · have r : ¬ inR v 3 20 := fun r => q2 ⟨a2, r⟩
          simp only [if_neg a0, if_neg a1, if_pos a2, if_neg r, if_true, bdr_some]
          exact ok_some ⟨rfl, P1⟩
        · simp only [if_neg a0, if_neg a1, if_neg a2, if_true, bdr_some]
          exact ok_some ⟨rfl, P1⟩
