theorem wk0_rg {v : Int32} (h : wkO 0 v ≠ -9) : ∃ z, z < 24 ∧ wkO 0 v = nI z := by
  have e : wkO 0 v = rgO v 97 120 := by simp [wkO]
  rw [e] at h ⊢
  unfold rgO at h ⊢
  by_cases h1 : v < nI 97
  · rw [if_pos h1] at h; exact absurd rfl h
  · by_cases h2 : nI 120 < v
    · rw [if_neg h1, if_pos h2] at h; exact absurd rfl h
    · obtain ⟨z, hz, ez⟩ := rgO_in (by decide) (by decide) h1 h2
      rw [if_neg h1, if_neg h2]
      exact ⟨z, by omega, ez⟩
theorem wk2_rg {v : Int32} (h : wkO 2 v ≠ -9) : ∃ z, z < 10 ∧ wkO 2 v = nI z := by
  have e : wkO 2 v = rgO v 48 57 := by simp [wkO]
  rw [e] at h ⊢
  unfold rgO at h ⊢
  by_cases h1 : v < nI 48
  · rw [if_pos h1] at h; exact absurd rfl h
  · by_cases h2 : nI 57 < v
    · rw [if_neg h1, if_pos h2] at h; exact absurd rfl h
    · obtain ⟨z, hz, ez⟩ := rgO_in (by decide) (by decide) h1 h2
      rw [if_neg h1, if_neg h2]
      exact ⟨z, by omega, ez⟩
theorem wk1_rg {v : Int32} (h : wkO 1 v ≠ -9) : ∃ z, z < 3 ∧ wkO 1 v = nI z := by
  have e : wkO 1 v = soO v := by simp [wkO]
  rw [e] at h ⊢
  unfold soO at h ⊢
  by_cases c1 : v = 115
  · rw [if_pos c1]; exact ⟨0, by decide, rfl⟩
  · by_cases c2 : v = 98
    · rw [if_neg c1, if_pos c2]; exact ⟨1, by decide, rfl⟩
    · by_cases c3 : v = 111
      · rw [if_neg c1, if_neg c2, if_pos c3]; exact ⟨2, by decide, rfl⟩
      · rw [if_neg c1, if_neg c2, if_neg c3] at h; exact absurd rfl h
theorem nWk_le {m : Hp} (M : MOK m) : nWk m ≤ 6 := by
  have := M.1.1
  unfold nWk
  split <;> omega
theorem nWk_pos {m : Hp} {k : Nat} (h : k < nWk m) : wkR (tx0 m) (m.1 73) = -1 ∧ 4 * k + 2 < tx0 m := by
  unfold nWk at h
  by_cases e : wkR (tx0 m) (m.1 73) = -1
  · rw [if_pos e] at h; exact ⟨e, by omega⟩
  · rw [if_neg e] at h; omega
theorem inp_ok {m : Hp} (M : MOK m) : InOk (inp m) := by
  obtain ⟨m1, m2, m3, m4, m5, m6, m7⟩ := M
  refine ⟨nWk_le ⟨m1, m2, m3, m4, m5, m6, m7⟩, m3.1, m3.2.2, m4.1, m4.2.1, m4.2.2, fun k hk => ?_, fun j hj => ?_⟩
  · obtain ⟨e, hlt⟩ := nWk_pos (show k < nWk m from hk)
    obtain ⟨-, g⟩ := wkR_good m1.1 e
    have g0 := g (4 * k) (by omega)
    have g1 := g (4 * k + 1) (by omega)
    have g2 := g (4 * k + 2) (by omega)
    rw [show 4 * k % 4 = 0 by omega] at g0
    rw [show (4 * k + 1) % 4 = 1 by omega] at g1
    rw [show (4 * k + 2) % 4 = 2 by omega] at g2
    exact ⟨wk0_rg g0, wk1_rg g1, wk2_rg g2⟩
  · show ∃ z, z < 4 ∧ rtV (tx1 m) (rT m) j = nI z
    unfold rtV
    by_cases e : rtF (tx1 m) (rT m) = none
    · rw [if_pos e]
      by_cases hz : j < tx1 m
      · rw [if_pos hz]
        rcases mvO_cases (rT m j) with q | q
        · exact absurd q (rt_good e hz)
        · exact q
      · rw [if_neg hz]; exact ⟨0, by decide, rfl⟩
    · rw [if_neg e]; exact ⟨0, by decide, rfl⟩
theorem c_take {m h : Hp} (M : MOK m) (X : TX m h) (E1 : h.1 5 8 = nI (nEv m)) (E2 : h.1 5 9 = m.1 77 0) (E3 : h.1 5 10 = m.1 77 1) (E4 : h.1 5 11 = m.1 77 2) (E5 : ∀ e, e < nEv m → h.1 10 e = m.1 78 (3 * e) ∧ h.1 11 e = m.1 78 (3 * e + 1) ∧ h.1 12 e = m.1 78 (3 * e + 2)) :
    Ok (f_X7_takeTexts h) (fun h' => TX m h' ∧ TI (inp m) 9 h' ∧ h'.1 0 11 = 0 ∧ h'.1 0 12 = 0 ∧ (∀ c, c ≠ 0 → (c < 5 ∨ 10 ≤ c) → h'.1 c = h.1 c) ∧ h'.1 0 15 = h.1 0 15) := by
  have t0 : h.1 1 1 = nI (tx0 m) := X.1.trans M.1.2
  have t1 : h.1 3 1 = nI (tx1 m) := X.2.1.trans M.2.1.2
  have eR : wkR (tx0 m) (h.1 2) = wkR (tx0 m) (m.1 73) := wkR_congr X.2.2.1
  unfold f_X7_takeTexts
  refine ok_bdv (p_takeWalkers M.1.1 t0) (fun h1 H1 => ?_)
  obtain ⟨k1, k2, k3, k4, k5⟩ := H1
  have s1 : h1.1 3 1 = nI (tx1 m) := by rw [k2 3 (by decide) (by decide) (by decide) (by decide)]; exact t1
  refine ok_bdv (p_takeRoutine M.2.1.1 s1) (fun h2 H2 => ?_)
  obtain ⟨r1, r2⟩ := H2
  have f2 : ∀ c, c ≠ 9 → h2.1 c = h1.1 c := fun c hc => by funext z; rw [r1, if_neg (fun q => hc q.1)]
  unfold f_X7_forgetShows
  rw [nm_eq, nm_eq, bdv_some]
  have f3 : ∀ c, c ≠ 0 → (uf (uf h2 0 11 0) 0 12 0).1 c = h2.1 c := fun c hc => by rw [uf_ne hc, uf_ne hc]
  have f4 : ∀ c, c ≠ 0 → (c < 5 ∨ 10 ≤ c) → (uf (uf h2 0 11 0) 0 12 0).1 c = h.1 c := fun c hc q => by rw [f3 c hc, f2 c (by omega), k2 c (by omega) (by omega) (by omega) (by omega)]
  refine ok_some ⟨X.ke (fun c q r => f4 c (by omega) (Or.inl r)), ⟨?_, ?_, ?_, ?_, ?_, fun k hk => ?_, fun j hj => ?_, fun e he => ?_⟩, by simp [uf_get], by simp [uf_get], f4, ?_⟩
  · rw [f3 5 (by decide), f2 5 (by decide), k1, eR]
    show _ = nI (nWk m)
    unfold nWk
    split <;> rfl
  · rw [f3 5 (by decide), f2 5 (by decide), k3 8 (by decide)]; exact E1
  · rw [f3 5 (by decide), f2 5 (by decide), k3 9 (by decide)]; exact E2
  · rw [f3 5 (by decide), f2 5 (by decide), k3 10 (by decide)]; exact E3
  · rw [f3 5 (by decide), f2 5 (by decide), k3 11 (by decide)]; exact E4
  · obtain ⟨e, hlt⟩ := nWk_pos (show k < nWk m from hk)
    obtain ⟨q0, q1, q2⟩ := k5 (eR.trans e) k (by omega)
    rw [f3 6 (by decide), f2 6 (by decide), f3 7 (by decide), f2 7 (by decide), f3 8 (by decide), f2 8 (by decide), q0, q1, q2, X.2.2.1 (4 * k) (by omega), X.2.2.1 (4 * k + 1) (by omega), X.2.2.1 (4 * k + 2) (by omega)]
    exact ⟨rfl, rfl, rfl⟩
  · rw [f3 9 (by decide), r1, if_pos ⟨rfl, hj⟩, k2 4 (by decide) (by decide) (by decide) (by decide)]
    exact rtV_congr X.2.2.2 j
  · rw [f4 10 (by decide) (by decide), f4 11 (by decide) (by decide), f4 12 (by decide) (by decide)]
    exact E5 e he
  · rw [uf_get, if_neg (by decide), uf_get, if_neg (by decide), f2 0 (by decide), k2 0 (by decide) (by decide) (by decide) (by decide)]
theorem c_after {m m' h hx : Hp} (C : CR m h) (M' : MOK m') (X' : TX m' hx) (sm : ∀ c, c ≠ 73 → c ≠ 74 → m'.1 c = m.1 c) (sh : ∀ c, (c = 0 ∨ 5 ≤ c) → hx.1 c = h.1 c) :
    Ok (f_X7_takeTexts hx) (fun h' => CR m' h' ∧ (∀ c, 0 < c → c < 5 → h'.1 c = hx.1 c) ∧ ∀ c, 68 ≤ c → h'.1 c = h.1 c) := by
  obtain ⟨c1, c2, c3, c4, c5, c6, c7⟩ := C
  have n1 : nEv m' = nEv m := by unfold nEv; rw [sm 68 (by decide) (by decide)]
  have n2 : nSg m' = nSg m := by unfold nSg; rw [sm 68 (by decide) (by decide)]
  obtain ⟨t1, t2, t3, t4, t5, t6, t7, t8⟩ := c2
  refine ok_mono (c_take M' X' ?_ ?_ ?_ ?_ ?_) (fun h' H => ?_)
  · rw [sh 5 (by decide), n1]; exact t2
  · rw [sh 5 (by decide), sm 77 (by decide) (by decide)]; exact t3
  · rw [sh 5 (by decide), sm 77 (by decide) (by decide)]; exact t4
  · rw [sh 5 (by decide), sm 77 (by decide) (by decide)]; exact t5
  · intro e he
    rw [n1] at he
    rw [sh 10 (by decide), sh 11 (by decide), sh 12 (by decide), sm 78 (by decide) (by decide)]
    exact t8 e he
  · obtain ⟨a1, a2, a3, a4, a5, a6⟩ := H
    refine ⟨⟨a1, a2, ?_, ?_, ?_, Or.inl a3, Or.inl a4⟩, fun c q r => a5 c (by omega) (by omega), fun c q => by rw [a5 c (by omega) (by omega), sh c (by omega)]⟩
    · have := c3.ke (h' := h') (fun c q r => by rw [a5 c (by omega) (by omega), sh c (by omega)])
      refine ⟨by rw [sm 68 (by decide) (by decide)]; exact this.1, fun j hj => ?_⟩
      rw [sm 91 (by decide) (by decide)]
      exact this.2 j (by omega)
    · have := c4.ke (h' := h') (fun c q r => by rw [a5 c (by omega) (by omega), sh c (by omega)])
      intro s hs
      have q : sSz m' s = sSz m s := by unfold sSz; rw [sm 70 (by decide) (by decide)]
      rw [sm 69 (by decide) (by decide), sm 70 (by decide) (by decide), sm 71 (by decide) (by decide), q]
      exact this s hs
    · rw [a6, sh 0 (by decide), sm 68 (by decide) (by decide)]; exact c5
theorem mok_tx {m m' : Hp} (M : MOK m) (sm : ∀ c, c ≠ 73 → c ≠ 74 → m'.1 c = m.1 c) (h0 : tx0 m' ≤ 23 ∧ m'.1 74 0 = nI (tx0 m')) (h1 : tx1 m' ≤ 24 ∧ m'.1 74 1 = nI (tx1 m')) : MOK m' := by
  obtain ⟨m1, m2, m3, m4, m5, m6, m7⟩ := M
  have n1 : nEv m' = nEv m := by unfold nEv; rw [sm 68 (by decide) (by decide)]
  have n2 : nSg m' = nSg m := by unfold nSg; rw [sm 68 (by decide) (by decide)]
  refine ⟨h0, h1, ?_, ?_, ?_, ?_, fun s hs => ?_⟩
  · rw [n1, sm 68 (by decide) (by decide), sm 78 (by decide) (by decide)]; exact m3
  · rw [sm 77 (by decide) (by decide)]; exact m4
  · rw [sm 68 (by decide) (by decide)]; exact m5
  · rw [n2, sm 68 (by decide) (by decide), sm 91 (by decide) (by decide)]; exact m6
  · have q : sSz m' s = sSz m s := by unfold sSz; rw [sm 70 (by decide) (by decide)]
    rw [q, sm 69 (by decide) (by decide), sm 70 (by decide) (by decide)]; exact m7 s hs
