set_option maxHeartbeats 1000000 in
theorem tk_loop {h : Hp} {sz : Nat} (hs : sz ≤ 23) (t : h.1 1 1 = nI sz) : ∀ (n : Nat) (x3 : Int32), x3 = nI n → n ≤ 6 → (x3 = if wkR sz (h.1 2) = -1 then nI ((sz + 1) / 4) else 0) → (0 < n → wkR sz (h.1 2) = -1 ∧ n = (sz + 1) / 4) → (wkR sz (h.1 2) = -1 → n = (sz + 1) / 4) → Ok (fx2 FU (fun s3 (h5 : Hp) (x6 : Int32) =>
        if (h5.1 5 7) ≤ x6 then (
          some h5)
        else (
          bdr (f_X4_byteAt h5 1 ((4 : Int32) * x6)) fun x7 =>
          ck x6 6 (
          bdr (f_X4_byteAt (ux h5 6 x6 (x7 - (97 : Int32))) 1 (((4 : Int32) * x6) + (1 : Int32))) fun x9 =>
          bdr (f_X4_sortOf x9) fun x10 =>
          ck x6 6 (
          bdr (f_X4_byteAt (ux (ux h5 6 x6 (x7 - (97 : Int32))) 7 x6 x10) 1 (((4 : Int32) * x6) + (2 : Int32))) fun x12 =>
          ck x6 6 (
          s3 (ux (ux (ux h5 6 x6 (x7 - (97 : Int32))) 7 x6 x10) 8 x6 (x12 - (48 : Int32))) (x6 + (1 : Int32))))))) (uf h 5 7 x3) (0 : Int32)) (fun h' => tkH sz (h.1 2) h h') := by
  rintro n x3 rfl hn e3 hpos hgd
  refine ok_fx2 (fun m h1 x => ∃ j, x = nI j ∧ j + m = n ∧ h1.1 5 7 = nI n ∧ (∀ c, c ≠ 5 → c ≠ 6 → c ≠ 7 → c ≠ 8 → h1.1 c = h.1 c) ∧ (∀ z, z ≠ 7 → h1.1 5 z = h.1 5 z) ∧ h1.2 = h.2 ∧ ∀ k, k < j → h1.1 6 k = wkO 0 (h.1 2 (4 * k)) ∧ h1.1 7 k = wkO 1 (h.1 2 (4 * k + 1)) ∧ h1.1 8 k = wkO 2 (h.1 2 (4 * k + 2))) n (by omega) ⟨0, rfl, by omega, by simp [uf_get], fun c c1 _ _ _ => uf_ne c1, fun z hz => by simp [uf_get, hz], rfl, fun k hk => by omega⟩ ?_
  rintro m self h1 x ⟨j, rfl, hj, g1, g2, g3, g4, g5⟩ ih
  rw [g1]
  by_cases hm : m = 0
  · have e : j = n := by omega
    rw [if_pos (nI_le (by omega) (by omega))]
    exact ok_some ⟨by rw [g1]; exact e3, g2, g3, g4, fun q k hk => g5 k (by have := hgd q; omega)⟩
  · have hjn : j < n := by omega
    have hj6 : j < 6 := by omega
    have j31 : j < 2 ^ 31 := by omega
    obtain ⟨er, en⟩ := hpos (by omega)
    obtain ⟨q1, q2⟩ := wkR_good hs er
    have b2 : 4 * j + 2 < sz := by omega
    have e4 : (4 : Int32) * nI j = nI (4 * j) := by rw [show (4 : Int32) = nI 4 from rfl, pk_mul]
    have t1 : ∀ h2 : Hp, h2.1 1 = h1.1 1 → h2.1 1 1 = nI sz := fun h2 e => by rw [e, g2 1 (by decide) (by decide) (by decide) (by decide)]; exact t
    have t2 : ∀ z, h1.1 (1 + 1) z = h.1 2 z := fun z => by rw [g2 2 (by decide) (by decide) (by decide) (by decide)]
    have w0 := q2 (4 * j) (by omega)
    have w1 := q2 (4 * j + 1) (by omega)
    have w2 := q2 (4 * j + 2) (by omega)
    rw [show 4 * j % 4 = 0 by omega] at w0
    rw [show (4 * j + 1) % 4 = 1 by omega] at w1
    rw [show (4 * j + 2) % 4 = 2 by omega] at w2
    rw [if_neg (nI_ge hjn (by omega))]
    simp only [e4, ux_nI j31, ck_nI hj6 (show 6 < 2 ^ 31 by decide), show nI j + (1 : Int32) = nI (j + 1) from nI_1 j, show nI (4 * j) + (1 : Int32) = nI (4 * j + 1) from nI_1 _, show nI (4 * j) + (2 : Int32) = nI (4 * j + 2) from nI_add _ 2]
    rw [byteAt_eq (t1 _ rfl) (show 4 * j < sz by omega) hs (by decide), bdr_some, byteAt_eq (t1 _ (uf_ne (by decide))) (show 4 * j + 1 < sz by omega) hs (by decide), bdr_some, sortOf_eq, bdr_some, byteAt_eq (t1 _ ((uf_ne (by decide)).trans (uf_ne (by decide)))) b2 hs (by decide), bdr_some]
    rw [uf_ne (show 1 + 1 ≠ 7 by decide), uf_ne (show 1 + 1 ≠ 6 by decide), t2, t2, t2, wk1_ok w1, wk0_ok w0, wk2_ok w2]
    refine ih (m - 1) _ _ (by omega) ⟨j + 1, rfl, by omega, ?_, fun c c1 c2 c3 c4 => ?_, fun z hz => ?_, g4, fun k hk => ?_⟩
    · rw [uf_ne (by decide), uf_ne (by decide), uf_ne (by decide)]; exact g1
    · rw [uf_ne c4, uf_ne c3, uf_ne c2]; exact g2 c c1 c2 c3 c4
    · rw [uf_ne (by decide), uf_ne (by decide), uf_ne (by decide)]; exact g3 z hz
    · by_cases e : k = j
      · subst e
        simp [uf_get]
      · simp [uf_get, e]
        exact g5 k (by omega)
