def LM (i : Inp) (h : Hp) (b : Nat) : Prop := ∀ c, c < b → (∀ k, k < iN i → h.1 87 (6 * c + k) = wst ((runF i (c + 1)).1.1 k) ∧ h.1 88 (6 * c + k) = wpl ((runF i (c + 1)).1.1 k) ∧ h.1 89 (6 * c + k) = wle ((runF i (c + 1)).1.1 k)) ∧ h.1 90 c = swayF i c (runF i c).2
set_option maxHeartbeats 2000000 in
theorem p_lives {i : Inp} {h : Hp} (hI : InOk i) (T : TM i h) :
    Ok (f_X8_lives h) (fun h' => RM i h' (runF i 24).1.1 (runF i 24).1.2.1 ∧ LM i h' 24 ∧ KM h h') := by
  have hN := hI.1
  unfold f_X8_lives
  rw [lt1_eq]
  refine ok_fx2 (fun m h1 x => ∃ j, x = nI j ∧ j + m = 6 ∧ (∀ k, k < j → h1.1 79 k = 0 ∧ h1.1 80 k = -1 ∧ h1.1 81 k = 0 ∧ h1.1 82 k = h.1 75 (3 * k + 2) ∧ h1.1 83 k = 0 ∧ h1.1 84 k = -1 ∧ h1.1 85 k = 0 ∧ h1.1 86 k = 0) ∧ (∀ c, (c < 79 ∨ 87 ≤ c) → h1.1 c = h.1 c) ∧ h1.2 = h.2) 6 (by decide) ⟨0, rfl, rfl, fun k hk => by omega, fun _ _ => rfl, rfl⟩ ?_
  rintro m self h1 x ⟨j, rfl, hj, h2, h3, h4⟩ ih
  by_cases hm : m = 0
  · have e : j = 6 := by omega
    subst e
    rw [if_pos (by decide)]
    dsimp only
    rw [nm_eq]
    have K2 : KM h (uf h1 68 27 0) := ⟨fun c q q2 => by rw [uf_ne q2]; exact h3 c (by omega), fun z z1 z2 => by rw [uf_get, if_neg (by omega), h3 68 (by decide)], h4⟩
    refine ok_fx3 (fun m h3 x4 x5 => ∃ b, x5 = nI b ∧ b + m = 24 ∧ (if h3.1 68 27 ≤ x4 then (0 : Int32) else 1) = (runF i b).2 ∧ RM i h3 (runF i b).1.1 (runF i b).1.2.1 ∧ LM i h3 b ∧ KM h h3) 24 (by decide) ⟨0, rfl, rfl, ?_, ⟨fun k hk => ?_, ?_⟩, fun c hc => by omega, K2⟩ ?_
    · rw [show (uf h1 68 27 0).1 68 27 = 0 by simp [uf_get], if_pos (by decide)]
      rfl
    · obtain ⟨v1, v2, v3, v4, v5, v6, v7, v8⟩ := h2 k (by omega)
      rw [uf_ne (by decide), uf_ne (by decide), uf_ne (by decide), uf_ne (by decide), uf_ne (by decide), uf_ne (by decide), uf_ne (by decide), uf_ne (by decide)]
      exact ⟨v1, v2, v3, v4.trans (T.2.2.2.2.2.2.1 k hk).2.2, v5, v6, v7, v8⟩
    · rw [uf_get, if_pos ⟨rfl, rfl⟩]; rfl
    · rintro m self h3 x4 x5 ⟨b, rfl, hbm, em, R, L, K⟩ ih
      by_cases hm : m = 0
      · have e : b = 24 := by omega
        subst e
        rw [if_pos (by decide)]
        exact ok_some ⟨R, L, K⟩
      · have hb : b < 24 := by omega
        rw [if_neg ((show ∀ b, b < 24 → ¬ (24 : Int32) ≤ nI b by decide +kernel) b hb), nm_eq, lt1_if, em]
        refine ok_bdv (p_passes hI hb (km_tm K T) R (run_PI hI b)) (fun h8 B => ?_)
        obtain ⟨b1, b2, b3, b4, b5⟩ := B
        rw [nm_eq, show nI b + (1 : Int32) = nI (b + 1) from nI_1 b]
        refine ih (m - 1) _ _ _ (by omega) ⟨b + 1, rfl, by omega, ?_, b1, fun c hc => ?_, km_tr K b2⟩
        · rw [b1.2, R.2]; rfl
        · by_cases e : c = b
          · subst e
            refine ⟨b5, ?_⟩
            rw [b3, if_pos rfl]
          · obtain ⟨q1, q2⟩ := L c (by omega)
            refine ⟨fun k hk => ?_, ?_⟩
            · obtain ⟨p1, p2, p3⟩ := b4 (6 * c + k) (by omega)
              rw [p1, p2, p3]
              exact q1 k hk
            · rw [b3, if_neg e]; exact q2
  · have hj6 : j < 6 := by omega
    have j31 : j < 2 ^ 31 := by omega
    have e3 : (3 : Int32) * nI j + 2 = nI (3 * j + 2) := t3 hj6 (by decide) 2 (by decide)
    have j18 : 3 * j + 2 < 18 := by omega
    have j231 : 3 * j + 2 < 2 ^ 31 := by omega
    rw [if_neg (nI_lt6 hj6)]
    simp only [e3, ck_nI hj6 (show 6 < 2 ^ 31 by decide), ck_nI j18 (show 18 < 2 ^ 31 by decide), nm_eq, ia_nI j231, ux_nI j31, show nI j + (1 : Int32) = nI (j + 1) from nI_1 j]
    simp only [uf_ne (show 75 ≠ 81 by decide), uf_ne (show 75 ≠ 80 by decide), uf_ne (show 75 ≠ 79 by decide), h3 75 (by decide)]
    refine ih (m - 1) _ _ (by omega) ⟨j + 1, rfl, by omega, fun k hk => ?_, fun c hc => ?_, h4⟩
    · by_cases e : k = j
      · subst e
        simp [uf_get]
      · obtain ⟨v1, v2, v3, v4, v5, v6, v7, v8⟩ := h2 k (by omega)
        simp [uf_get, e, v1, v2, v3, v4, v5, v6, v7, v8]
    · rw [uf_ne (by omega), uf_ne (by omega), uf_ne (by omega), uf_ne (by omega), uf_ne (by omega), uf_ne (by omega), uf_ne (by omega), uf_ne (by omega)]
      exact h3 c hc
