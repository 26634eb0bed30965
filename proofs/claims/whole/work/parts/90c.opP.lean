theorem c_weigh {m h : Hp} (M : MOK m) (C : CR m h) : Ok (f_X7_weighOdds h) (fun h' => CR m h' ∧ OD (inp m) h') := by
  have hN := nWk_le M
  have n8 := M.2.2.1.1
  have p8 : 2 ^ nEv m ≤ 2 ^ 8 := Nat.pow_le_pow_right (by decide) n8
  unfold f_X7_weighOdds
  by_cases q : h.1 0 12 = 0
  · rw [if_pos q]
    refine ok_fx2 (fun f h1 x => ∃ z, x = nI z ∧ z + f = 2 ^ nEv m ∧ CR m h1 ∧ h1.1 0 12 = 0 ∧ ∀ z', z' < z → ∀ k, k < iN (inp m) → ((h1.1 56 z' >>> (nI k &&& 31)) &&& 1 = 1 ↔ wst ((runF (wWo (inp m) (nI z' ^^^ -1)) 24).1.1 k) = 2)) (2 ^ nEv m) (by omega) ⟨0, rfl, by omega, C, q, fun z' hz' => by omega⟩ ?_
    rintro f self h1 x ⟨z, rfl, hz, C1, e12, G⟩ ih
    rw [show h1.1 5 8 = nI (nEv m) from C1.2.1.2.1, show (1 : Int32) <<< (nI (nEv m) &&& 31) = nI (2 ^ nEv m) from bt_eq (by omega)]
    by_cases hf : f = 0
    · have ez : z = 2 ^ nEv m := by omega
      rw [if_pos (nI_le (by omega) (by omega)), nm_eq]
      have OD1 : OD (inp m) (uf h1 0 12 1) := fun z' hz' k hk => by
        rw [uf_ne (by decide)]
        exact G z' (by rw [ez]; exact hz') k hk
      have f : ∀ c, c ≠ 0 → (uf h1 0 12 1).1 c = h1.1 c := fun c q => uf_ne q
      obtain ⟨c1, c2, c3, c4, c5, c6, c7⟩ := C1
      refine ok_some ⟨⟨c1.ke (fun c q r => f c (by omega)), c2.ke (fun c q r => f c (by omega)) (f 9 (by decide)), c3.ke (fun c q r => f c (by omega)), c4.ke (fun c q r => f c (by omega)), by simp [uf_get]; exact c5, ?_, Or.inr OD1⟩, OD1⟩
      rw [show (uf h1 0 12 1).1 0 11 = h1.1 0 11 by simp [uf_get]]
      exact c6.imp id (fun s => s.ke (fun c q r => f c (by omega)))
    · have zl : z < 2 ^ nEv m := by omega
      rw [if_neg (nI_ge zl (by omega)), if_neg (nI_ge (show z < 256 by omega) (by decide))]
      refine ok_bdv (c_tr (i := wWo (inp m) (nI z ^^^ -1)) (ok_wWo (inp_ok M) _) (Or.inl rfl) (iWo_w (inp m) (nI z ^^^ -1)).symm (ti_wWo C1.2.1 _)) (fun h5 H => ?_)
      obtain ⟨R, -, F⟩ := H
      have C5 : CR m h5 := C1.kc (kc_fi F)
      have e5 : h5.1 0 12 = 0 := by rw [(F 0 (by decide)).1]; exact e12
      rw [show h5.1 5 7 = nI (iN (wWo (inp m) (nI z ^^^ -1))) from by rw [iN_w]; exact C5.2.1.1]
      refine ok_bdr (c_bits (i := wWo (inp m) (nI z ^^^ -1)) hN R.1) (fun x6 hx => ?_)
      subst hx
      rw [ck_nI (by omega) (by decide), ux_nI (by omega), nm_eq, nm_eq, show nI z + (1 : Int32) = nI (z + 1) from nI_1 z]
      obtain ⟨C7, e7⟩ := cr_56 C5 e5 z (bitF (fun k => decide (wst ((runF (wWo (inp m) (nI z ^^^ -1)) 24).1.1 k) = 2)) (iN (wWo (inp m) (nI z ^^^ -1))))
      refine ih (f - 1) _ _ (by omega) ⟨z + 1, rfl, by omega, C7, e7, fun z' hz' k hk => ?_⟩
      rw [uf_get]
      by_cases ez : z' = z
      · rw [if_pos ⟨rfl, ez⟩, ez, bitF_get (F := fun k => decide (wst ((runF (wWo (inp m) (nI z ^^^ -1)) 24).1.1 k) = 2)) (n := iN (wWo (inp m) (nI z ^^^ -1))) (by rw [iN_w]; exact Nat.le_trans hN (by decide)) (by rw [iN_w]; exact hk)]
        exact ⟨fun t => of_decide_eq_true t, fun t => decide_eq_true t⟩
      · rw [if_neg (fun t => ez t.2), (F 56 (by decide)).1]
        exact G z' (by omega) k hk
  · rw [if_neg q]
    exact ok_some ⟨C, C.2.2.2.2.2.2.resolve_left q⟩
