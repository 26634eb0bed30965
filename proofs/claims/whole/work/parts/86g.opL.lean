theorem m_sortOf {m h : Hp} {k : Nat} (M : MOK m) (T : MT m h) (hk : k < nWk m) : Ok (f_X8_sortOf h (nI k)) (fun u => u.2 = srtV m k ∧ MT m u.1) := by
  have hN := nWk_le M
  have k18 : 3 * k + 1 < 18 := by omega
  have k31 : 3 * k + 1 < 2 ^ 31 := by omega
  unfold f_X8_sortOf
  rw [show (3 : Int32) * nI k + 1 = nI (3 * k + 1) by rw [t30]; exact nI_1 _, nm_eq, ck_nI k18 (by decide), nm_eq, ia_nI k31]
  refine ok_fx3 (fun f h1 x y => ∃ v, y = nI v ∧ v + f = 3 ∧ x = bitF (fun v => ftB m (wSo (inp m) k (nI v))) v ∧ KW 75 (3 * k + 1) h h1) 3 (by decide) ⟨0, rfl, rfl, rfl, kw_rf⟩ ?_
  rintro f self h1 x y ⟨v, rfl, hv, rfl, K1⟩ ih
  by_cases hf : f = 0
  · have ev : v = 3 := by omega
    rw [ev, if_pos (by decide), ck_nI k18 (by decide), ux_nI k31, nm_eq]
    exact ok_some ⟨rfl, T.km (kw_end K1 (by decide))⟩
  · have v3 : v < 3 := by omega
    have K7 : KW 75 (3 * k + 1) h (uf h1 75 (3 * k + 1) (nI v)) := kw_uf K1 (by decide)
    have T7 := tm_wSo T.2.1 K7 (show (uf h1 75 (3 * k + 1) (nI v)).1 75 (3 * k + 1) = nI v by rw [uf_get, if_pos ⟨rfl, rfl⟩])
    rw [if_neg ((show ∀ v, v < 3 → ¬ (3 : Int32) ≤ nI v by decide +kernel) v v3), ck_nI k18 (by decide), ux_nI k31, nm_eq]
    refine ok_bnd (m_isSeen M (ok_wSo (inp_ok M) k v3) T7 ((K7.1 91 (by decide) (by decide) (by decide)).trans T.1.2.2.2.2.1) ((K7.2.1 29 (by decide) (by decide)).trans T.1.2.2.2.2.2.2.2.2.2.2.2)) (fun h6 x7 H => ?_)
    obtain ⟨rfl, -, K⟩ : x7 = _ ∧ ML _ h6 ∧ KM _ h6 := H
    have K6 : KW 75 (3 * k + 1) h h6 := K7.km K (by decide)
    simp only [lt1_eq, nm_eq]
    rw [show nI v + (1 : Int32) = nI (v + 1) from nI_1 v]
    refine ok_w (fun q => ?_) (fun q => ?_)
    · exact ih (f - 1) _ _ _ (by omega) ⟨v + 1, rfl, by omega, by rw [bitF, if_pos q]; rfl, K6⟩
    · exact ih (f - 1) _ _ _ (by omega) ⟨v + 1, rfl, by omega, by rw [bitF, if_neg q, or0], K6⟩
