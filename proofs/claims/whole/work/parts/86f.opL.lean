def srtV (m : Hp) (k : Nat) : Int32 := bitF (fun v => ftB m (wSo (inp m) k (nI v))) 3
theorem c_sorts {m h : Hp} {k : Nat} (M : MOK m) (C : CR m h) (hk : k < nWk m) : Ok (f_X7_fittingSorts h (nI k)) (fun u => u.2 = srtV m k ∧ CR m u.1) := by
  have hN := nWk_le M
  have k6 : k < 6 := by omega
  have k31 : k < 2 ^ 31 := by omega
  unfold f_X7_fittingSorts
  rw [cw_eq hN C.2.1.1, bdr_some, if_pos (isW_nI hN hk), if_neg one_ne, ck_nI k6 (by decide), nm_eq, ia_nI k31, lt2_eq]
  refine ok_fx3 (fun f h1 x y => ∃ v, y = nI v ∧ v + f = 3 ∧ x = bitF (fun v => ftB m (wSo (inp m) k (nI v))) v ∧ KT 7 k h h1) 3 (by decide) ⟨0, rfl, rfl, rfl, kt_rf⟩ ?_
  rintro f self h1 x y ⟨v, rfl, hv, rfl, K1⟩ ih
  by_cases hf : f = 0
  · have ev : v = 3 := by omega
    rw [ev, if_pos (by decide)]
    dsimp only
    rw [ck_nI k6 (by decide), ux_nI k31, nm_eq]
    exact ok_some ⟨rfl, C.kc (kt_end K1 (by decide))⟩
  · have v3 : v < 3 := by omega
    have K7 : KT 7 k h (uf h1 7 k (nI v)) := kt_uf K1 (by decide)
    have T7 := ti_wSo C.2.1 K7 (show (uf h1 7 k (nI v)).1 7 k = nI v by rw [uf_get, if_pos ⟨rfl, rfl⟩])
    rw [if_neg ((show ∀ v, v < 3 → ¬ (3 : Int32) ≤ nI v by decide +kernel) v v3), ck_nI k6 (by decide), ux_nI k31, nm_eq]
    refine ok_bdv (c_tr (ok_wSo (inp_ok M) k v3) (Or.inl rfl) rfl T7) (fun h4 H => ?_)
    have K4 : KT 7 k h h4 := K7.kc (kc_fi H.2.2) (by decide)
    have S4 : SG m h4 := C.2.2.1.ke (fun c q r => K4.1 c (by omega) (by omega) (by omega))
    rw [show h4.1 5 7 = nI (iN (wSo (inp m) k (nI v))) from by rw [K4.1 5 (by decide) (by decide) (by decide)]; exact C.2.1.1]
    refine ok_bdr (c_fit M S4 hN (H.2.1 one_ne).2) (fun x5 hx => ?_)
    subst hx
    simp only [lt1_eq, nm_eq]
    rw [show nI v + (1 : Int32) = nI (v + 1) from nI_1 v]
    refine ok_w (fun q => ?_) (fun q => ?_)
    · exact ih (f - 1) _ _ _ (by omega) ⟨v + 1, rfl, by omega, by rw [bitF, if_pos q]; rfl, K4⟩
    · exact ih (f - 1) _ _ _ (by omega) ⟨v + 1, rfl, by omega, by rw [bitF, if_neg q], K4⟩
