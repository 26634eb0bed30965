theorem m_neverNow {m h : Hp} (M : MOK m) (T : MT m h) : Ok (f_X8_neverNow h) (fun u => u.2 = nvV m ∧ MT m u.1) := by
  have n8 := M.2.2.1.1
  unfold f_X8_neverNow
  refine ok_fx3 (fun f h1 x y => ∃ e, y = nI e ∧ e + f = nEv m ∧ x = bitF (fun e => ftB m (wWo (inp m) (bt e))) e ∧ MG m h1) (nEv m) (by omega) ⟨0, rfl, by omega, rfl, mg_of M T⟩ ?_
  rintro f self h1 x y ⟨e, rfl, he, rfl, G1⟩ ih
  rw [mg_12 G1]
  by_cases hf : f = 0
  · have ee : e = nEv m := by omega
    rw [if_pos (nI_le (by omega) (by omega)), nm_eq, ee]
    exact ok_some ⟨rfl, G1⟩
  · have en : e < nEv m := by omega
    rw [if_neg (nI_ge en (by omega)), nm_eq]
    have P := G1.1
    refine ok_bnd (m_isSeen (i := wWo (inp m) (bt e)) M (ok_wWo (inp_ok M) _) (mg_tm G1 _) ?_ ?_) (fun h6 x7 H => ?_)
    · have := P.2.2.2.2.1
      rw [uf_ne (by decide)] at this ⊢
      exact this
    · have := P.2.2.2.2.2.2.2.2.2.2.2
      rw [uf_get, if_neg (by decide)] at this ⊢
      exact this
    · obtain ⟨rfl, -, K⟩ : x7 = _ ∧ ML _ h6 ∧ KM _ h6 := H
      simp only [lt1_eq, nm_eq]
      rw [show nI e + (1 : Int32) = nI (e + 1) from nI_1 e]
      refine ok_w (fun q => ?_) (fun q => ?_)
      · exact ih (f - 1) _ _ _ (by omega) ⟨e + 1, rfl, by omega, by rw [bitF, if_pos q]; rfl, mg_km M G1 K⟩
      · exact ih (f - 1) _ _ _ (by omega) ⟨e + 1, rfl, by omega, by rw [bitF, if_neg q, or0], mg_km M G1 K⟩
