theorem iN_w (i : Inp) (w : Int32) : iN (wWo i w) = iN i := rfl
theorem iWo_w (i : Inp) (w : Int32) : iWo (wWo i w) = w := rfl
def nvV (m : Hp) : Int32 := bitF (fun e => ftB m (wWo (inp m) (bt e))) (nEv m)
theorem c_never {m h : Hp} (M : MOK m) (C : CR m h) : Ok (f_X7_never h) (fun u => u.2 = nvV m ∧ CR m u.1) := by
  have n8 := M.2.2.1.1
  unfold f_X7_never
  refine ok_fx3 (fun f h1 x y => ∃ e, y = nI e ∧ e + f = nEv m ∧ x = bitF (fun e => ftB m (wWo (inp m) (bt e))) e ∧ CR m h1) (nEv m) (by omega) ⟨0, rfl, by omega, rfl, C⟩ ?_
  rintro f self h1 x y ⟨e, rfl, he, rfl, C1⟩ ih
  rw [show h1.1 5 8 = nI (nEv m) from C1.2.1.2.1]
  by_cases hf : f = 0
  · have ee : e = nEv m := by omega
    rw [if_pos (nI_le (by omega) (by omega)), ee]
    exact ok_some ⟨rfl, C1⟩
  · have en : e < nEv m := by omega
    rw [if_neg (nI_ge en (by omega))]
    refine ok_bdv (c_tr (i := wWo (inp m) (bt e)) (ok_wWo (inp_ok M) _) (Or.inl rfl) (iWo_w (inp m) (bt e)).symm (ti_wWo C1.2.1 _)) (fun h4 H => ?_)
    have C4 : CR m h4 := C1.kc (kc_fi H.2.2)
    rw [show h4.1 5 7 = nI (iN (wWo (inp m) (bt e))) from by rw [iN_w]; exact C4.2.1.1]
    refine ok_bdr (c_fit M C4.2.2.1 (nWk_le M) (H.2.1 one_ne).2) (fun x5 hx => ?_)
    subst hx
    simp only [lt1_eq, nm_eq]
    rw [show nI e + (1 : Int32) = nI (e + 1) from nI_1 e]
    refine ok_w (fun q => ?_) (fun q => ?_)
    · exact ih (f - 1) _ _ _ (by omega) ⟨e + 1, rfl, by omega, by rw [bitF, if_pos q]; rfl, C4⟩
    · exact ih (f - 1) _ _ _ (by omega) ⟨e + 1, rfl, by omega, by rw [bitF, if_neg q], C4⟩
