theorem p_fill {h : Hp} {a : Nat} {v : Int32} (ha : sl a < 1000) : Ok (f_J7_fill_53178 h a v) (fun h' => (∀ c, c ≠ a → h'.1 c = h.1 c) ∧ h'.2 = h.2 ∧ ∀ j, j < sl a → h'.1 a j = v) := by
  unfold f_J7_fill_53178
  rw [nm_eq]
  refine ok_fx2 (fun m h1 x => ∃ j, x = nI j ∧ j + m = sl a ∧ (∀ c, c ≠ a → h1.1 c = h.1 c) ∧ h1.2 = h.2 ∧ ∀ k, k < j → h1.1 a k = v) (sl a) ha ⟨0, rfl, by omega, fun _ _ => rfl, rfl, fun k hk => by omega⟩ ?_
  rintro m self h1 x ⟨j, rfl, hj, h2, h3, h4⟩ ih
  by_cases hm : m = 0
  · have e : j = sl a := by omega
    subst e
    rw [if_pos (nI_le (Nat.le_refl _) (by omega))]
    exact ok_some ⟨h2, h3, h4⟩
  · have hjn : j < sl a := by omega
    rw [if_neg (nI_ge hjn (by omega)), ck_nI hjn (by omega), ux_nI (by omega)]
    simp only [nm_eq]
    rw [show nI j + (1 : Int32) = nI (j + 1) from nI_1 j]
    refine ih (m - 1) _ _ (by omega) ⟨j + 1, rfl, by omega, fun c hc => by rw [uf_ne hc]; exact h2 c hc, h3, fun k hk => ?_⟩
    rw [uf_get]
    by_cases e : k = j
    · simp [e]
    · rw [if_neg (by simp [e])]; exact h4 k (by omega)
theorem p_add {h : Hp} {S b z : Nat} {v : Int32} (hb : b < 24) (hz : z < 3) : f_X6_add h S (nI z) (nI b) v = some (if z = 0 then uf h (S + 1) b (if v - v / 2 * 2 = 1 then h.1 (S + 1) b + 3 else h.1 (S + 1) b + (-3)) else if z = 1 then uf h (S + 3) b (h.1 (S + 3) b ||| ((1 : Int32) <<< (v &&& 31))) else uf h (S + 2) b 1) := by
  have b31 : b < 2 ^ 31 := by omega
  unfold f_X6_add
  rw [if_neg (nI_pos b31), if_pos (ltb24 hb)]
  simp only [ck_nI hb (show 24 < 2 ^ 31 by decide), nm_eq, ia_nI b31, ux_nI b31]
  match z, hz with
  | 0, _ =>
    rw [if_pos (show nI 0 = 0 from rfl), if_pos rfl]
    split <;> rfl
  | 1, _ =>
    rw [if_neg (show ¬ nI 1 = 0 by decide), if_pos (show nI 1 = 1 from rfl)]
    rfl
  | 2, _ =>
    rw [if_neg (show ¬ nI 2 = 0 by decide), if_neg (show ¬ nI 2 = 1 by decide)]
    rfl
  | z + 3, hz => omega
def WFe (i : Inp) (S : Nat) (h : Hp) (e : Nat) : Prop := ∀ b, b < 24 → h.1 (S + 1) b = gustN i b e ∧ h.1 (S + 2) b = cheerN i b e ∧ h.1 (S + 3) b = dropN i b e
theorem p_gather {i : Inp} {S : Nat} {h : Hp} {wo : Int32} (hI : InOk i) (hS : 13 ≤ S) (hw : wo = iWo i) (l1 : sl (S + 1) = 24) (l2 : sl (S + 2) = 24) (l3 : sl (S + 3) = 24) (t1 : h.1 5 8 = nI (iNe i)) (t2 : ∀ e, e < iNe i → h.1 10 e = iEk i e ∧ h.1 11 e = iEb i e ∧ h.1 12 e = iEn i e) :
    Ok (f_X6_gather h S wo) (fun h' => WFe i S h' (iNe i) ∧ (∀ c, c < S + 1 ∨ S + 4 ≤ c → h'.1 c = h.1 c) ∧ h'.2 = h.2) := by
  unfold f_X6_gather
  refine ok_bdv (p_fill (by omega)) (fun h1 ⟨a1, a2, a3⟩ => ?_)
  refine ok_bdv (p_fill (by omega)) (fun h2 ⟨b1, b2, b3⟩ => ?_)
  refine ok_bdv (p_fill (by omega)) (fun h3 ⟨c1, c2, c3⟩ => ?_)
  have hne := hI.2.1
  refine ok_fx2 (fun m h4 x => ∃ e, x = nI e ∧ e + m = iNe i ∧ WFe i S h4 e ∧ (∀ c, c < S + 1 ∨ S + 4 ≤ c → h4.1 c = h.1 c) ∧ h4.2 = h.2) (iNe i) (by omega) ⟨0, rfl, by omega, fun b hb => ⟨?_, ?_, ?_⟩, fun c hc => ?_, ?_⟩ ?_
  · rw [c1 _ (by omega), b1 _ (by omega), a3 b (by omega)]; rfl
  · rw [c1 _ (by omega), b3 b (by omega)]; rfl
  · rw [c3 b (by omega)]; rfl
  · rw [c1 _ (by omega), b1 _ (by omega), a1 _ (by omega)]
  · rw [c2, b2, a2]
  · rintro m self h4 x ⟨e, rfl, he, w4, f4, g4⟩ ih
    have t5 : h4.1 5 = h.1 5 := f4 5 (by omega)
    rw [t5, t1]
    by_cases hm : m = 0
    · have ee : e = iNe i := by omega
      subst ee
      rw [if_pos (nI_le (Nat.le_refl _) (by omega))]
      exact ok_some ⟨w4, f4, g4⟩
    · have hen : e < iNe i := by omega
      have he8 : e < 8 := by omega
      have e31 : e < 2 ^ 31 := by omega
      obtain ⟨⟨z, hz, ez⟩, ⟨b0, hb0, eb0⟩, ⟨nu, hnu, enu⟩⟩ := hI.2.2.1 e hen
      obtain ⟨q1, q2, q3⟩ := t2 e hen
      rw [if_neg (nI_ge hen (by omega)), if_neg (show ¬ (8 : Int32) ≤ nI e from (show ∀ j, j < 8 → ¬ (8 : Int32) ≤ nI j by decide +kernel) e he8)]
      simp only [lt1_eq, nm_eq, ck_nI he8 (show 8 < 2 ^ 31 by decide), ia_nI e31]
      rw [f4 10 (by omega), f4 11 (by omega), f4 12 (by omega), q1, q2, q3, hw, show nI e + (1 : Int32) = nI (e + 1) from nI_1 e]
      by_cases hbit : (iWo i >>> (nI e &&& 31)) &&& 1 = 0
      · rw [if_pos hbit, ez, eb0, p_add hb0 hz, bdv_some]
        refine ih (m - 1) _ _ (by omega) ⟨e + 1, rfl, by omega, fun b hb => ?_, fun c hc => ?_, ?_⟩
        · obtain ⟨v1, v2, v3⟩ := w4 b hb
          have hbb : (iEb i e = nI b) = (b = b0) := by
            rw [eb0]
            have := nI_eq (a := b0) (b := b) (by omega) (by omega)
            simp only [this, eq_comm]
          simp only [gustN, cheerN, dropN, if_pos hbit, hbb]
          by_cases ebb : b = b0
          · subst ebb
            match z, hz with
            | 0, _ => simp [uf_get, ez, v1, v2, v3, show nI 0 = 0 from rfl]
            | 1, _ => simp [uf_get, ez, v1, v2, v3, show ¬ nI 1 = 0 by decide, show nI 1 = 1 from rfl]
            | 2, _ => simp [uf_get, ez, v1, v2, v3, show ¬ nI 2 = 0 by decide, show ¬ nI 2 = 1 by decide]
            | z + 3, hz => omega
          · simp only [if_neg ebb]
            split
            · rw [uf_get, uf_ne (by omega), uf_ne (by omega), if_neg (by simp [ebb])]; exact ⟨v1, v2, v3⟩
            · split
              · rw [uf_ne (by omega), uf_ne (by omega), uf_get, if_neg (by simp [ebb])]; exact ⟨v1, v2, v3⟩
              · rw [uf_ne (by omega), uf_get, uf_ne (by omega), if_neg (by simp [ebb])]; exact ⟨v1, v2, v3⟩
        · split
          · rw [uf_ne (by omega)]; exact f4 c hc
          · split <;> (rw [uf_ne (by omega)]; exact f4 c hc)
        · split
          · exact g4
          · split <;> exact g4
      · rw [if_neg hbit]
        refine ih (m - 1) _ _ (by omega) ⟨e + 1, rfl, by omega, fun b hb => ?_, f4, g4⟩
        simp only [gustN, cheerN, dropN, if_neg hbit]
        exact w4 b hb
theorem p_prepare {i : Inp} {S : Nat} {h : Hp} (hN : iN i ≤ 6) (hS : 13 ≤ S) (t8 : ∀ k, k < iN i → h.1 8 k = iPo i k) :
    Ok (f_X2_prepare h S (nI (iN i))) (fun h' => RC i S h' (ini i) 0 [] ∧ KP S h h' ∧ h'.2 = h.2) := by
  unfold f_X2_prepare
  simp only [nm_eq]
  refine ok_fx2 (fun m h5 x => ∃ j, x = nI j ∧ j + m = iN i ∧ (∀ k, k < j → h5.1 (S + 10) k = 0 ∧ h5.1 (S + 11) k = -1 ∧ h5.1 (S + 12) k = 0 ∧ h5.1 (S + 13) k = iPo i k ∧ h5.1 (S + 15) k = -1 ∧ h5.1 (S + 16) k = 0 ∧ h5.1 (S + 17) k = 0) ∧ (h5.1 S 11 = 0 ∧ h5.1 S 12 = 0 ∧ h5.1 S 13 = 0 ∧ h5.1 S 14 = 0) ∧ KP S h h5 ∧ h5.2 = h.2) (iN i) (by omega) ⟨0, rfl, by omega, fun k hk => by omega, by simp [uf_get], fun c c1 c2 => by rw [uf_ne c1, uf_ne c1, uf_ne c1, uf_ne c1], rfl⟩ ?_
  rintro m self h5 x ⟨j, rfl, hj, r5, s5, k5, g5⟩ ih
  by_cases hm : m = 0
  · have e : j = iN i := by omega
    subst e
    rw [if_pos (nI_le (Nat.le_refl _) (by omega))]
    have c0 : ∀ c : Int32, c ≠ 0 → cntW (iN i) (ini i) c = 0 := by
      intro c hc
      unfold cntW
      rw [List.length_eq_zero_iff, List.filter_eq_nil_iff]
      intro x _
      simp only [decide_eq_true_eq]
      exact fun q => hc (q.symm)
    exact ok_some ⟨⟨r5, s5.1, fun j hj => by simp at hj, s5.2.1, by rw [c0 2 (by decide)]; exact s5.2.2.1, by rw [c0 3 (by decide)]; exact s5.2.2.2⟩, k5, g5⟩
  · have hjn : j < iN i := by omega
    have hj6 : j < 6 := by omega
    have j31 : j < 2 ^ 31 := by omega
    rw [if_neg (nI_ge hjn (by omega))]
    simp only [ck_nI hj6 (show 6 < 2 ^ 31 by decide), nm_eq, ia_nI j31, ux_nI j31]
    rw [show nI j + (1 : Int32) = nI (j + 1) from nI_1 j]
    have p8 : ∀ v1 v2 v3 : Int32, (uf (uf (uf h5 (S + 10) j v1) (S + 11) j v2) (S + 12) j v3).1 8 j = iPo i j := fun v1 v2 v3 => by
      rw [uf_ne (by omega), uf_ne (by omega), uf_ne (by omega), k5 8 (by omega) (by omega)]; exact t8 j hjn
    rw [p8]
    refine ih (m - 1) _ _ (by omega) ⟨j + 1, rfl, by omega, fun k hk => ?_, ?_, ?_, g5⟩
    · by_cases e : k = j
      · subst e; simp [uf_get]
      · simpa [uf_get, e] using r5 k (by omega)
    · simpa [uf_get] using s5
    · exact (((((((k5.uf (by omega)).uf (by omega)).uf (by omega)).uf (by omega)).uf (by omega)).uf (by omega)).uf (by omega)).uf (by omega)
