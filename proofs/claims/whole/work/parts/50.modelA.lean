/-! the reference's show -/
theorem p_whoAt {h : Hp} {n : Nat} {q : Int32} (hn : n ≤ 6) (t : h.1 68 7 = nI n) : Ok (f_X8_whoAt h q) (fun x => x = -1 ↔ ∀ k, k < n → ¬ (h.1 79 k = 1 ∧ h.1 80 k = q)) := by
  unfold f_X8_whoAt
  refine ok_fx2 (fun m x1 x2 => ∃ j, x2 = nI j ∧ j + m = n ∧ (x1 = -1 ↔ ∀ k, k < j → ¬ (h.1 79 k = 1 ∧ h.1 80 k = q))) n (by omega) ⟨0, rfl, by omega, ⟨fun _ k hk => by omega, fun _ => rfl⟩⟩ ?_
  rintro m self x1 x2 ⟨j, rfl, hj, hi⟩ ih
  rw [t]
  by_cases hm : m = 0
  · have e : j = n := by omega
    subst e
    rw [if_pos (nI_le (Nat.le_refl _) (by omega))]
    exact ok_some hi
  · have hjn : j < n := by omega
    have hj6 : j < 6 := by omega
    have j31 : j < 2 ^ 31 := by omega
    rw [if_neg (nI_ge hjn (by omega))]
    simp only [ck_nI hj6 (show 6 < 2 ^ 31 by decide), nm_eq, ia_nI j31, lt1_eq, show nI j + (1 : Int32) = nI (j + 1) from nI_1 j]
    have no : ¬ (h.1 79 j = 1 ∧ h.1 80 j = q) → Ok (self x1 (nI (j + 1))) (fun x => x = -1 ↔ ∀ k, k < n → ¬ (h.1 79 k = 1 ∧ h.1 80 k = q)) := by
      intro hno
      refine ih (m - 1) _ _ (by omega) ⟨j + 1, rfl, by omega, hi.trans ⟨fun a k hk => ?_, fun a k hk => a k (by omega)⟩⟩
      by_cases e : k = j
      · rw [e]; exact hno
      · exact a k (by omega)
    refine ok_ite (fun c1 => ?_) (fun c1 => no (fun z => c1 z.1))
    refine ok_ite (fun c2 => ?_) (fun c2 => no (fun z => c2 z.2))
    refine ih (m - 1) _ _ (by omega) ⟨j + 1, rfl, by omega, ⟨fun a => ?_, fun a => absurd ⟨c1, c2⟩ (a j (by omega))⟩⟩
    exact absurd a ((show ∀ r, r < 6 → ¬ nI r = -1 by decide +kernel) j hj6)
theorem p_leans {h : Hp} {n : Nat} {d : Int32} (hn : n ≤ 6) (t : h.1 68 7 = nI n) : Ok (f_X8_leans h d) (fun h' => (∀ c, c ≠ 81 → h'.1 c = h.1 c) ∧ h'.2 = h.2 ∧ ∀ k, k < n → h'.1 81 k = if h.1 79 k = 1 then h.1 81 k + d else h.1 81 k) := by
  unfold f_X8_leans
  refine ok_fx2 (fun m h1 x => ∃ j, x = nI j ∧ j + m = n ∧ (∀ c, c ≠ 81 → h1.1 c = h.1 c) ∧ h1.2 = h.2 ∧ ∀ k, k < n → h1.1 81 k = if k < j ∧ h.1 79 k = 1 then h.1 81 k + d else h.1 81 k) n (by omega) ⟨0, rfl, by omega, fun _ _ => rfl, rfl, fun k _ => by simp⟩ ?_
  rintro m self h1 x ⟨j, rfl, hj, h2, h3, h4⟩ ih
  rw [h2 68 (by decide), t]
  by_cases hm : m = 0
  · have e : j = n := by omega
    subst e
    rw [if_pos (nI_le (Nat.le_refl _) (by omega))]
    exact ok_some ⟨h2, h3, fun k hk => by rw [h4 k hk]; simp [hk]⟩
  · have hjn : j < n := by omega
    have hj6 : j < 6 := by omega
    have j31 : j < 2 ^ 31 := by omega
    rw [if_neg (nI_ge hjn (by omega))]
    simp only [ck_nI hj6 (show 6 < 2 ^ 31 by decide), nm_eq, ia_nI j31, ux_nI j31, lt1_if, show nI j + (1 : Int32) = nI (j + 1) from nI_1 j]
    rw [h2 79 (by decide)]
    refine ih (m - 1) _ _ (by omega) ⟨j + 1, rfl, by omega, fun c hc => by rw [uf_ne hc]; exact h2 c hc, h3, fun k hk => ?_⟩
    rw [uf_get]
    by_cases e : k = j
    · subst e
      rw [if_pos ⟨rfl, rfl⟩, h4 k hk]
      by_cases c : h.1 79 k = 1
      · simp [c]
      · simp [c]
    · rw [if_neg (by simp [e]), h4 k hk]
      have : (k < j + 1) = (k < j) := by simp; omega
      simp only [this]
/-- what was told, as the reference holds it -/
def TM (i : Inp) (h : Hp) : Prop := h.1 68 7 = nI (iN i) ∧ h.1 68 12 = nI (iNe i) ∧ h.1 77 0 = iLen i ∧ h.1 77 1 = iSla i ∧ h.1 77 2 = iLim i ∧ h.1 68 14 = iWo i ∧ (∀ k, k < iN i → h.1 75 (3 * k) = iSt i k ∧ h.1 75 (3 * k + 1) = iSo i k ∧ h.1 75 (3 * k + 2) = iPo i k) ∧ (∀ j, j < 24 → h.1 76 j = iMv i j) ∧ ∀ e, e < iNe i → h.1 78 (3 * e) = iEk i e ∧ h.1 78 (3 * e + 1) = iEb i e ∧ h.1 78 (3 * e + 2) = iEn i e
theorem isIn_eq (x : Int32) (k : Int32) : f_X8_isIn x k = some (if (x >>> (k &&& 31)) &&& 1 = 1 then 1 else 0) := by
  unfold f_X8_isIn
  split <;> rfl
theorem and1 (x : Int32) : x &&& 1 = 0 ∨ x &&& 1 = 1 := by
  obtain ⟨j, hj, e⟩ := pk_andE x (m := 1) 1 (by decide)
  rcases (show j = 0 ∨ j = 1 by omega) with rfl | rfl
  · exact Or.inl e
  · exact Or.inr e
theorem and1_0 (x : Int32) : (x &&& 1 = 0) = ¬ (x &&& 1 = 1) := by
  rcases and1 x with h | h <;> simp [h]
theorem t3 {k N : Nat} (h : k < N) (hN : N < 1000) (a : Nat) (ha : a < 3) : (3 : Int32) * nI k + nI a = nI (3 * k + a) := by
  rw [show (3 : Int32) = nI 3 from rfl, pk_mul, nI_add]
theorem t30 (k : Nat) : (3 : Int32) * nI k = nI (3 * k) := by
  rw [show (3 : Int32) = nI 3 from rfl, pk_mul]
theorem drop_lt {i : Inp} (hI : InOk i) (b : Nat) : ∀ e, e ≤ iNe i → ∃ d, d < 64 ∧ dropN i b e = nI d
  | 0, _ => ⟨0, by decide, rfl⟩
  | e + 1, he => by
    obtain ⟨d, hd, ed⟩ := drop_lt hI b e (by omega)
    obtain ⟨-, -, ⟨nu, hnu, enu⟩⟩ := hI.2.2.1 e (by omega)
    rw [dropN, ed, enu]
    have key : ∀ d, d < 64 → ∀ nu, nu < 6 → ∃ c, c < 64 ∧ nI d ||| ((1 : Int32) <<< (nI nu &&& 31)) = nI c := by
      have h1 : ∀ d, d < 64 → ∀ nu, nu < 6 → (nI d ||| ((1 : Int32) <<< (nI nu &&& 31))).toNatClampNeg < 64 ∧ nI d ||| ((1 : Int32) <<< (nI nu &&& 31)) = nI (nI d ||| ((1 : Int32) <<< (nI nu &&& 31))).toNatClampNeg := by decide +kernel
      exact fun d hd nu hnu => ⟨_, h1 d hd nu hnu⟩
    split
    · split
      · split
        · exact ⟨d, hd, rfl⟩
        · split
          · exact key d hd nu hnu
          · exact ⟨d, hd, rfl⟩
      · exact ⟨d, hd, rfl⟩
    · exact ⟨d, hd, rfl⟩
theorem bit_or {d nu k : Nat} (hd : d < 64) (hn : nu < 6) (hk : k < 6) : ((nI d ||| ((1 : Int32) <<< (nI nu &&& 31))) >>> (nI k &&& 31)) &&& 1 = 1 ↔ ((nI d >>> (nI k &&& 31)) &&& 1 = 1 ∨ k = nu) := (show ∀ d, d < 64 → ∀ nu, nu < 6 → ∀ k, k < 6 → (((nI d ||| ((1 : Int32) <<< (nI nu &&& 31))) >>> (nI k &&& 31)) &&& 1 = 1 ↔ ((nI d >>> (nI k &&& 31)) &&& 1 = 1 ∨ k = nu)) by decide +kernel) d hd nu hn k hk
theorem bit_0 {k : Nat} (hk : k < 6) : ¬ (((0 : Int32) >>> (nI k &&& 31)) &&& 1 = 1) := (show ∀ k, k < 6 → ¬ (((0 : Int32) >>> (nI k &&& 31)) &&& 1 = 1) by decide +kernel) k hk
set_option maxHeartbeats 1000000 in
theorem p_happens {i : Inp} {b : Nat} {h : Hp} (hI : InOk i) (hb : b < 24) (T : TM i h) :
    Ok (f_X8_happens h (nI b)) (fun h' => h'.1 68 28 = cheerN i b (iNe i) ∧ (∀ k, k < iN i → h'.1 81 k = if h.1 79 k = 1 then h.1 81 k + gustN i b (iNe i) else h.1 81 k) ∧ (∀ k, k < iN i → h'.1 82 k = if (dropN i b (iNe i) >>> (nI k &&& 31)) &&& 1 = 1 then 0 else h.1 82 k) ∧ (∀ c, c ≠ 68 → c ≠ 81 → c ≠ 82 → h'.1 c = h.1 c) ∧ (∀ z, z ≠ 28 → h'.1 68 z = h.1 68 z) ∧ h'.2 = h.2) := by
  have hN := hI.1
  have hne := hI.2.1
  unfold f_X8_happens
  rw [nm_eq]
  refine ok_fx2 (fun m h2 x => ∃ e, x = nI e ∧ e + m = iNe i ∧ h2.1 68 28 = cheerN i b e ∧ (∀ k, k < iN i → h2.1 81 k = if h.1 79 k = 1 then h.1 81 k + gustN i b e else h.1 81 k) ∧ (∀ k, k < iN i → h2.1 82 k = if (dropN i b e >>> (nI k &&& 31)) &&& 1 = 1 then 0 else h.1 82 k) ∧ (∀ c, c ≠ 68 → c ≠ 81 → c ≠ 82 → h2.1 c = h.1 c) ∧ (∀ z, z ≠ 28 → h2.1 68 z = h.1 68 z) ∧ h2.2 = h.2) (iNe i) (by omega) ⟨0, rfl, by omega, by simp [uf_get, cheerN], fun k hk => ?_, fun k hk => ?_, fun c c1 _ _ => by rw [uf_ne c1], fun z hz => by simp [uf_get, hz], rfl⟩ ?_
  · rw [uf_ne (by decide)]
    simp [gustN]
  · rw [uf_ne (by decide)]
    have : ¬ ((dropN i b 0 >>> (nI k &&& 31)) &&& 1 = 1) := bit_0 (by omega)
    rw [if_neg this]
  · rintro m self h2 x ⟨e, rfl, he, r1, r2, r3, r4, r5, r6⟩ ih
    rw [r5 12 (by decide), T.2.1]
    by_cases hm : m = 0
    · have ee : e = iNe i := by omega
      subst ee
      rw [if_pos (nI_le (Nat.le_refl _) (by omega))]
      exact ok_some ⟨r1, r2, r3, r4, r5, r6⟩
    · have hen : e < iNe i := by omega
      obtain ⟨⟨z, hz, ez⟩, ⟨b0, hb0, eb0⟩, ⟨nu, hnu, enu⟩⟩ := hI.2.2.1 e hen
      obtain ⟨q1, q2, q3⟩ := T.2.2.2.2.2.2.2.2 e hen
      obtain ⟨d, hd, ed⟩ := drop_lt hI b e (by omega)
      rw [if_neg (nI_ge hen (by omega)), show (3 : Int32) * nI e + (2 : Int32) = nI (3 * e + 2) from t3 hen (by omega) 2 (by decide), show (3 : Int32) * nI e + (1 : Int32) = nI (3 * e + 1) from t3 hen (by omega) 1 (by decide), t30]
      simp only [ck_nI (show 3 * e + 2 < 24 by omega) (show 24 < 2 ^ 31 by decide), ck_nI (show 3 * e + 1 < 24 by omega) (show 24 < 2 ^ 31 by decide), ck_nI (show 3 * e < 24 by omega) (show 24 < 2 ^ 31 by decide), ia_nI (show 3 * e + 2 < 2 ^ 31 by omega), ia_nI (show 3 * e + 1 < 2 ^ 31 by omega), ia_nI (show 3 * e < 2 ^ 31 by omega), nm_eq]
      rw [r4 78 (by decide) (by decide) (by decide), q1, q2, q3, r5 14 (by decide), T.2.2.2.2.2.1, isIn_eq, lt1_eq, bdr_some, show nI e + (1 : Int32) = nI (e + 1) from nI_1 e]
      have skip : gustN i b (e + 1) = gustN i b e → cheerN i b (e + 1) = cheerN i b e → dropN i b (e + 1) = dropN i b e → Ok (self h2 (nI (e + 1))) (fun h' => h'.1 68 28 = cheerN i b (iNe i) ∧ (∀ k, k < iN i → h'.1 81 k = if h.1 79 k = 1 then h.1 81 k + gustN i b (iNe i) else h.1 81 k) ∧ (∀ k, k < iN i → h'.1 82 k = if (dropN i b (iNe i) >>> (nI k &&& 31)) &&& 1 = 1 then 0 else h.1 82 k) ∧ (∀ c, c ≠ 68 → c ≠ 81 → c ≠ 82 → h'.1 c = h.1 c) ∧ (∀ z, z ≠ 28 → h'.1 68 z = h.1 68 z) ∧ h'.2 = h.2) := by
        intro s1 s2 s3
        exact ih (m - 1) _ _ (by omega) ⟨e + 1, rfl, by omega, by rw [s2]; exact r1, fun k hk => by rw [s1]; exact r2 k hk, fun k hk => by rw [s3]; exact r3 k hk, r4, r5, r6⟩
      by_cases hbb : iEb i e = nI b
      · rw [if_pos hbb]
        by_cases hbit : (iWo i >>> (nI e &&& 31)) &&& 1 = 1
        · rw [if_pos hbit, if_neg one_ne]
          have hb0' : ¬ ((iWo i >>> (nI e &&& 31)) &&& 1 = 0) := by rw [and1_0]; exact fun q => q hbit
          exact skip (by simp [gustN, hb0']) (by simp [cheerN, hb0']) (by simp [dropN, hb0'])
        · rw [if_neg hbit, if_pos rfl]
          have hb0' : (iWo i >>> (nI e &&& 31)) &&& 1 = 0 := by rw [and1_0]; exact hbit
          by_cases k0 : iEk i e = 0
          · rw [if_pos k0, lt1_if]
            refine ok_bdv (p_leans hN (by rw [r5 7 (by decide)]; exact T.1)) (fun h9 ⟨l1, l2, l3⟩ => ?_)
            refine ih (m - 1) _ _ (by omega) ⟨e + 1, rfl, by omega, ?_, fun k hk => ?_, fun k hk => ?_, fun c c1 c2 c3 => ?_, fun z hz => ?_, by rw [l2]; exact r6⟩
            · rw [l1 68 (by decide), r1]; simp [cheerN, hb0', hbb, k0]
            · rw [l3 k hk, r2 k hk, r4 79 (by decide) (by decide) (by decide)]
              by_cases on : h.1 79 k = 1
              · simp only [if_pos on]
                simp only [gustN, hb0', hbb, k0, if_true]
                split <;> rw [Int32.add_assoc]
              · simp only [if_neg on]
            · rw [l1 82 (by decide), r3 k hk]; simp [dropN, hb0', hbb, k0]
            · rw [l1 c c2]; exact r4 c c1 c2 c3
            · rw [l1 68 (by decide)]; exact r5 z hz
          · rw [if_neg k0]
            by_cases k1 : iEk i e = 1
            · rw [if_pos k1, enu, ck_nI hnu (by decide), ux_nI (by omega)]
              refine ih (m - 1) _ _ (by omega) ⟨e + 1, rfl, by omega, ?_, fun k hk => ?_, fun k hk => ?_, fun c c1 c2 c3 => ?_, fun z hz => ?_, r6⟩
              · rw [uf_ne (by decide), r1]; simp [cheerN, hb0', hbb, k1]
              · rw [uf_ne (by decide), r2 k hk]; simp [gustN, hb0', hbb, k1]
              · rw [uf_get, r3 k hk]
                have e2 : dropN i b (e + 1) = nI d ||| ((1 : Int32) <<< (nI nu &&& 31)) := by simp [dropN, hb0', hbb, k1, enu, ed]
                rw [e2, ed]
                by_cases ek : k = nu
                · subst ek
                  rw [if_pos ⟨rfl, rfl⟩, if_pos ((bit_or hd hnu (by omega)).mpr (Or.inr rfl))]
                · rw [if_neg (by simp [ek])]
                  by_cases bb : (nI d >>> (nI k &&& 31)) &&& 1 = 1
                  · rw [if_pos bb, if_pos ((bit_or hd hnu (by omega)).mpr (Or.inl bb))]
                  · rw [if_neg bb, if_neg (fun q => ((bit_or hd hnu (by omega)).mp q).elim bb ek)]
              · rw [uf_ne c3]; exact r4 c c1 c2 c3
              · rw [uf_ne (by decide)]; exact r5 z hz
            · rw [if_neg k1]
              refine ih (m - 1) _ _ (by omega) ⟨e + 1, rfl, by omega, ?_, fun k hk => ?_, fun k hk => ?_, fun c c1 c2 c3 => ?_, fun z hz => ?_, r6⟩
              · rw [uf_get]; simp [cheerN, hb0', hbb, k0, k1]
              · rw [uf_ne (by decide), r2 k hk]; simp [gustN, hb0', hbb, k0]
              · rw [uf_ne (by decide), r3 k hk]; simp [dropN, hb0', hbb, k0, k1]
              · rw [uf_ne c1]; exact r4 c c1 c2 c3
              · rw [uf_get]; simp [hz]; exact r5 z hz
      · rw [if_neg hbb]
        exact skip (by simp [gustN, hbb]) (by simp [cheerN, hbb]) (by simp [dropN, hbb])
