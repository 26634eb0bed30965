/-! ask -/
def alF (m : Hp) (k b a : Nat) : Nat → Int32
  | 0 => 0
  | c + 1 => if polB m k a = true ∧ polB m k c = true ∧ smP (polF m k a) (polF m k c) b then alF m k b a c + 1 else alF m k b a c
def mxF (m : Hp) (k b : Nat) : Nat → Int32
  | 0 => 0
  | a + 1 => jmax (mxF m k b a) (alF m k b a 10)
theorem alF_nat (m : Hp) (k b a : Nat) : ∀ c, ∃ z, z ≤ c ∧ alF m k b a c = nI z
  | 0 => ⟨0, by decide, rfl⟩
  | c + 1 => by
    obtain ⟨z, hz, ez⟩ := alF_nat m k b a c
    rw [alF]
    split
    · rw [ez]; exact ⟨z + 1, by omega, nI_1 z⟩
    · exact ⟨z, by omega, ez⟩
theorem mxF_nat (m : Hp) (k b : Nat) : ∀ a, ∃ z, z ≤ 10 ∧ mxF m k b a = nI z
  | 0 => ⟨0, by decide, rfl⟩
  | a + 1 => by
    obtain ⟨z, hz, ez⟩ := mxF_nat m k b a
    obtain ⟨y, hy, ey⟩ := alF_nat m k b a 10
    rw [mxF, ez, ey]
    unfold jmax
    split
    · exact ⟨y, hy, rfl⟩
    · exact ⟨z, hz, rfl⟩
theorem c_mostAlike {m h : Hp} {k b : Nat} (M : MOK m) (hk : k < nWk m) (hb : b < 24) (G : ∀ v, v < 10 → polB m k v = true → ∀ b, b < 24 → h.2 57 (24 * v + b) = mkV (polF m k v) b (iN (inp m))) : Ok (f_X7_mostAlike h (polV m k) (nI b)) (fun x => x = mxF m k b 10) := by
  have hN := nWk_le M
  have mb : ∀ v, v < 10 → polB m k v = true → f_X7_markBehind h (nI v) (nI b) = some (mkV (polF m k v) b (iN (inp m))) := by
    intro v hv q
    unfold f_X7_markBehind
    rw [show nI v * (24 : Int32) + nI b = nI (24 * v + b) by rw [show (24 : Int32) = nI 24 from rfl, pk_mul, nI_add, Nat.mul_comm], nm_eq, if_neg (nI_pos (by omega)), if_neg (nI_ge (by omega) (by decide)), ck_nI (by omega) (by decide), la_nI (by omega), G v hv q b hb]
  unfold f_X7_mostAlike
  refine ok_fx2 (fun f x y => ∃ a, y = nI a ∧ a + f = 10 ∧ x = mxF m k b a) 10 (by decide) ⟨0, rfl, rfl, rfl⟩ ?_
  rintro f self x y ⟨a, rfl, ha, rfl⟩ ih
  by_cases hf : f = 0
  · have e : a = 10 := by omega
    rw [e, if_pos (by decide)]
    exact ok_some rfl
  · have a10 : a < 10 := by omega
    rw [if_neg ((show ∀ v, v < 10 → ¬ (10 : Int32) ≤ nI v by decide +kernel) a a10), lt1_eq]
    refine ok_fx2 (fun g x y => ∃ c, y = nI c ∧ c + g = 10 ∧ x = alF m k b a c) 10 (by decide) ⟨0, rfl, rfl, rfl⟩ ?_
    rintro g self2 x y ⟨c, rfl, hc, rfl⟩ ih2
    by_cases hg : g = 0
    · have e : c = 10 := by omega
      rw [e, if_pos (by decide)]
      dsimp only
      rw [nm_eq, nm_eq, show nI a + (1 : Int32) = nI (a + 1) from nI_1 a]
      exact ih (f - 1) _ _ (by omega) ⟨a + 1, rfl, by omega, rfl⟩
    · have c10 : c < 10 := by omega
      rw [if_neg ((show ∀ v, v < 10 → ¬ (10 : Int32) ≤ nI v by decide +kernel) c c10)]
      have go : ∀ z, z = alF m k b a (c + 1) → Ok (self2 z (nI (c + 1))) (fun x => x = mxF m k b 10) := fun z hz => ih2 (g - 1) _ _ (by omega) ⟨c + 1, rfl, by omega, hz⟩
      simp only [lt1_eq, nm_eq]
      rw [show nI c + (1 : Int32) = nI (c + 1) from nI_1 c]
      have b1 := bitF_get (F := polB m k) (n := 10) (by decide) a10
      have b2 := bitF_get (F := polB m k) (n := 10) (by decide) c10
      refine ok_ite (fun q1 => ?_) (fun q1 => ?_)
      · have p1 := b1.mp q1
        refine ok_ite (fun q2 => ?_) (fun q2 => ?_)
        · have p2 := b2.mp q2
          rw [if_neg one_ne, mb a a10 p1, mb c c10 p2, bdr_some, bdr_some]
          have iff := mk_sm (i := polF m k a) (i' := polF m k c) (ok_wPo (inp_ok M) k a10) (ok_wPo (inp_ok M) k c10) rfl b
          refine ok_ite (fun q3 => ?_) (fun q3 => ?_)
          · have s := iff.mp ((lg_cmp_eq _ _).mp q3)
            exact go _ (by rw [alF, if_pos ⟨p1, p2, s⟩])
          · have s : ¬ smP (polF m k a) (polF m k c) b := fun s => q3 ((lg_cmp_eq _ _).mpr (iff.mpr s))
            exact go _ (by rw [alF, if_neg (fun t => s t.2.2)])
        · have p2 : ¬ polB m k c = true := fun t => q2 (b2.mpr t)
          rw [if_pos trivial]
          exact go _ (by rw [alF, if_neg (fun t => p2 t.2.1)])
      · have p1 : ¬ polB m k a = true := fun t => q1 (b1.mpr t)
        rw [if_pos trivial]
        exact go _ (by rw [alF, if_neg (fun t => p1 t.1)])
theorem jmax_gr (x y : Int32) : (if y ≤ x then x else y) = jmax x y := by
  unfold jmax
  by_cases q : y ≤ x
  · rw [if_pos q, if_neg (Int32.not_lt.mpr q)]
  · rw [if_neg q, if_pos (Int32.not_le.mp q)]
theorem m_alike {m h : Hp} {k b : Nat} (M : MOK m) (hk : k < nWk m) (hb : b < 24) (G : ∀ v, v < 10 → ∀ b, b < 24 → h.2 92 (24 * v + b) = rwV (polF m k v) b (iN (inp m))) : Ok (f_X8_alike h (polV m k) (nI b)) (fun x => x = mxF m k b 10) := by
  have hN := nWk_le M
  unfold f_X8_alike
  refine ok_fx2 (fun f x y => ∃ a, y = nI a ∧ a + f = 10 ∧ x = mxF m k b a) 10 (by decide) ⟨0, rfl, rfl, rfl⟩ ?_
  rintro f self x y ⟨a, rfl, ha, rfl⟩ ih
  by_cases hf : f = 0
  · have e : a = 10 := by omega
    rw [e, if_pos (by decide)]
    exact ok_some rfl
  · have a10 : a < 10 := by omega
    rw [if_neg ((show ∀ v, v < 10 → ¬ (10 : Int32) ≤ nI v by decide +kernel) a a10), lt1_eq]
    refine ok_fx2 (fun g x y => ∃ c, y = nI c ∧ c + g = 10 ∧ x = alF m k b a c) 10 (by decide) ⟨0, rfl, rfl, rfl⟩ ?_
    rintro g self2 x y ⟨c, rfl, hc, rfl⟩ ih2
    by_cases hg : g = 0
    · have e : c = 10 := by omega
      rw [e, if_pos (by decide)]
      dsimp only
      rw [gr_eq, bdr_some, jmax_gr, nm_eq, show nI a + (1 : Int32) = nI (a + 1) from nI_1 a]
      exact ih (f - 1) _ _ (by omega) ⟨a + 1, rfl, by omega, rfl⟩
    · have c10 : c < 10 := by omega
      rw [if_neg ((show ∀ v, v < 10 → ¬ (10 : Int32) ≤ nI v by decide +kernel) c c10)]
      have e1 : (24 : Int32) * nI a + nI b = nI (24 * a + b) := by rw [show (24 : Int32) = nI 24 from rfl, pk_mul, nI_add]
      have e2 : (24 : Int32) * nI c + nI b = nI (24 * c + b) := by rw [show (24 : Int32) = nI 24 from rfl, pk_mul, nI_add]
      have go : ∀ z, z = alF m k b a (c + 1) → Ok (self2 z (nI (c + 1))) (fun x => x = mxF m k b 10) := fun z hz => ih2 (g - 1) _ _ (by omega) ⟨c + 1, rfl, by omega, hz⟩
      simp only [lt1_eq, nm_eq, isIn_eq, bdr_some, e1, e2, ck_nI (show 24 * a + b < 240 by omega) (show 240 < 2 ^ 31 by decide), ck_nI (show 24 * c + b < 240 by omega) (show 240 < 2 ^ 31 by decide), la_nI (show 24 * a + b < 2 ^ 31 by omega), la_nI (show 24 * c + b < 2 ^ 31 by omega), G a a10 b hb, G c c10 b hb]
      rw [show nI c + (1 : Int32) = nI (c + 1) from nI_1 c, show alF m k b a c + (0 : Int32) = alF m k b a c from Int32.add_zero _]
      have b1 := bitF_get (F := polB m k) (n := 10) (by decide) a10
      have b2 := bitF_get (F := polB m k) (n := 10) (by decide) c10
      refine ok_w (fun q1 => ?_) (fun q1 => ?_)
      · have p1 := b1.mp q1
        refine ok_w (fun q2 => ?_) (fun q2 => ?_)
        · have p2 := b2.mp q2
          have iff := rw_sm (i := polF m k a) (i' := polF m k c) (ok_wPo (inp_ok M) k a10) (ok_wPo (inp_ok M) k c10) rfl b
          refine ok_ite (fun q3 => ?_) (fun q3 => ?_)
          · have s := iff.mp ((lg_cmp_eq _ _).mp q3)
            exact go _ (by rw [alF, if_pos ⟨p1, p2, s⟩])
          · have s : ¬ smP (polF m k a) (polF m k c) b := fun s => q3 ((lg_cmp_eq _ _).mpr (iff.mpr s))
            exact go _ (by rw [alF, if_neg (fun t => s t.2.2)])
        · have p2 : ¬ polB m k c = true := fun t => q2 (b2.mpr t)
          exact go _ (by rw [alF, if_neg (fun t => p2 t.2.1)])
      · have p1 : ¬ polB m k a = true := fun t => q1 (b1.mpr t)
        exact go _ (by rw [alF, if_neg (fun t => p1 t.1)])
def akF (m : Hp) (k : Nat) : Nat → Nat
  | 0 => 0
  | b + 1 => if mxF m k (akF m k b) 10 ≤ mxF m k (b + 1) 10 then akF m k b else b + 1
theorem akF_le (m : Hp) (k : Nat) : ∀ b, akF m k b ≤ b
  | 0 => Nat.le_refl _
  | b + 1 => by
    have := akF_le m k b
    rw [akF]
    split <;> omega
def askV (m : Hp) (a : Int32) : Int32 := if isW (nWk m) a then nI (akF m a.toNatClampNeg 23) else -2
theorem c_ask {m h : Hp} (M : MOK m) (C : CR m h) (a : Int32) : Ok (f_X7_ask h a) (fun u => u.2 = askV m a ∧ CR m u.1) := by
  have hN := nWk_le M
  unfold f_X7_ask askV
  rw [cw_eq (nWk_le M) C.2.1.1, bdr_some]
  refine ok_w (fun r2 => ?_) (fun r2 => by rw [if_neg r2]; exact ok_some ⟨rfl, C⟩)
  rw [if_pos r2]
  obtain ⟨k, hk, rfl⟩ := isW_ex (nWk_le M) r2
  rw [nI_clamp (by omega)]
  refine ok_bnd (c_poles M C hk) (fun h2 x3 H => ?_)
  obtain ⟨rfl, C2, G⟩ : x3 = polV m k ∧ CR m h2 ∧ ∀ v, v < 10 → polB m k v = true → ∀ b, b < 24 → h2.2 57 (24 * v + b) = mkV (polF m k v) b (iN (inp m)) := H
  refine ok_fx3 (fun f x y z => ∃ b, z = nI b ∧ b + f = 24 ∧ ((b = 0 ∧ x = 0 ∧ y = 11) ∨ (0 < b ∧ x = nI (akF m k (b - 1)) ∧ y = mxF m k (akF m k (b - 1)) 10))) 24 (by decide) ⟨0, rfl, rfl, Or.inl ⟨rfl, rfl, rfl⟩⟩ ?_
  rintro f self x y z ⟨b, rfl, hb, hx⟩ ih
  by_cases hf : f = 0
  · have e : b = 24 := by omega
    rw [e, if_pos (by decide)]
    rcases hx with ⟨q, -⟩ | ⟨-, q, -⟩
    · omega
    · rw [q, e]; exact ok_some ⟨rfl, C2⟩
  · have b24 : b < 24 := by omega
    rw [if_neg ((show ∀ b, b < 24 → ¬ (24 : Int32) ≤ nI b by decide +kernel) b b24)]
    refine ok_bdr (c_mostAlike M hk b24 G) (fun x7 hx7 => ?_)
    subst hx7
    simp only [lt2_eq, nm_eq]
    rw [show nI b + (1 : Int32) = nI (b + 1) from nI_1 b]
    rcases hx with ⟨rfl, rfl, rfl⟩ | ⟨b0, rfl, rfl⟩
    · obtain ⟨z, hz, ez⟩ := mxF_nat m k 0 10
      rw [ez, if_neg ((show ∀ z, z ≤ 10 → ¬ (11 : Int32) ≤ nI z by decide +kernel) z hz)]
      exact ih (f - 1) _ _ _ (by omega) ⟨1, rfl, by omega, Or.inr ⟨by decide, rfl, ez.symm⟩⟩
    · obtain ⟨b', rfl⟩ : ∃ b', b = b' + 1 := ⟨b - 1, by omega⟩
      rw [show b' + 1 - 1 = b' by omega]
      refine ok_ite (fun q => ?_) (fun q => ?_)
      · exact ih (f - 1) _ _ _ (by omega) ⟨b' + 1 + 1, rfl, by omega, Or.inr ⟨by omega, by rw [show b' + 1 + 1 - 1 = b' + 1 by omega, akF, if_pos q], by rw [show b' + 1 + 1 - 1 = b' + 1 by omega, akF, if_pos q]⟩⟩
      · exact ih (f - 1) _ _ _ (by omega) ⟨b' + 1 + 1, rfl, by omega, Or.inr ⟨by omega, by rw [show b' + 1 + 1 - 1 = b' + 1 by omega, akF, if_neg q], by rw [show b' + 1 + 1 - 1 = b' + 1 by omega, akF, if_neg q]⟩⟩
theorem m_askOf {m h : Hp} {k : Nat} (M : MOK m) (T : MT m h) (hk : k < nWk m) : Ok (f_X8_askOf h (nI k)) (fun u => u.2 = nI (akF m k 23) ∧ MT m u.1) := by
  unfold f_X8_askOf
  refine ok_bnd (m_poles M T hk) (fun h2 x3 H => ?_)
  obtain ⟨rfl, T2, G⟩ : x3 = polV m k ∧ MT m h2 ∧ ∀ v, v < 10 → ∀ b, b < 24 → h2.2 92 (24 * v + b) = rwV (polF m k v) b (iN (inp m)) := H
  refine ok_fx2 (fun f x z => ∃ b, z = nI (b + 1) ∧ b + f = 23 ∧ x = nI (akF m k b)) 23 (by decide) ⟨0, rfl, rfl, rfl⟩ ?_
  rintro f self x z ⟨b, rfl, hb, rfl⟩ ih
  by_cases hf : f = 0
  · have e : b = 23 := by omega
    rw [e, if_pos (by decide)]
    exact ok_some ⟨rfl, T2⟩
  · have b24 : b + 1 < 24 := by omega
    have := akF_le m k b
    rw [if_neg ((show ∀ b, b < 24 → ¬ (24 : Int32) ≤ nI b by decide +kernel) (b + 1) b24)]
    refine ok_bdr (m_alike M hk b24 G) (fun x5 hx5 => ?_)
    subst hx5
    refine ok_bdr (m_alike M hk (show akF m k b < 24 by omega) G) (fun x6 hx6 => ?_)
    subst hx6
    simp only [lt1_eq, nm_eq]
    rw [show nI (b + 1) + (1 : Int32) = nI (b + 1 + 1) from nI_1 (b + 1)]
    refine ok_ite (fun q => ?_) (fun q => ?_)
    · exact ih (f - 1) _ _ (by omega) ⟨b + 1, rfl, by omega, by rw [akF, if_pos q]⟩
    · exact ih (f - 1) _ _ (by omega) ⟨b + 1, rfl, by omega, by rw [akF, if_neg q]⟩
theorem op_ask {h : Hp} (I : Inv h) (a : Int32) : Step (f_X7_ask h a) (fun h1 => f_X8_ask h1 a) := by
  obtain ⟨m, M, C, P⟩ := I
  have hN := nWk_le M
  refine comb P M (c_ask M C a) (r_X7_ask h _) (fun h1 P1 => ?_) (fun h1 => r_X8_ask h1 _)
  unfold f_X8_ask askV
  refine ok_bdv (m_find M P1) (fun h2 H2 => ?_)
  obtain ⟨T2, L2⟩ := H2
  rw [mw_eq T2.2.1.1, bdr_some]
  refine ok_w (fun r2 => ?_) (fun r2 => by rw [if_neg (show ¬ isW (nWk m) a from r2)]; exact ok_some ⟨rfl, T2.1⟩)
  rw [if_pos (show isW (nWk m) a from r2)]
  obtain ⟨k, hk, rfl⟩ := isW_ex (nWk_le M) r2
  have hk' : k < nWk m := hk
  rw [nI_clamp (by omega)]
  exact ok_bnd (m_askOf M T2 hk) (fun h1 x H => ok_some ⟨H.1, H.2.1⟩)
