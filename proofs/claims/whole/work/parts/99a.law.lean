/-! the law holds -/
theorem hp0_n0 : nWk hp0 = 0 := rfl
theorem inv_hp0 : Inv hp0 := by
  have s4 : ∀ s, s < 4 → hp0.1 69 s = -1 ∧ hp0.1 70 s = 0 ∧ hp0.1 (60 + 2 * s) 1 = 1 := fun s hs => by
    rcases (show s = 0 ∨ s = 1 ∨ s = 2 ∨ s = 3 by omega) with rfl | rfl | rfl | rfl
    · exact ⟨rfl, rfl, rfl⟩
    · exact ⟨rfl, rfl, rfl⟩
    · exact ⟨rfl, rfl, rfl⟩
    · exact ⟨rfl, rfl, rfl⟩
  refine ⟨hp0, ⟨⟨by decide, rfl⟩, ⟨by decide, rfl⟩, ⟨by decide, rfl, fun e he => absurd he (Nat.not_lt_zero e)⟩, ⟨⟨20, by decide, by decide, rfl⟩, ⟨2, by decide, rfl⟩, ⟨8, by decide, by decide, rfl⟩⟩, rfl, ⟨by decide, rfl, fun j hj => absurd hj (Nat.not_lt_zero j)⟩, fun s hs => ?_⟩, ⟨⟨rfl, rfl, fun j hj => absurd hj (Nat.not_lt_zero j), fun j hj => absurd hj (Nat.not_lt_zero j)⟩, ⟨rfl, rfl, rfl, rfl, rfl, fun k hk => absurd hk (Nat.not_lt_zero k), fun j hj => ?_, fun e he => absurd he (Nat.not_lt_zero e)⟩, ⟨rfl, fun j hj => absurd hj (Nat.not_lt_zero j)⟩, fun s hs => ?_, rfl, Or.inl rfl, Or.inl rfl⟩, ⟨rfl, rfl, rfl, rfl, rfl, rfl, rfl, rfl, rfl, rfl, rfl, rfl⟩⟩
  · obtain ⟨a, b, c⟩ := s4 s hs
    have z : sSz hp0 s = 0 := by unfold sSz; rw [b]; rfl
    rw [a, b, z]
    exact ⟨Or.inl rfl, by decide, rfl⟩
  · show (0 : Int32) = rtV 0 (rT hp0) j
    unfold rtV rtF
    simp
  · obtain ⟨a, b, c⟩ := s4 s hs
    rw [a, c]
    exact ⟨fun _ => one_ne, fun q => absurd (show (-1 : Int32) < 0 by decide) q⟩
theorem law_w {oc : Option (Hp × Int32)} {om : Hp → Option (Hp × Int32)} {k : Hp → Option Unit} {P : Unit → Prop} (S : Step oc om) (hk : ∀ h, Inv h → Ok (k h) P) : Ok (bnd oc fun h5 x6 => bnd (om h5) fun h7 x8 => if x6 = x8 then k h7 else none) P := by
  obtain ⟨h1, x, h2, e1, e2, I⟩ := S
  rw [e1, bnd_some, e2, bnd_some, if_pos rfl]
  exact hk h2 I
theorem law_l {oc : Option (Hp × Int64)} {om : Hp → Option (Hp × Int64)} {k : Hp → Option Unit} {P : Unit → Prop} (S : Step oc om) (hk : ∀ h, Inv h → Ok (k h) P) : Ok (bnd oc fun h5 x6 => bnd (om h5) fun h7 x8 => if lg_cmp x6 x8 = 0 then k h7 else none) P := by
  obtain ⟨h1, x, h2, e1, e2, I⟩ := S
  rw [e1, bnd_some, e2, bnd_some, if_pos ((lg_cmp_eq x x).mpr rfl)]
  exact hk h2 I
theorem law_r {h : Hp} {oc : Option Int32} {om : Option (Hp × Int32)} {k : Hp → Option Unit} {P : Unit → Prop} (S : StepR h oc om) (hk : ∀ h, Inv h → Ok (k h) P) : Ok (bdr oc fun x6 => bnd om fun h7 x8 => if x6 = x8 then k h7 else none) P := by
  obtain ⟨x, h2, e1, e2, I⟩ := S
  rw [e1, bdr_some, e2, bnd_some, if_pos rfl]
  exact hk h2 I
theorem law_end {L i : Nat} (hL : L ≤ 3072) (hi : i ≤ 512) : (nI L - (6 : Int32) < nI (6 * i)) ↔ L < 6 * i + 6 := by
  rw [show (6 : Int32) = nI 6 from rfl, Int32.lt_iff_toInt_lt, pk_sub_toInt (by omega) (by decide), nI_toInt (by omega)]
  omega
set_option maxRecDepth 100000 in
set_option maxHeartbeats 4000000 in
theorem law_ok (L : Nat) (xs : Nat → Int32) (hL : L ≤ 3072) : f_law L xs hp0 = some () := by
  have key : Ok (f_law L xs hp0) (fun _ => True) := by
    unfold f_law
    refine ok_fx2 (fun f h x => ∃ i, x = nI (6 * i) ∧ i + f = 512 ∧ Inv h) 512 (by decide) ⟨0, rfl, rfl, inv_hp0⟩ ?_
    rintro f self h1 x ⟨i, rfl, hf, I⟩ ih
    refine ok_ite (fun _ => ok_some trivial) (fun q => ?_)
    have q6 : 6 * i + 6 ≤ L := Nat.le_of_not_lt (fun t => q ((law_end hL (by omega)).mpr t))
    have l31 : L < 2 ^ 31 := by omega
    rw [ck_nI (by omega) l31, nI_clamp (by omega)]
    refine ok_lt1 (fun h => Inv h) (fun h3 I3 => ?_) (fun k hk => ?_)
    · rw [nm_eq, show nI (6 * i) + (6 : Int32) = nI (6 * (i + 1)) from nI_add _ 6]
      exact ih (f - 1) _ _ (by omega) ⟨i + 1, rfl, by omega, I3⟩
    have e1 : nI (6 * i) + (1 : Int32) = nI (6 * i + 1) := nI_1 _
    have e2 : nI (6 * i) + (2 : Int32) = nI (6 * i + 2) := nI_add _ 2
    have e3 : nI (6 * i) + (3 : Int32) = nI (6 * i + 3) := nI_add _ 3
    have e4 : nI (6 * i) + (4 : Int32) = nI (6 * i + 4) := nI_add _ 4
    have e5 : nI (6 * i) + (5 : Int32) = nI (6 * i + 5) := nI_add _ 5
    have b1 : 6 * i + 1 < L := by omega
    have b2 : 6 * i + 2 < L := by omega
    have b3 : 6 * i + 3 < L := by omega
    have b4 : 6 * i + 4 < L := by omega
    have b5 : 6 * i + 5 < L := by omega
    have c1 : (nI (6 * i + 1)).toNatClampNeg = 6 * i + 1 := nI_clamp (by omega)
    have c2 : (nI (6 * i + 2)).toNatClampNeg = 6 * i + 2 := nI_clamp (by omega)
    have c3 : (nI (6 * i + 3)).toNatClampNeg = 6 * i + 3 := nI_clamp (by omega)
    have c4 : (nI (6 * i + 4)).toNatClampNeg = 6 * i + 4 := nI_clamp (by omega)
    have c5 : (nI (6 * i + 5)).toNatClampNeg = 6 * i + 5 := nI_clamp (by omega)
    refine ok_ite (fun _ => ?_) (fun _ => ?_)
    · simp only [e1, c1, ck_nI b1 l31, e2, c2, ck_nI b2 l31]
      exact law_w (op_type I (xs (6 * i + 1)) (xs (6 * i + 2))) hk
    refine ok_ite (fun _ => ?_) (fun _ => ?_)
    · simp only [e1, c1, ck_nI b1 l31]
      exact law_w (op_wipe I (xs (6 * i + 1))) hk
    refine ok_ite (fun _ => ?_) (fun _ => ?_)
    · simp only [e1, c1, ck_nI b1 l31]
      exact law_w (op_undo I (xs (6 * i + 1))) hk
    refine ok_ite (fun _ => ?_) (fun _ => ?_)
    · simp only [e1, c1, ck_nI b1 l31]
      exact law_r (op_fault I (xs (6 * i + 1))) hk
    refine ok_ite (fun _ => ?_) (fun _ => ?_)
    · simp only [e1, c1, ck_nI b1 l31, e2, c2, ck_nI b2 l31]
      exact law_r (op_walker I (xs (6 * i + 1)) (xs (6 * i + 2))) hk
    refine ok_ite (fun _ => ?_) (fun _ => ?_)
    · simp only [e1, c1, ck_nI b1 l31]
      exact law_r (op_routine I (xs (6 * i + 1))) hk
    refine ok_ite (fun _ => ?_) (fun _ => ?_)
    · simp only [e1, c1, ck_nI b1 l31, e2, c2, ck_nI b2 l31]
      exact law_w (op_wire I (xs (6 * i + 1)) (xs (6 * i + 2))) hk
    refine ok_ite (fun _ => ?_) (fun _ => ?_)
    · simp only [e1, c1, ck_nI b1 l31, e2, c2, ck_nI b2 l31, e3, c3, ck_nI b3 l31]
      exact law_w (op_event I (xs (6 * i + 1)) (xs (6 * i + 2)) (xs (6 * i + 3))) hk
    refine ok_ite (fun _ => ?_) (fun _ => ?_)
    · exact law_w (op_back I) hk
    refine ok_ite (fun _ => ?_) (fun _ => ?_)
    · simp only [e1, c1, ck_nI b1 l31]
      exact law_w (op_read I (xs (6 * i + 1))) hk
    refine ok_ite (fun _ => ?_) (fun _ => ?_)
    · simp only [e1, c1, ck_nI b1 l31, e2, c2, ck_nI b2 l31, e3, c3, ck_nI b3 l31]
      exact law_w (op_at I (xs (6 * i + 1)) (xs (6 * i + 2)) (xs (6 * i + 3))) hk
    refine ok_ite (fun _ => ?_) (fun _ => ?_)
    · simp only [e1, c1, ck_nI b1 l31, e2, c2, ck_nI b2 l31]
      exact law_w (op_lean I (xs (6 * i + 1)) (xs (6 * i + 2))) hk
    refine ok_ite (fun _ => ?_) (fun _ => ?_)
    · simp only [e1, c1, ck_nI b1 l31, e2, c2, ck_nI b2 l31]
      exact law_w (op_sees I (xs (6 * i + 1)) (xs (6 * i + 2))) hk
    refine ok_ite (fun _ => ?_) (fun _ => ?_)
    · simp only [e1, c1, ck_nI b1 l31]
      exact law_w (op_sway I (xs (6 * i + 1))) hk
    refine ok_ite (fun _ => ?_) (fun _ => ?_)
    · simp only [e1, c1, ck_nI b1 l31, e2, c2, ck_nI b2 l31]
      exact law_w (op_ends I (xs (6 * i + 1)) (xs (6 * i + 2))) hk
    refine ok_ite (fun _ => ?_) (fun _ => ?_)
    · simp only [e1, c1, ck_nI b1 l31]
      exact law_w (op_sum I (xs (6 * i + 1))) hk
    refine ok_ite (fun _ => ?_) (fun _ => ?_)
    · simp only [e1, c1, ck_nI b1 l31]
      exact law_w (op_who I (xs (6 * i + 1))) hk
    refine ok_ite (fun _ => ?_) (fun _ => ?_)
    · exact law_w (op_bare I) hk
    refine ok_ite (fun _ => ?_) (fun _ => ?_)
    · simp only [e1, c1, ck_nI b1 l31, e2, c2, ck_nI b2 l31]
      exact law_w (op_start I (xs (6 * i + 1)) (xs (6 * i + 2))) hk
    refine ok_ite (fun _ => ?_) (fun _ => ?_)
    · simp only [e1, c1, ck_nI b1 l31, e2, c2, ck_nI b2 l31]
      exact law_w (op_hold I (xs (6 * i + 1)) (xs (6 * i + 2))) hk
    refine ok_ite (fun _ => ?_) (fun _ => ?_)
    · simp only [e1, c1, ck_nI b1 l31, e2, c2, ck_nI b2 l31]
      exact law_w (op_act I (xs (6 * i + 1)) (xs (6 * i + 2))) hk
    refine ok_ite (fun _ => ?_) (fun _ => ?_)
    · simp only [e1, c1, ck_nI b1 l31]
      exact law_w (op_spare I (xs (6 * i + 1))) hk
    refine ok_ite (fun _ => ?_) (fun _ => ?_)
    · simp only [e1, c1, ck_nI b1 l31, e2, c2, ck_nI b2 l31, e3, c3, ck_nI b3 l31]
      exact law_w (op_seen I (xs (6 * i + 1)) (xs (6 * i + 2)) (xs (6 * i + 3))) hk
    refine ok_ite (fun _ => ?_) (fun _ => ?_)
    · exact law_w (op_forget I) hk
    refine ok_ite (fun _ => ?_) (fun _ => ?_)
    · exact law_w (op_never I) hk
    refine ok_ite (fun _ => ?_) (fun _ => ?_)
    · simp only [e1, c1, ck_nI b1 l31, e2, c2, ck_nI b2 l31]
      exact law_w (op_was I (xs (6 * i + 1)) (xs (6 * i + 2))) hk
    refine ok_ite (fun _ => ?_) (fun _ => ?_)
    · simp only [e1, c1, ck_nI b1 l31]
      exact law_w (op_ask I (xs (6 * i + 1))) hk
    refine ok_ite (fun _ => ?_) (fun _ => ?_)
    · simp only [e1, c1, ck_nI b1 l31, e2, c2, ck_nI b2 l31, e3, c3, ck_nI b3 l31]
      exact law_l (op_chance I (xs (6 * i + 1)) (xs (6 * i + 2)) (xs (6 * i + 3))) hk
    refine ok_ite (fun _ => ?_) (fun _ => ?_)
    · simp only [e1, c1, ck_nI b1 l31, e2, c2, ck_nI b2 l31, e3, c3, ck_nI b3 l31]
      exact law_w (op_shows I (xs (6 * i + 1)) (xs (6 * i + 2)) (xs (6 * i + 3))) hk
    refine ok_ite (fun _ => ?_) (fun _ => ?_)
    · simp only [e1, c1, ck_nI b1 l31, e2, c2, ck_nI b2 l31, e3, c3, ck_nI b3 l31]
      exact law_w (op_sheet I (xs (6 * i + 1)) (xs (6 * i + 2)) (xs (6 * i + 3))) hk
    refine ok_ite (fun _ => ?_) (fun _ => ?_)
    · simp only [e1, c1, ck_nI b1 l31]
      exact law_w (op_lose I (xs (6 * i + 1))) hk
    refine ok_ite (fun _ => ?_) (fun _ => ?_)
    · simp only [e1, c1, ck_nI b1 l31, e2, c2, ck_nI b2 l31, e3, c3, ck_nI b3 l31, e4, c4, ck_nI b4 l31]
      exact law_w (op_lay I (xs (6 * i + 1)) (xs (6 * i + 2)) (xs (6 * i + 3)) (xs (6 * i + 4))) hk
    refine ok_ite (fun _ => ?_) (fun _ => ?_)
    · simp only [e1, c1, ck_nI b1 l31, e2, c2, ck_nI b2 l31, e3, c3, ck_nI b3 l31]
      exact law_w (op_get I (xs (6 * i + 1)) (xs (6 * i + 2)) (xs (6 * i + 3))) hk
    refine ok_ite (fun _ => ?_) (fun _ => ?_)
    · simp only [e1, c1, ck_nI b1 l31, e2, c2, ck_nI b2 l31, e3, c3, ck_nI b3 l31, e4, c4, ck_nI b4 l31, e5, c5, ck_nI b5 l31]
      exact law_w (op_copy I (xs (6 * i + 1)) (xs (6 * i + 2)) (xs (6 * i + 3)) (xs (6 * i + 4)) (xs (6 * i + 5))) hk
    refine ok_ite (fun _ => ?_) (fun _ => ?_)
    · simp only [e1, c1, ck_nI b1 l31, e2, c2, ck_nI b2 l31]
      exact law_w (op_write I (xs (6 * i + 1)) (xs (6 * i + 2))) hk
    refine ok_ite (fun _ => ?_) (fun _ => ?_)
    · simp only [e1, c1, ck_nI b1 l31]
      exact law_r (op_count I (xs (6 * i + 1))) hk
    refine ok_ite (fun _ => ?_) (fun _ => ?_)
    · exact law_l (op_digest I) hk
    exact hk h1 I
  obtain ⟨u, e, -⟩ := key
  exact e
