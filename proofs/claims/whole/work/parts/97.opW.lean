/-! digest -/
def itF (G : Nat → Int64 → Int64) (l : Int64) : Nat → Int64
  | 0 => l
  | n + 1 => G n (itF G l n)
def mx (l v : Int64) : Int64 := (31 : Int64) * l + v
theorem mxd (a b : Int64) : f_X7_mixed a b = some (mx a b) := rfl
def wkJ (i : Inp) (k j : Nat) : Int32 := if j = 0 then iSt i k else if j = 1 then iSo i k else iPo i k
def tbF (i : Inp) (k b : Nat) (l : Int64) : Int64 := mx (mx (mx l (stV i b k).toInt64) (plV i b k).toInt64) (leV i b k).toInt64
def W1 (i : Inp) (k : Nat) (l : Int64) : Int64 := itF (fun j l => mx l (wkJ i k j).toInt64) l 3
def W2 (i : Inp) (k : Nat) (l : Int64) : Int64 := itF (fun j l => mx l (edV i k (nI j)).toInt64) (tbF i k 23 (tbF i k 13 (tbF i k 6 (tbF i k 0 (W1 i k l))))) 3
def W3 (m : Hp) (k : Nat) (l : Int64) : Int64 := mx (mx (mx (mx (mx (mx (mx (mx (mx l (bst (startW m k) 24).1.toInt64) (bst (startW m k) 24).2.toInt64) (bst (holdW m k) 10).1.toInt64) (bst (holdW m k) 10).2.toInt64) (polV m k).toInt64) (srtV m k).toInt64) (nI (akF m k 23)).toInt64) (chV (inp m) 5 k 0)) (chV (inp m) 5 k 1)
def D1 (m : Hp) : Int64 := itF (fun j l => mx l (cntV m (nI j)).toInt64) 17 8
def D2 (m : Hp) : Int64 := mx (mx (D1 m) (fltV m 0).toInt64) (fltV m 1).toInt64
def D3 (m : Hp) : Int64 := itF (fun b l => mx (mx l (iMv (inp m) b).toInt64) (swV (inp m) b).toInt64) (D2 m) 24
def D4 (m : Hp) : Int64 := itF (fun p l => mx l (seV (inp m) 9 (nI p)).toInt64) (D3 m) 41
def D5 (m : Hp) : Int64 := itF (fun k l => W3 m k (W2 (inp m) k l)) (D4 m) (nWk m)
def R1 (i : Inp) (l : Int64) : Int64 := itF (fun j l => mx l (smV i (nI j)).toInt64) l 3
def R2 (m : Hp) (l : Int64) : Int64 := mx (mx (mx l (fiF (inp m) (iN (inp m))).1.toInt64) (faF (inp m) (iN (inp m))).1.toInt64) (baF (inp m) 24).toInt64
def R3 (m : Hp) (l : Int64) : Int64 := mx (mx (mx (mx l (bst (actW m 2) 4).1.toInt64) (bst (actW m 2) 4).2.toInt64) (bst (actW m 6) 4).1.toInt64) (bst (actW m 6) 4).2.toInt64
def R4 (m : Hp) (l : Int64) : Int64 := mx (mx (mx (mx (mx l (spA (spR m) (-1)).toInt64) (spA (spR m) 0).toInt64) (nvV m).toInt64) (shV (inp m) 7 18 0).toInt64) (shV (inp m) 7 18 1).toInt64
def DG (m : Hp) : Int64 := R4 m (R3 m (R2 m (R1 (inp m) (D5 m))))
theorem at_0 {m : Hp} {b k : Nat} {a : Int32} (M : MOK m) (ha : a = nI b) (hb : b < 24) (hk : k < nWk m) : atV m a (nI k) 0 = stV (inp m) b k := by
  have := nWk_le M
  subst ha
  unfold atV
  rw [if_pos (inR_nI (by omega) (by omega) (by decide)), if_pos (isW_nI this hk), if_pos (show inR 0 0 1 by decide), if_pos rfl, nI_clamp (by omega), nI_clamp (by omega)]
theorem at_1 {m : Hp} {b k : Nat} {a : Int32} (M : MOK m) (ha : a = nI b) (hb : b < 24) (hk : k < nWk m) : atV m a (nI k) 1 = plV (inp m) b k := by
  have := nWk_le M
  subst ha
  unfold atV
  rw [if_pos (inR_nI (by omega) (by omega) (by decide)), if_pos (isW_nI this hk), if_pos (show inR 1 0 1 by decide), if_neg one_ne, nI_clamp (by omega), nI_clamp (by omega)]
theorem ln_v {m : Hp} {b k : Nat} {a : Int32} (M : MOK m) (ha : a = nI b) (hb : b < 24) (hk : k < nWk m) : lnV m a (nI k) = leV (inp m) b k := by
  have := nWk_le M
  subst ha
  unfold lnV
  rw [if_pos (inR_nI (by omega) (by omega) (by decide)), if_pos (isW_nI this hk), nI_clamp (by omega), nI_clamp (by omega)]
def dbN (j : Nat) : Nat := ([0, 6, 13, 23] : List Nat).getD j 0
theorem db_v {j : Nat} (hj : j < 4) : dbF j = nI (dbN j) ∧ dbN j < 24 := (show ∀ j, j < 4 → dbF j = nI (dbN j) ∧ dbN j < 24 by decide +kernel) j hj
theorem wl_v {m : Hp} {k j : Nat} (M : MOK m) (hk : k < nWk m) (hj : j < 3) : wlkV m (nI k) (nI j) = wkJ (inp m) k j := by
  have := nWk_le M
  unfold wlkV wkJ
  rw [if_pos (isW_nI this hk), if_pos (inR_nI (by omega) (by omega) (by decide)), nI_clamp (by omega)]
  rcases (show j = 0 ∨ j = 1 ∨ j = 2 by omega) with rfl | rfl | rfl
  · rfl
  · rfl
  · rfl
theorem en_v {m : Hp} {k j : Nat} (M : MOK m) (hk : k < nWk m) (hj : j < 3) : endV m (nI k) (nI j) = edV (inp m) k (nI j) := by
  have := nWk_le M
  unfold endV
  rw [if_pos (isW_nI this hk), if_pos (inR_nI (by omega) (by omega) (by decide)), nI_clamp (by omega)]
theorem lt2n {j : Nat} (hj : j < 3) : ¬ (2 : Int32) < nI j := (show ∀ j, j < 3 → ¬ (2 : Int32) < nI j by decide +kernel) j hj
theorem c_walkD {m h : Hp} {k : Nat} (M : MOK m) (C : CR m h) (hk : k < nWk m) (l : Int64) : Ok (f_X7_mixedWalk h l (nI k)) (fun u => u.2 = W2 (inp m) k l ∧ CR m u.1) := by
  unfold f_X7_mixedWalk
  refine ok_lt1 (fun l' => l' = W1 (inp m) k l) ?_ ?_
  · rintro l1 rfl
    rw [nm_eq]
    refine ok_lt2 (fun h' l' => CR m h' ∧ l' = tbF (inp m) k 23 (tbF (inp m) k 13 (tbF (inp m) k 6 (tbF (inp m) k 0 (W1 (inp m) k l))))) ?_ ?_
    · rintro h5 l5 ⟨C5, rfl⟩
      unfold W2
      generalize tbF (inp m) k 23 (tbF (inp m) k 13 (tbF (inp m) k 6 (tbF (inp m) k 0 (W1 (inp m) k l)))) = L
      refine ok_fx3 (fun f h1 l1 y => ∃ j, y = nI j ∧ j + f = 3 ∧ l1 = itF (fun j l => mx l (edV (inp m) k (nI j)).toInt64) L j ∧ CR m h1) 3 (by decide) ⟨0, rfl, rfl, rfl, C5⟩ ?_
      rintro f self h1 l1 y ⟨j, rfl, hj, rfl, C1⟩ ih
      by_cases hf : f = 0
      · have e : j = 3 := by omega
        rw [e, if_pos (by decide)]
        exact ok_some ⟨rfl, C1⟩
      · have j3 : j < 3 := by omega
        rw [if_neg (lt2n j3)]
        refine ok_bnd (c_ends M C1 (nI k) (nI j)) (fun h6 x6 H => ?_)
        obtain ⟨rfl, C6⟩ : x6 = _ ∧ CR m h6 := H
        rw [en_v M hk j3, mxd, bdr_some, nm_eq, show nI j + (1 : Int32) = nI (j + 1) from nI_1 j]
        exact ih (f - 1) _ _ _ (by omega) ⟨j + 1, rfl, by omega, rfl, C6⟩
    · intro kk hkk
      generalize W1 (inp m) k l = L at hkk ⊢
      refine ok_fx3 (fun f h1 l1 y => ∃ j, y = nI j ∧ j + f = 4 ∧ l1 = itF (fun j l => tbF (inp m) k (dbN j) l) L j ∧ CR m h1) 4 (by decide) ⟨0, rfl, rfl, rfl, C⟩ ?_
      rintro f self h1 l1 y ⟨j, rfl, hj, rfl, C1⟩ ih
      by_cases hf : f = 0
      · have e : j = 4 := by omega
        rw [e, if_pos (by decide)]
        exact hkk _ _ ⟨C1, rfl⟩
      · have j4 : j < 4 := by omega
        obtain ⟨ha, hb⟩ := db_v j4
        rw [if_neg (nI_ge j4 (by decide)), ck_nI j4 (by decide), nI_clamp (show j < 2 ^ 31 by omega), nm_eq]
        refine ok_bnd (c_at M C1 (dbF j) (nI k) 0) (fun h2 x2 H => ?_)
        obtain ⟨rfl, C2⟩ : x2 = _ ∧ CR m h2 := H
        rw [at_0 M ha hb hk, mxd, bdr_some]
        refine ok_bnd (c_at M C2 (dbF j) (nI k) 1) (fun h3 x3 H => ?_)
        obtain ⟨rfl, C3⟩ : x3 = _ ∧ CR m h3 := H
        rw [at_1 M ha hb hk, mxd, bdr_some]
        refine ok_bnd (c_lean M C3 (dbF j) (nI k)) (fun h4 x4 H => ?_)
        obtain ⟨rfl, C4⟩ : x4 = _ ∧ CR m h4 := H
        rw [ln_v M ha hb hk, mxd, bdr_some, nm_eq, show nI j + (1 : Int32) = nI (j + 1) from nI_1 j]
        exact ih (f - 1) _ _ _ (by omega) ⟨j + 1, rfl, by omega, rfl, C4⟩
  · intro kk hkk
    refine ok_fx2 (fun f l1 y => ∃ j, y = nI j ∧ j + f = 3 ∧ l1 = itF (fun j l => mx l (wkJ (inp m) k j).toInt64) l j) 3 (by decide) ⟨0, rfl, rfl, rfl⟩ ?_
    rintro f self l1 y ⟨j, rfl, hj, rfl⟩ ih
    by_cases hf : f = 0
    · have e : j = 3 := by omega
      rw [e, if_pos (by decide)]
      exact hkk _ rfl
    · have j3 : j < 3 := by omega
      rw [if_neg (lt2n j3)]
      refine ok_bdr (c_walker M C (nI k) (nI j)) (fun x6 H => ?_)
      subst H
      rw [wl_v M hk j3, mxd, bdr_some, nm_eq, show nI j + (1 : Int32) = nI (j + 1) from nI_1 j]
      exact ih (f - 1) _ _ (by omega) ⟨j + 1, rfl, by omega, rfl⟩
theorem mbest (h : Hp) (l : Int64) (x : Int32) : f_X7_mixedBest h l x = some (mx (mx l x.toInt64) (h.1 0 14).toInt64) := rfl
theorem wa_0 {m : Hp} {k : Nat} (M : MOK m) (hk : k < nWk m) : wasV m (nI k) 0 = polV m k := by
  have := nWk_le M
  unfold wasV
  rw [if_pos (isW_nI this hk), if_pos (show inR 0 0 1 by decide), if_pos rfl, nI_clamp (by omega)]
theorem wa_1 {m : Hp} {k : Nat} (M : MOK m) (hk : k < nWk m) : wasV m (nI k) 1 = srtV m k := by
  have := nWk_le M
  unfold wasV
  rw [if_pos (isW_nI this hk), if_pos (show inR 1 0 1 by decide), if_neg one_ne, nI_clamp (by omega)]
theorem ak_v {m : Hp} {k : Nat} (M : MOK m) (hk : k < nWk m) : askV m (nI k) = nI (akF m k 23) := by
  have := nWk_le M
  unfold askV
  rw [if_pos (isW_nI this hk), nI_clamp (by omega)]
theorem c_plansD {m h : Hp} {k : Nat} (M : MOK m) (C : CR m h) (hk : k < nWk m) (l : Int64) : Ok (f_X7_mixedPlans h l (nI k)) (fun u => u.2 = W3 m k l ∧ CR m u.1) := by
  unfold f_X7_mixedPlans
  refine ok_bnd (c_start0 M C hk) (fun h1 x1 H => ?_)
  have q1 : x1 = (bst (startW m k) 24).1 := H.1
  have e1 : h1.1 0 14 = (bst (startW m k) 24).2 := H.2.1
  have C1 : CR m h1 := H.2.2
  rw [mbest, bdr_some, e1, q1]
  refine ok_bnd (c_hold0 M C1 hk) (fun h2 x2 H => ?_)
  have q2 : x2 = (bst (holdW m k) 10).1 := H.1
  have e2 : h2.1 0 14 = (bst (holdW m k) 10).2 := H.2.1
  have C2 : CR m h2 := H.2.2
  rw [mbest, bdr_some, e2, q2]
  refine ok_bnd (c_was M C2 (nI k) 0) (fun h3 x3 H => ?_)
  have qx3 := H.1
  have C3 : CR m h3 := H.2
  dsimp only at qx3
  rw [qx3]
  rw [wa_0 M hk, mxd, bdr_some]
  refine ok_bnd (c_was M C3 (nI k) 1) (fun h4 x4 H => ?_)
  have qx4 := H.1
  have C4 : CR m h4 := H.2
  dsimp only at qx4
  rw [qx4]
  rw [wa_1 M hk, mxd, bdr_some]
  refine ok_bnd (c_ask M C4 (nI k)) (fun h5 x5 H => ?_)
  have qx5 := H.1
  have C5 : CR m h5 := H.2
  dsimp only at qx5
  rw [qx5]
  rw [ak_v M hk, mxd, bdr_some]
  refine ok_bnd (c_chance (c := 5) (a := 0) M C5 (by decide) hk (by decide)) (fun h6 x6 H => ?_)
  have qx6 := H.1
  have C6 : CR m h6 := H.2
  dsimp only at qx6
  rw [qx6]
  rw [mxd, bdr_some]
  refine ok_bnd (c_chance (c := 5) (a := 1) M C6 (by decide) hk (by decide)) (fun h7 x7 H => ?_)
  have qx7 := H.1
  have C7 : CR m h7 := H.2
  dsimp only at qx7
  rw [qx7]
  rw [mxd, bdr_some]
  exact ok_some ⟨rfl, C7⟩
theorem su_v {m : Hp} {j : Nat} (hj : j < 3) : sumV m (nI j) = smV (inp m) (nI j) := by
  unfold sumV
  rw [if_pos (inR_nI (by omega) (by omega) (by decide))]
theorem wh_0 (m : Hp) : whoV m 0 = (fiF (inp m) (iN (inp m))).1 := by
  unfold whoV
  rw [if_pos (show inR 0 0 1 by decide), if_pos rfl]
theorem wh_1 (m : Hp) : whoV m 1 = (faF (inp m) (iN (inp m))).1 := by
  unfold whoV
  rw [if_pos (show inR 1 0 1 by decide), if_neg one_ne]
theorem sp_v {m : Hp} {a : Int32} (h : ¬ a < -1 ∧ ¬ (1 : Int32) < a) : spaV m a = spA (spR m) a := by
  unfold spaV
  rw [if_pos h]
def dgR (h10 : Hp) (l11 : Int64) : Option (Hp × Int64) :=
          lt2 (fun (h12 : Hp) (l13 : Int64) =>
            bnd (f_X7_who h12 (0 : Int32)) fun h14 x15 =>
            bdr (f_X7_mixed l13 (x15.toInt64)) fun l16 =>
            bnd (f_X7_who h14 (1 : Int32)) fun h17 x18 =>
            bdr (f_X7_mixed l16 (x18.toInt64)) fun l19 =>
            bnd (f_X7_bare h17) fun h20 x21 =>
            bdr (f_X7_mixed l19 (x21.toInt64)) fun l22 =>
            bnd (f_X7_act h20 (2 : Int32) (0 : Int32)) fun h23 x24 =>
            bdr (f_X7_mixedBest h23 l22 x24) fun l25 =>
            bnd (f_X7_act h23 (6 : Int32) (0 : Int32)) fun h26 x27 =>
            bdr (f_X7_mixedBest h26 l25 x27) fun l28 =>
            bnd (f_X7_spare h26 (-1 : Int32)) fun h29 x30 =>
            bdr (f_X7_mixed l28 (x30.toInt64)) fun l31 =>
            bnd (f_X7_spare h29 (0 : Int32)) fun h32 x33 =>
            bdr (f_X7_mixed l31 (x33.toInt64)) fun l34 =>
            bnd (f_X7_never h32) fun h35 x36 =>
            bdr (f_X7_mixed l34 (x36.toInt64)) fun l37 =>
            bnd (f_X7_shows h35 (7 : Int32) (18 : Int32) (0 : Int32)) fun h38 x39 =>
            bdr (f_X7_mixed l37 (x39.toInt64)) fun l40 =>
            bnd (f_X7_shows h38 (7 : Int32) (18 : Int32) (1 : Int32)) fun h41 x42 =>
            bdr (f_X7_mixed l40 (x42.toInt64)) fun l43 =>
            some (h41, l43)) fun k5 =>
          fx3 FU (fun s6 (h44 : Hp) (l45 : Int64) (x46 : Int32) =>
            if (2 : Int32) < x46 then (
              k5 h44 l45)
            else (
              bnd (f_X7_sum h44 x46) fun h47 x48 =>
              bdr (f_X7_mixed l45 (x48.toInt64)) fun l49 =>
              nm (x46 + (1 : Int32)) fun x50 =>
              s6 h47 l49 x50)) h10 l11 (0 : Int32)
theorem c_restD {m h : Hp} (M : MOK m) (C : CR m h) (l : Int64) : Ok (dgR h l) (fun u => u.2 = R4 m (R3 m (R2 m (R1 (inp m) l))) ∧ CR m u.1) := by
  unfold dgR
  refine ok_lt2 (fun h' l' => CR m h' ∧ l' = R1 (inp m) l) ?_ ?_
  · rintro h1 l1 ⟨C1, rfl⟩
    generalize R1 (inp m) l = L
    refine ok_bnd (c_who M C1 0) (fun h2 x2 H => ?_)
    have qx2 := H.1
    have C2 : CR m h2 := H.2
    dsimp only at qx2
    rw [qx2]
    rw [wh_0, mxd, bdr_some]
    refine ok_bnd (c_who M C2 1) (fun h3 x3 H => ?_)
    have qx3 := H.1
    have C3 : CR m h3 := H.2
    dsimp only at qx3
    rw [qx3]
    rw [wh_1, mxd, bdr_some]
    refine ok_bnd (c_bare M C3) (fun h4 x4 H => ?_)
    have qx4 := H.1
    have C4 : CR m h4 := H.2
    dsimp only at qx4
    rw [qx4]
    rw [mxd, bdr_some]
    refine ok_bnd (c_act0 (k := 2) M C4 (by decide)) (fun h5 x5 H => ?_)
    have q5 : x5 = (bst (actW m 2) 4).1 := H.1
    have e5 : h5.1 0 14 = (bst (actW m 2) 4).2 := H.2.1
    have C5 : CR m h5 := H.2.2
    rw [mbest, bdr_some, e5, q5]
    refine ok_bnd (c_act0 (k := 6) M C5 (by decide)) (fun h6 x6 H => ?_)
    have q6 : x6 = (bst (actW m 6) 4).1 := H.1
    have e6' : h6.1 0 14 = (bst (actW m 6) 4).2 := H.2.1
    have C6 : CR m h6 := H.2.2
    rw [mbest, bdr_some, e6', q6]
    refine ok_bnd (c_spare M C6 (-1)) (fun h7 x7 H => ?_)
    have qx7 := H.1
    have C7 : CR m h7 := H.2
    dsimp only at qx7
    rw [qx7]
    rw [sp_v (by decide), mxd, bdr_some]
    refine ok_bnd (c_spare M C7 0) (fun h8 x8 H => ?_)
    have qx8 := H.1
    have C8 : CR m h8 := H.2
    dsimp only at qx8
    rw [qx8]
    rw [sp_v (by decide), mxd, bdr_some]
    refine ok_bnd (c_never M C8) (fun h9 x9 H => ?_)
    have qx9 := H.1
    have C9 : CR m h9 := H.2
    dsimp only at qx9
    rw [qx9]
    rw [mxd, bdr_some]
    refine ok_bnd (c_shows (n := 18) (a := 0) M C9 7 (by decide) (by decide)) (fun h10 x10 H => ?_)
    have qx10 := H.1
    have C10 : CR m h10 := H.2
    dsimp only at qx10
    rw [qx10]
    rw [mxd, bdr_some]
    refine ok_bnd (c_shows (n := 18) (a := 1) M C10 7 (by decide) (by decide)) (fun h11 x11 H => ?_)
    have qx11 := H.1
    have C11 : CR m h11 := H.2
    dsimp only at qx11
    rw [qx11]
    rw [mxd, bdr_some]
    exact ok_some ⟨rfl, C11⟩
  · intro kk hkk
    refine ok_fx3 (fun f h1 l1 y => ∃ j, y = nI j ∧ j + f = 3 ∧ l1 = itF (fun j l => mx l (smV (inp m) (nI j)).toInt64) l j ∧ CR m h1) 3 (by decide) ⟨0, rfl, rfl, rfl, C⟩ ?_
    rintro f self h1 l1 y ⟨j, rfl, hj, rfl, C1⟩ ih
    by_cases hf : f = 0
    · have e : j = 3 := by omega
      rw [e, if_pos (by decide)]
      exact hkk _ _ ⟨C1, rfl⟩
    · have j3 : j < 3 := by omega
      rw [if_neg (lt2n j3)]
      refine ok_bnd (c_sum M C1 (nI j)) (fun h6 x6 H => ?_)
      obtain ⟨rfl, C6⟩ : x6 = _ ∧ CR m h6 := H
      rw [su_v j3, mxd, bdr_some, nm_eq, show nI j + (1 : Int32) = nI (j + 1) from nI_1 j]
      exact ih (f - 1) _ _ _ (by omega) ⟨j + 1, rfl, by omega, rfl, C6⟩
theorem se_v {m : Hp} {p : Nat} (hp : p < 41) : seesV m 9 (nI p) = seV (inp m) 9 (nI p) := by
  unfold seesV
  rw [if_pos (show inR 9 0 23 by decide), if_pos (inR_nI (by omega) (by omega) (by decide))]
  rfl
theorem rt_v {m : Hp} {b : Nat} (hb : b < 24) : rtnV m (nI b) = iMv (inp m) b := by
  unfold rtnV
  rw [if_pos (inR_nI (by omega) (by omega) (by decide)), nI_clamp (by omega)]
theorem sw_v {m : Hp} {b : Nat} (hb : b < 24) : swyV m (nI b) = swV (inp m) b := by
  unfold swyV
  rw [if_pos (inR_nI (by omega) (by omega) (by decide)), nI_clamp (by omega)]
theorem c_digest {m h : Hp} (M : MOK m) (C : CR m h) : Ok (f_X7_digest h) (fun u => u.2 = DG m ∧ CR m u.1) := by
  have hN := nWk_le M
  unfold f_X7_digest
  refine ok_lt1 (fun l' => l' = D1 m) ?_ ?_
  · rintro l1 rfl
    refine ok_bdr (c_fault M C 0) (fun x2 H => ?_)
    subst H
    rw [mxd, bdr_some]
    refine ok_bdr (c_fault M C 1) (fun x4 H => ?_)
    subst H
    rw [mxd, bdr_some]
    refine ok_lt2 (fun h' l' => CR m h' ∧ l' = D3 m) ?_ ?_
    · rintro h6 l7 ⟨C6, rfl⟩
      refine ok_lt2 (fun h' l' => CR m h' ∧ l' = D4 m) ?_ ?_
      · rintro h8 l9 ⟨C8, rfl⟩
        refine ok_lt2 (fun h' l' => CR m h' ∧ l' = D5 m) ?_ ?_
        · rintro h10 l11 ⟨C10, rfl⟩
          exact c_restD M C10 (D5 m)
        · intro kk hkk
          refine ok_fx3 (fun f h1 l1 y => ∃ j, y = nI j ∧ j + f = nWk m ∧ l1 = itF (fun k l => W3 m k (W2 (inp m) k l)) (D4 m) j ∧ CR m h1) (nWk m) (by omega) ⟨0, rfl, by omega, rfl, C8⟩ ?_
          rintro f self h1 l1 y ⟨j, rfl, hj, rfl, C1⟩ ih
          rw [show h1.1 5 7 = nI (nWk m) from C1.2.1.1]
          by_cases hf : f = 0
          · have e : j = nWk m := by omega
            rw [if_pos (nI_le (by omega) (by omega)), e]
            exact hkk _ _ ⟨C1, rfl⟩
          · have jn : j < nWk m := by omega
            rw [if_neg (nI_ge jn (by omega))]
            refine ok_bnd (c_walkD M C1 jn _) (fun h2 x2 H => ?_)
            obtain ⟨rfl, C2⟩ : x2 = _ ∧ CR m h2 := H
            refine ok_bnd (c_plansD M C2 jn _) (fun h3 x3 H => ?_)
            obtain ⟨rfl, C3⟩ : x3 = _ ∧ CR m h3 := H
            rw [nm_eq, show nI j + (1 : Int32) = nI (j + 1) from nI_1 j]
            exact ih (f - 1) _ _ _ (by omega) ⟨j + 1, rfl, by omega, rfl, C3⟩
      · intro kk hkk
        refine ok_fx3 (fun f h1 l1 y => ∃ p, y = nI p ∧ p + f = 41 ∧ l1 = itF (fun p l => mx l (seV (inp m) 9 (nI p)).toInt64) (D3 m) p ∧ CR m h1) 41 (by decide) ⟨0, rfl, rfl, rfl, C6⟩ ?_
        rintro f self h1 l1 y ⟨p, rfl, hp, rfl, C1⟩ ih
        by_cases hf : f = 0
        · have e : p = 41 := by omega
          rw [e, if_pos (by decide)]
          exact hkk _ _ ⟨C1, rfl⟩
        · have p41 : p < 41 := by omega
          rw [if_neg ((show ∀ p, p < 41 → ¬ (40 : Int32) < nI p by decide +kernel) p p41)]
          refine ok_bnd (c_sees M C1 9 (nI p)) (fun h2 x2 H => ?_)
          obtain ⟨rfl, C2⟩ : x2 = _ ∧ CR m h2 := H
          rw [se_v p41, mxd, bdr_some, nm_eq, show nI p + (1 : Int32) = nI (p + 1) from nI_1 p]
          exact ih (f - 1) _ _ _ (by omega) ⟨p + 1, rfl, by omega, rfl, C2⟩
    · intro kk hkk
      refine ok_fx3 (fun f h1 l1 y => ∃ b, y = nI b ∧ b + f = 24 ∧ l1 = itF (fun b l => mx (mx l (iMv (inp m) b).toInt64) (swV (inp m) b).toInt64) (D2 m) b ∧ CR m h1) 24 (by decide) ⟨0, rfl, rfl, rfl, C⟩ ?_
      rintro f self h1 l1 y ⟨b, rfl, hb, rfl, C1⟩ ih
      by_cases hf : f = 0
      · have e : b = 24 := by omega
        rw [e, if_pos (by decide)]
        exact hkk _ _ ⟨C1, rfl⟩
      · have b24 : b < 24 := by omega
        rw [if_neg ((show ∀ b, b < 24 → ¬ (24 : Int32) ≤ nI b by decide +kernel) b b24)]
        refine ok_bdr (c_routine C1 (nI b)) (fun x1 H => ?_)
        subst H
        rw [rt_v b24, mxd, bdr_some]
        refine ok_bnd (c_sway M C1 (nI b)) (fun h2 x2 H => ?_)
        obtain ⟨rfl, C2⟩ : x2 = _ ∧ CR m h2 := H
        rw [sw_v b24, mxd, bdr_some, nm_eq, show nI b + (1 : Int32) = nI (b + 1) from nI_1 b]
        exact ih (f - 1) _ _ _ (by omega) ⟨b + 1, rfl, by omega, rfl, C2⟩
  · intro kk hkk
    refine ok_fx2 (fun f l1 y => ∃ j, y = nI j ∧ j + f = 8 ∧ l1 = itF (fun j l => mx l (cntV m (nI j)).toInt64) 17 j) 8 (by decide) ⟨0, rfl, rfl, rfl⟩ ?_
    rintro f self l1 y ⟨j, rfl, hj, rfl⟩ ih
    by_cases hf : f = 0
    · have e : j = 8 := by omega
      rw [e, if_pos (by decide)]
      exact hkk _ rfl
    · have j8 : j < 8 := by omega
      rw [if_neg ((show ∀ j, j < 8 → ¬ (7 : Int32) < nI j by decide +kernel) j j8)]
      refine ok_bdr (c_count M C (nI j)) (fun x1 H => ?_)
      subst H
      rw [mxd, bdr_some, nm_eq, show nI j + (1 : Int32) = nI (j + 1) from nI_1 j]
      exact ih (f - 1) _ _ (by omega) ⟨j + 1, rfl, by omega, rfl⟩
