/-! spare -/
theorem ck02 {α : Type} {o : Option α} : ck (0 : Int32) 2 o = o := by unfold ck; exact if_pos (by decide)
theorem ck12 {α : Type} {o : Option α} : ck (1 : Int32) 2 o = o := by unfold ck; exact if_pos (by decide)
def fls (i : Inp) : Nat := cntW (iN i) (runF i 24).1.1 3
def gd (m : Hp) (w : Int32) : Bool := decide (fls (wWo (inp m) w) = 0)
theorem ok_wWo {i : Inp} (h : InOk i) (w : Int32) : InOk (wWo i w) := h
theorem ti_wWo {i : Inp} {mc : Nat} {h : Hp} (T : TI i mc h) (w : Int32) : TI (wWo i w) mc h := T
def srch (P : Nat → Bool) : Nat → Nat → Option Nat
  | 0, _ => none
  | f + 1, j => if P j = true then some j else srch P f (j + 1)
def bt (a : Nat) : Int32 := (1 : Int32) <<< (nI a &&& 31)
def sp2 (m : Hp) (n : Nat) : Nat → Nat → Option (Nat × Nat)
  | 0, _ => none
  | f + 1, a => match srch (fun b => gd m (bt a ||| bt b)) (n - (a + 1)) (a + 1) with
    | some b => some (a, b)
    | none => sp2 m n f (a + 1)
def spR2 (o : Option (Nat × Nat)) : Int32 × Int32 × Int32 := match o with
  | some p => (2, nI p.1, nI p.2)
  | none => (-1, -1, -1)
def spR1 (m : Hp) (o : Option Nat) : Int32 × Int32 × Int32 := match o with
  | some a => (1, nI a, -1)
  | none => spR2 (sp2 m (nEv m) (nEv m) 0)
def spR (m : Hp) : Int32 × Int32 × Int32 := if gd m 0 = true then (0, -1, -1) else spR1 m (srch (fun a => gd m (bt a)) (nEv m) 0)
def spQ (r : Int32 × Int32 × Int32) (h : Hp) : Prop := (r.1 = 1 ∨ r.1 = 2 → h.1 58 0 = r.2.1) ∧ (r.1 = 2 → h.1 58 1 = r.2.2)
theorem c_nobody {m h : Hp} (M : MOK m) (C : CR m h) (w : Int32) : Ok (f_X7_nobodyFallsWithout h w) (fun u => u.2 = (if gd m w = true then 1 else 0) ∧ CR m u.1) := by
  have hN : iN (inp m) ≤ 6 := nWk_le M
  unfold f_X7_nobodyFallsWithout
  refine ok_bdv (c_tr (i := wWo (inp m) w) (ok_wWo (inp_ok M) w) (Or.inl rfl) rfl (ti_wWo C.2.1 w)) (fun h1 H => ?_)
  have C1 : CR m h1 := C.kc (kc_fi H.2.2)
  have e : h1.1 36 14 = nI (fls (wWo (inp m) w)) := H.1.2.2.2
  have le : fls (wWo (inp m) w) ≤ iN (inp m) := cnt_le _ _ _
  rw [e]
  by_cases q : fls (wWo (inp m) w) = 0
  · rw [q, if_pos (show nI 0 = 0 from rfl), if_pos (show gd m w = true from decide_eq_true q)]
    exact ok_some ⟨rfl, C1⟩
  · rw [if_neg (nI_ne0 (by omega) (by omega)), if_neg (show ¬ gd m w = true from fun r => q (of_decide_eq_true r))]
    exact ok_some ⟨rfl, C1⟩
theorem km_14 {m h h2 : Hp} {w : Int32} (M : MOK m) (T : MT m h) (K : KM (uf h 68 14 w) h2) : KM h (uf h2 68 14 0) := by
  obtain ⟨k1, k2, k3⟩ := K
  refine ⟨fun c q r => ?_, fun z q r => ?_, k3⟩
  · rw [uf_ne r, k1 c q r, uf_ne r]
  · rw [uf_get]
    by_cases e : z = 14
    · rw [if_pos ⟨rfl, e⟩, e]
      exact (T.1.2.2.2.2.2.2.2.2.2.2.1.trans M.2.2.2.2.1).symm
    · rw [if_neg (fun x => e x.2), k2 z q r, uf_get, if_neg (fun x => e x.2)]
theorem tm_14 {i : Inp} {h : Hp} {w : Int32} (T : TM i h) : TM (wWo i w) (uf h 68 14 w) := by
  obtain ⟨t1, t2, t3, t4, t5, t6, t7, t8, t9⟩ := T
  have f : ∀ c, c ≠ 68 → (uf h 68 14 w).1 c = h.1 c := fun c q => uf_ne q
  unfold TM
  rw [f 75 (by decide), f 76 (by decide), f 77 (by decide), f 78 (by decide)]
  exact ⟨by simp [uf_get]; exact t1, by simp [uf_get]; exact t2, t3, t4, t5, by simp [uf_get]; rfl, t7, t8, t9⟩
theorem m_isSpared {m h : Hp} (M : MOK m) (T : MT m h) (w : Int32) : Ok (f_X8_isSpared h w) (fun u => u.2 = (if gd m w = true then 1 else 0) ∧ MT m u.1) := by
  have hN : iN (inp m) ≤ 6 := nWk_le M
  unfold f_X8_isSpared
  rw [nm_eq]
  refine ok_bdv (p_lives (ok_wWo (inp_ok M) w) (tm_14 T.2.1)) (fun h2 H => ?_)
  obtain ⟨r1, -, K⟩ := H
  rw [nm_eq]
  have T3 : MT m (uf h2 68 14 0) := T.km (km_14 M T K)
  refine ok_bdr (m_many (N := iN (inp m)) hN T3.2.1.1 (fun k hk => by rw [uf_ne (by decide)]; exact (r1.1 k hk).1) 3) (fun x hx => ?_)
  have le : fls (wWo (inp m) w) ≤ iN (inp m) := cnt_le _ _ _
  rw [show x = nI (fls (wWo (inp m) w)) from hx]
  by_cases q : fls (wWo (inp m) w) = 0
  · rw [q, if_pos (show nI 0 = 0 from rfl), if_pos (show gd m w = true from decide_eq_true q)]
    exact ok_some ⟨rfl, T3⟩
  · rw [if_neg (nI_ne0 (by omega) (by omega)), if_neg (show ¬ gd m w = true from fun r => q (of_decide_eq_true r))]
    exact ok_some ⟨rfl, T3⟩
theorem c_spareFewest {m h : Hp} (M : MOK m) (C : CR m h) : Ok (f_X7_spareFewest h) (fun u => u.2 = (spR m).1 ∧ spQ (spR m) u.1 ∧ CR m u.1) := by
  have n8 := M.2.2.1.1
  unfold f_X7_spareFewest
  refine ok_bnd (c_nobody M C 0) (fun h1 x2 H => ?_)
  obtain ⟨rfl, C1⟩ : x2 = _ ∧ CR m h1 := H
  refine ok_w (fun g => ?_) (fun g => ?_)
  · have e : spR m = (0, -1, -1) := by unfold spR; rw [if_pos g]
    rw [e]
    exact ok_some ⟨rfl, ⟨fun q => absurd q (by decide), fun q => absurd q (by decide)⟩, C1⟩
  · have e : spR m = spR1 m (srch (fun a => gd m (bt a)) (nEv m) 0) := by unfold spR; rw [if_neg g]
    rw [lt1_eq]
    refine ok_fx2 (fun f h2 x => ∃ a, x = nI a ∧ a + f = nEv m ∧ spR m = spR1 m (srch (fun a => gd m (bt a)) f a) ∧ CR m h2) (nEv m) (by omega) ⟨0, rfl, by omega, e, C1⟩ ?_
    rintro f self h2 x ⟨a, rfl, ha, e, C2⟩ ih
    rw [show h2.1 5 8 = nI (nEv m) from C2.2.1.2.1]
    by_cases hf : f = 0
    · subst hf
      rw [if_pos (nI_le (by omega) (by omega))]
      have e2 : spR m = spR2 (sp2 m (nEv m) (nEv m) 0) := e
      dsimp only
      refine ok_fx2 (fun f h2 x => ∃ a, x = nI a ∧ a + f = nEv m ∧ spR m = spR2 (sp2 m (nEv m) f a) ∧ CR m h2) (nEv m) (by omega) ⟨0, rfl, by omega, e2, C2⟩ ?_
      rintro f self h3 x ⟨a, rfl, ha, e, C3⟩ ih
      rw [show h3.1 5 8 = nI (nEv m) from C3.2.1.2.1]
      by_cases hf : f = 0
      · subst hf
        rw [if_pos (nI_le (by omega) (by omega))]
        have e3 : spR m = (-1, -1, -1) := e
        rw [e3]
        exact ok_some ⟨rfl, ⟨fun q => absurd q (by decide), fun q => absurd q (by decide)⟩, C3⟩
      · obtain ⟨f', rfl⟩ : ∃ f', f = f' + 1 := ⟨f - 1, by omega⟩
        have an : a < nEv m := by omega
        rw [if_neg (nI_ge an (by omega))]
        simp only [nm_eq, lt1_eq]
        rw [show nI a + (1 : Int32) = nI (a + 1) from nI_1 a]
        refine ok_fx2 (fun g h2 x => ∃ b, x = nI b ∧ b + g = nEv m ∧ srch (fun b => gd m (bt a ||| bt b)) (nEv m - (a + 1)) (a + 1) = srch (fun b => gd m (bt a ||| bt b)) g b ∧ CR m h2) (nEv m - (a + 1)) (by omega) ⟨a + 1, rfl, by omega, rfl, C3⟩ ?_
        rintro g self2 h4 x ⟨b, rfl, hb, eb, C4⟩ ih2
        rw [show h4.1 5 8 = nI (nEv m) from C4.2.1.2.1]
        by_cases hg : g = 0
        · subst hg
          rw [if_pos (nI_le (by omega) (by omega))]
          refine ih f' _ _ (by omega) ⟨a + 1, rfl, by omega, ?_, C4⟩
          rw [e, sp2, eb]; rfl
        · obtain ⟨g', rfl⟩ : ∃ g', g = g' + 1 := ⟨g - 1, by omega⟩
          have bn : b < nEv m := by omega
          rw [if_neg (nI_ge bn (by omega))]
          refine ok_bnd (c_nobody M C4 (bt a ||| bt b)) (fun h5 x5 H => ?_)
          obtain ⟨rfl, C5⟩ : x5 = _ ∧ CR m h5 := H
          refine ok_w (fun q => ?_) (fun q => ?_)
          · rw [srch, if_pos q] at eb
            rw [sp2, eb] at e
            have e3 : spR m = (2, nI a, nI b) := e
            rw [ck02, ck12, e3]
            have KK : KC h5 (ux (ux h5 58 0 (nI a)) 58 1 (nI b)) := ⟨fun c q r => by rw [show (ux (ux h5 58 0 (nI a)) 58 1 (nI b)) = uf (uf h5 58 0 (nI a)) 58 1 (nI b) from rfl, uf_ne (by omega), uf_ne (by omega)], rfl, fun c q r => by rw [show (ux (ux h5 58 0 (nI a)) 58 1 (nI b)) = uf (uf h5 58 0 (nI a)) 58 1 (nI b) from rfl, uf_ne (by omega), uf_ne (by omega)], rfl, rfl, rfl⟩
            exact ok_some ⟨rfl, ⟨fun _ => rfl, fun _ => rfl⟩, C5.kc KK⟩
          · rw [srch, if_neg q] at eb
            rw [show nI b + (1 : Int32) = nI (b + 1) from nI_1 b]
            exact ih2 g' _ _ (by omega) ⟨b + 1, rfl, by omega, eb, C5⟩
    · obtain ⟨f', rfl⟩ : ∃ f', f = f' + 1 := ⟨f - 1, by omega⟩
      have an : a < nEv m := by omega
      rw [if_neg (nI_ge an (by omega))]
      refine ok_bnd (c_nobody M C2 (bt a)) (fun h5 x5 H => ?_)
      obtain ⟨rfl, C5⟩ : x5 = _ ∧ CR m h5 := H
      refine ok_w (fun q => ?_) (fun q => ?_)
      · rw [srch, if_pos q] at e
        have e3 : spR m = (1, nI a, -1) := e
        rw [ck02, e3]
        have KK : KC h5 (ux h5 58 0 (nI a)) := ⟨fun c q r => by rw [show (ux h5 58 0 (nI a)) = uf h5 58 0 (nI a) from rfl, uf_ne (by omega)], rfl, fun c q r => by rw [show (ux h5 58 0 (nI a)) = uf h5 58 0 (nI a) from rfl, uf_ne (by omega)], rfl, rfl, rfl⟩
        exact ok_some ⟨rfl, ⟨fun _ => rfl, fun q => absurd q (show ¬ (1 : Int32) = 2 by decide)⟩, C5.kc KK⟩
      · rw [srch, if_neg q] at e
        rw [nm_eq, show nI a + (1 : Int32) = nI (a + 1) from nI_1 a]
        exact ih f' _ _ (by omega) ⟨a + 1, rfl, by omega, e, C5⟩
def spA (r : Int32 × Int32 × Int32) (a : Int32) : Int32 := if a = -1 then r.1 else if a = 0 then r.2.1 else r.2.2
theorem m_spareBy {m h : Hp} (M : MOK m) (T : MT m h) (a0 : Int32) : Ok (f_X8_spareBy h a0) (fun u => u.2 = spA (spR m) a0 ∧ MT m u.1) := by
  have n8 := M.2.2.1.1
  unfold f_X8_spareBy
  refine ok_bnd (m_isSpared M T 0) (fun h1 x2 H => ?_)
  obtain ⟨rfl, T1⟩ : x2 = _ ∧ MT m h1 := H
  refine ok_w (fun g => ?_) (fun g => ?_)
  · have e : spR m = (0, -1, -1) := by unfold spR; rw [if_pos g]
    rw [e]; unfold spA
    refine ok_ite (fun q => ?_) (fun q => ?_)
    · rw [if_pos q]; exact ok_some ⟨rfl, T1⟩
    · rw [if_neg q]
      refine ok_some ⟨?_, T1⟩
      split <;> rfl
  · have e : spR m = spR1 m (srch (fun a => gd m (bt a)) (nEv m) 0) := by unfold spR; rw [if_neg g]
    rw [lt1_eq]
    refine ok_fx2 (fun f h2 x => ∃ a, x = nI a ∧ a + f = nEv m ∧ spR m = spR1 m (srch (fun a => gd m (bt a)) f a) ∧ MT m h2) (nEv m) (by omega) ⟨0, rfl, by omega, e, T1⟩ ?_
    rintro f self h2 x ⟨a, rfl, ha, e, T2⟩ ih
    rw [show h2.1 68 12 = nI (nEv m) from T2.2.1.2.1]
    by_cases hf : f = 0
    · subst hf
      rw [if_pos (nI_le (by omega) (by omega))]
      have e2 : spR m = spR2 (sp2 m (nEv m) (nEv m) 0) := e
      dsimp only
      refine ok_fx2 (fun f h2 x => ∃ a, x = nI a ∧ a + f = nEv m ∧ spR m = spR2 (sp2 m (nEv m) f a) ∧ MT m h2) (nEv m) (by omega) ⟨0, rfl, by omega, e2, T2⟩ ?_
      rintro f self h3 x ⟨a, rfl, ha, e, T3⟩ ih
      rw [show h3.1 68 12 = nI (nEv m) from T3.2.1.2.1]
      by_cases hf : f = 0
      · subst hf
        rw [if_pos (nI_le (by omega) (by omega))]
        have e3 : spR m = (-1, -1, -1) := e
        rw [e3]; unfold spA
        refine ok_some ⟨?_, T3⟩
        split
        · rfl
        · split <;> rfl
      · obtain ⟨f', rfl⟩ : ∃ f', f = f' + 1 := ⟨f - 1, by omega⟩
        have an : a < nEv m := by omega
        rw [if_neg (nI_ge an (by omega))]
        simp only [nm_eq, lt1_eq]
        rw [show nI a + (1 : Int32) = nI (a + 1) from nI_1 a]
        refine ok_fx2 (fun g h2 x => ∃ b, x = nI b ∧ b + g = nEv m ∧ srch (fun b => gd m (bt a ||| bt b)) (nEv m - (a + 1)) (a + 1) = srch (fun b => gd m (bt a ||| bt b)) g b ∧ MT m h2) (nEv m - (a + 1)) (by omega) ⟨a + 1, rfl, by omega, rfl, T3⟩ ?_
        rintro g self2 h4 x ⟨b, rfl, hb, eb, T4⟩ ih2
        rw [show h4.1 68 12 = nI (nEv m) from T4.2.1.2.1]
        by_cases hg : g = 0
        · subst hg
          rw [if_pos (nI_le (by omega) (by omega))]
          refine ih f' _ _ (by omega) ⟨a + 1, rfl, by omega, ?_, T4⟩
          rw [e, sp2, eb]; rfl
        · obtain ⟨g', rfl⟩ : ∃ g', g = g' + 1 := ⟨g - 1, by omega⟩
          have bn : b < nEv m := by omega
          rw [if_neg (nI_ge bn (by omega))]
          refine ok_bnd (m_isSpared M T4 (bt a ||| bt b)) (fun h5 x5 H => ?_)
          obtain ⟨rfl, T5⟩ : x5 = _ ∧ MT m h5 := H
          refine ok_w (fun q => ?_) (fun q => ?_)
          · rw [srch, if_pos q] at eb
            rw [sp2, eb] at e
            have e3 : spR m = (2, nI a, nI b) := e
            rw [e3]; unfold spA
            refine ok_ite (fun q => ?_) (fun q => ?_)
            · rw [if_pos q]; exact ok_some ⟨rfl, T5⟩
            · rw [if_neg q]
              refine ok_ite (fun q => ?_) (fun q => ?_)
              · rw [if_pos q]; exact ok_some ⟨rfl, T5⟩
              · rw [if_neg q]; exact ok_some ⟨rfl, T5⟩
          · rw [srch, if_neg q] at eb
            rw [show nI b + (1 : Int32) = nI (b + 1) from nI_1 b]
            exact ih2 g' _ _ (by omega) ⟨b + 1, rfl, by omega, eb, T5⟩
    · obtain ⟨f', rfl⟩ : ∃ f', f = f' + 1 := ⟨f - 1, by omega⟩
      have an : a < nEv m := by omega
      rw [if_neg (nI_ge an (by omega))]
      refine ok_bnd (m_isSpared M T2 (bt a)) (fun h5 x5 H => ?_)
      obtain ⟨rfl, T5⟩ : x5 = _ ∧ MT m h5 := H
      refine ok_w (fun q => ?_) (fun q => ?_)
      · rw [srch, if_pos q] at e
        have e3 : spR m = (1, nI a, -1) := e
        rw [e3]; unfold spA
        refine ok_ite (fun q => ?_) (fun q => ?_)
        · rw [if_pos q]; exact ok_some ⟨rfl, T5⟩
        · rw [if_neg q]
          refine ok_ite (fun q => ?_) (fun q => ?_)
          · rw [if_pos q]; exact ok_some ⟨rfl, T5⟩
          · rw [if_neg q]; exact ok_some ⟨rfl, T5⟩
      · rw [srch, if_neg q] at e
        rw [nm_eq, show nI a + (1 : Int32) = nI (a + 1) from nI_1 a]
        exact ih f' _ _ (by omega) ⟨a + 1, rfl, by omega, e, T5⟩
theorem spR_cases (m : Hp) : spR m = (0, -1, -1) ∨ (∃ a, spR m = (1, a, -1)) ∨ (∃ a b, spR m = (2, a, b)) ∨ spR m = (-1, -1, -1) := by
  unfold spR
  split
  · exact Or.inl rfl
  · unfold spR1
    split
    · exact Or.inr (Or.inl ⟨_, rfl⟩)
    · unfold spR2
      split
      · exact Or.inr (Or.inr (Or.inl ⟨_, _, rfl⟩))
      · exact Or.inr (Or.inr (Or.inr rfl))
def spaV (m : Hp) (a : Int32) : Int32 := if ¬ a < -1 ∧ ¬ (1 : Int32) < a then spA (spR m) a else -2
theorem m1_ex {a : Int32} (h : ¬ a < -1 ∧ ¬ (1 : Int32) < a) : a = -1 ∨ a = 0 ∨ a = 1 := by
  obtain ⟨h1, h2⟩ := h
  rw [Int32.lt_iff_toInt_lt] at h1 h2
  have z1 : (-1 : Int32).toInt = -1 := by decide
  have z2 : (1 : Int32).toInt = 1 := by decide
  rcases (show a.toInt = -1 ∨ a.toInt = 0 ∨ a.toInt = 1 by omega) with q | q | q
  · exact Or.inl (Int32.toInt_inj.mp (q.trans z1.symm))
  · exact Or.inr (Or.inl (Int32.toInt_inj.mp (q.trans (by decide))))
  · exact Or.inr (Or.inr (Int32.toInt_inj.mp (q.trans z2.symm)))
theorem c_spare {m h : Hp} (M : MOK m) (C : CR m h) (a : Int32) : Ok (f_X7_spare h a) (fun u => u.2 = spaV m a ∧ CR m u.1) := by
  unfold f_X7_spare spaV
  rw [w_m1, bdr_some]
  refine ok_w (fun r => ?_) (fun r => by rw [if_neg r]; exact ok_some ⟨rfl, C⟩)
  rw [if_pos r]
  refine ok_bnd (c_spareFewest M C) (fun h2 x3 H => ?_)
  obtain ⟨rfl, Q, C2⟩ : x3 = _ ∧ spQ (spR m) h2 ∧ CR m h2 := H
  unfold spA
  rcases m1_ex r with rfl | rfl | rfl
  · rw [if_pos rfl, if_pos rfl]; exact ok_some ⟨rfl, C2⟩
  · rw [if_neg (show ¬ (0 : Int32) = -1 by decide), if_neg (show ¬ (0 : Int32) = -1 by decide), if_pos (show (0 : Int32) = 0 from rfl), ck02]
    rcases spR_cases m with e | ⟨a, e⟩ | ⟨a, b, e⟩ | e <;> rw [e] at Q ⊢
    · exact ok_some ⟨rfl, C2⟩
    · exact ok_some ⟨Q.1 (Or.inl rfl), C2⟩
    · exact ok_some ⟨Q.1 (Or.inr rfl), C2⟩
    · exact ok_some ⟨rfl, C2⟩
  · rw [if_neg (show ¬ (1 : Int32) = -1 by decide), if_neg (show ¬ (1 : Int32) = -1 by decide), if_neg (show ¬ (1 : Int32) = 0 by decide), ck12]
    rcases spR_cases m with e | ⟨a, e⟩ | ⟨a, b, e⟩ | e <;> rw [e] at Q ⊢
    · exact ok_some ⟨rfl, C2⟩
    · exact ok_some ⟨rfl, C2⟩
    · exact ok_some ⟨Q.2 rfl, C2⟩
    · exact ok_some ⟨rfl, C2⟩
theorem op_spare {h : Hp} (I : Inv h) (a : Int32) : Step (f_X7_spare h a) (fun h1 => f_X8_spare h1 a) := by
  obtain ⟨m, M, C, P⟩ := I
  refine comb P M (c_spare M C a) (r_X7_spare h _) (fun h1 P1 => ?_) (fun h1 => r_X8_spare h1 _)
  unfold f_X8_spare spaV
  refine ok_bdv (m_find M P1) (fun h2 H2 => ?_)
  obtain ⟨T2, L2⟩ := H2
  rw [v_m1, bdr_some]
  refine ok_w (fun r2 => ?_) (fun r2 => by rw [if_neg r2]; exact ok_some ⟨rfl, T2.1⟩)
  rw [if_pos r2]
  exact ok_bnd (m_spareBy M T2 a) (fun h4 x H => ok_some ⟨H.1, H.2.1⟩)
