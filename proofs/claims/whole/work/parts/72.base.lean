/-! the state behind the calls: m holds it as the reference does -/
theorem rg_ex {a : Int32} {lo hi : Nat} (hh : hi < 2 ^ 31) (h1 : ¬ a < nI lo) (h2 : ¬ nI hi < a) (hl : lo < 2 ^ 31) : ∃ k, lo ≤ k ∧ k ≤ hi ∧ a = nI k := by
  have h0 : ¬ a < 0 := fun q => h1 (by
    rw [Int32.lt_iff_toInt_lt] at q ⊢
    rw [nI_toInt hl]
    have z : (0 : Int32).toInt = 0 := by decide
    omega)
  obtain ⟨j, hj, e⟩ := nI_of h0
  rw [e] at h1 h2
  exact ⟨j, Nat.le_of_not_lt (fun q => h1 (nI_lt q hl)), Nat.le_of_not_lt (fun q => h2 (nI_lt q hj)), e⟩
abbrev inR (a : Int32) (lo hi : Nat) : Prop := ¬ a < nI lo ∧ ¬ nI hi < a
theorem inR_ex {a : Int32} {lo hi : Nat} (h : inR a lo hi) (hh : hi < 2 ^ 31) (hl : lo ≤ hi) : ∃ k, lo ≤ k ∧ k ≤ hi ∧ a = nI k := rg_ex hh h.1 h.2 (by omega)
theorem inR_nI {k lo hi : Nat} (h1 : lo ≤ k) (h2 : k ≤ hi) (hh : hi < 2 ^ 31) : inR (nI k) lo hi := ⟨nI_nlt h1 (by omega), nI_nlt h2 hh⟩
theorem wi_if (a : Int32) (b c : Int32) : f_X7_within a b c = some (if ¬ a < b ∧ ¬ c < a then 1 else 0) := by
  unfold f_X7_within
  by_cases h1 : a < b
  · rw [if_pos h1, if_neg (fun q => q.1 h1)]
  · rw [if_neg h1]
    by_cases h2 : c < a
    · rw [if_pos h2, if_neg (fun q => q.2 h2)]
    · rw [if_neg h2, if_pos ⟨h1, h2⟩]
theorem mi_if (a : Int32) (b c : Int32) : f_X8_in a.toInt64 b.toInt64 c.toInt64 = some (if ¬ a < b ∧ ¬ c < a then 1 else 0) := by
  rw [in_eq]; exact wi_if a b c
theorem b01 {c : Prop} [Decidable c] : (bdr (some (if c then (1 : Int32) else 0)) fun x1 => cy (x1 = 0 ∨ x1 = 1) (some x1)) = some (if c then (1 : Int32) else 0) := by
  by_cases h : c
  · rw [if_pos h]; rfl
  · rw [if_neg h]; rfl
theorem w_1 (a : Int32) : f_X7_within a 0 1 = some (if inR a 0 1 then 1 else 0) := wi_if a 0 1
theorem w_2 (a : Int32) : f_X7_within a 0 2 = some (if inR a 0 2 then 1 else 0) := wi_if a 0 2
theorem w_3 (a : Int32) : f_X7_within a 0 3 = some (if inR a 0 3 then 1 else 0) := wi_if a 0 3
theorem w_5 (a : Int32) : f_X7_within a 0 5 = some (if inR a 0 5 then 1 else 0) := wi_if a 0 5
theorem w_9 (a : Int32) : f_X7_within a 0 9 = some (if inR a 0 9 then 1 else 0) := wi_if a 0 9
theorem w_16 (a : Int32) : f_X7_within a 0 16 = some (if inR a 0 16 then 1 else 0) := wi_if a 0 16
theorem w_23 (a : Int32) : f_X7_within a 0 23 = some (if inR a 0 23 then 1 else 0) := wi_if a 0 23
theorem w_24 (a : Int32) : f_X7_within a 0 24 = some (if inR a 0 24 then 1 else 0) := wi_if a 0 24
theorem w_40 (a : Int32) : f_X7_within a 0 40 = some (if inR a 0 40 then 1 else 0) := wi_if a 0 40
theorem w_255 (a : Int32) : f_X7_within a 0 255 = some (if inR a 0 255 then 1 else 0) := wi_if a 0 255
theorem w_540 (a : Int32) : f_X7_within a 5 40 = some (if inR a 5 40 then 1 else 0) := wi_if a 5 40
theorem w_320 (a : Int32) : f_X7_within a 3 20 = some (if inR a 3 20 then 1 else 0) := wi_if a 3 20
theorem w_m1 (a : Int32) : f_X7_within a (-1) 1 = some (if ¬ a < -1 ∧ ¬ (1 : Int32) < a then 1 else 0) := wi_if a (-1) 1
theorem v_1 (a : Int32) : f_X8_in a.toInt64 0 1 = some (if inR a 0 1 then 1 else 0) := mi_if a 0 1
theorem v_2 (a : Int32) : f_X8_in a.toInt64 0 2 = some (if inR a 0 2 then 1 else 0) := mi_if a 0 2
theorem v_3 (a : Int32) : f_X8_in a.toInt64 0 3 = some (if inR a 0 3 then 1 else 0) := mi_if a 0 3
theorem v_5 (a : Int32) : f_X8_in a.toInt64 0 5 = some (if inR a 0 5 then 1 else 0) := mi_if a 0 5
theorem v_9 (a : Int32) : f_X8_in a.toInt64 0 9 = some (if inR a 0 9 then 1 else 0) := mi_if a 0 9
theorem v_16 (a : Int32) : f_X8_in a.toInt64 0 16 = some (if inR a 0 16 then 1 else 0) := mi_if a 0 16
theorem v_23 (a : Int32) : f_X8_in a.toInt64 0 23 = some (if inR a 0 23 then 1 else 0) := mi_if a 0 23
theorem v_24 (a : Int32) : f_X8_in a.toInt64 0 24 = some (if inR a 0 24 then 1 else 0) := mi_if a 0 24
theorem v_40 (a : Int32) : f_X8_in a.toInt64 0 40 = some (if inR a 0 40 then 1 else 0) := mi_if a 0 40
theorem v_255 (a : Int32) : f_X8_in a.toInt64 0 255 = some (if inR a 0 255 then 1 else 0) := mi_if a 0 255
theorem v_540 (a : Int32) : f_X8_in a.toInt64 5 40 = some (if inR a 5 40 then 1 else 0) := mi_if a 5 40
theorem v_320 (a : Int32) : f_X8_in a.toInt64 3 20 = some (if inR a 3 20 then 1 else 0) := mi_if a 3 20
theorem v_m1 (a : Int32) : f_X8_in a.toInt64 (-1) 1 = some (if ¬ a < -1 ∧ ¬ (1 : Int32) < a then 1 else 0) := mi_if a (-1) 1
theorem cb_eq (a : Int32) : f_X7_isBeat a = some (if inR a 0 23 then 1 else 0) := by unfold f_X7_isBeat; rw [w_23]; exact b01
theorem cs_eq (a : Int32) : f_X7_isSheet a = some (if inR a 0 3 then 1 else 0) := by unfold f_X7_isSheet; rw [w_3]; exact b01
theorem cf_eq (a : Int32) : f_X7_isForm a = some (if inR a 0 2 then 1 else 0) := by unfold f_X7_isForm; rw [w_2]; exact b01
theorem mb_eq (a : Int32) : f_X8_isBeat a = some (if inR a 0 23 then 1 else 0) := by unfold f_X8_isBeat; rw [v_23]; exact b01
theorem ms_eq (a : Int32) : f_X8_isSheet a = some (if inR a 0 3 then 1 else 0) := by unfold f_X8_isSheet; rw [v_3]; exact b01
theorem mt_eq (a : Int32) : f_X8_isTwo a = some (if inR a 0 1 then 1 else 0) := by unfold f_X8_isTwo; rw [v_1]; exact b01
theorem ok_w {α : Type} {c : Prop} [Decidable c] {A B : Option α} {P : α → Prop} (h1 : c → Ok B P) (h2 : ¬ c → Ok A P) : Ok (if (if c then (1 : Int32) else 0) = 0 then A else B) P := by
  by_cases h : c
  · rw [if_pos h, if_neg one_ne]; exact h1 h
  · rw [if_neg h, if_pos rfl]; exact h2 h
theorem fi_congr {p q : Nat → Bool} : ∀ l : List Nat, (∀ a ∈ l, p a = q a) → l.find? p = l.find? q
  | [], _ => rfl
  | a :: l, h => by
    rw [List.find?_cons, List.find?_cons, h a List.mem_cons_self, fi_congr l (fun b hb => h b (List.mem_cons_of_mem _ hb))]
theorem wkR_congr {sz : Nat} {w w' : Nat → Int32} (h : ∀ j, j < sz → w j = w' j) : wkR sz w = wkR sz w' := by
  have e : wkF sz w = wkF sz w' := fi_congr _ (fun a ha => by rw [h a (List.mem_range.mp ha)])
  unfold wkR
  rw [e]
theorem rtF_congr {sz : Nat} {w w' : Nat → Int32} (h : ∀ j, j < sz → w j = w' j) : rtF sz w = rtF sz w' := fi_congr _ (fun a ha => by rw [h a (List.mem_range.mp ha)])
theorem rtR_congr {sz : Nat} {w w' : Nat → Int32} (h : ∀ j, j < sz → w j = w' j) : rtR sz w = rtR sz w' := by
  unfold rtR
  rw [rtF_congr h]
theorem rtV_congr {sz : Nat} {w w' : Nat → Int32} (h : ∀ j, j < sz → w j = w' j) (z : Nat) : rtV sz w z = rtV sz w' z := by
  unfold rtV
  rw [rtF_congr h]
  by_cases hz : z < sz
  · rw [h z hz]
  · rw [if_neg hz, if_neg hz]
def tx0 (m : Hp) : Nat := (m.1 74 0).toNatClampNeg
def tx1 (m : Hp) : Nat := (m.1 74 1).toNatClampNeg
def nEv (m : Hp) : Nat := (m.1 68 12).toNatClampNeg
def nSg (m : Hp) : Nat := (m.1 68 29).toNatClampNeg
def sSz (m : Hp) (s : Nat) : Nat := (m.1 70 s).toNatClampNeg
def rT (m : Hp) (j : Nat) : Int32 := m.1 73 (24 + j)
def nWk (m : Hp) : Nat := if wkR (tx0 m) (m.1 73) = -1 then (tx0 m + 1) / 4 else 0
/-- what a show goes by -/
def inp (m : Hp) : Inp := (nWk m, fun k => wkO 0 (m.1 73 (4 * k)), fun k => wkO 1 (m.1 73 (4 * k + 1)), fun k => wkO 2 (m.1 73 (4 * k + 2)), rtV (tx1 m) (rT m), nEv m, fun e => m.1 78 (3 * e), fun e => m.1 78 (3 * e + 1), fun e => m.1 78 (3 * e + 2), 0, m.1 77 0, m.1 77 1, m.1 77 2)
/-- what always holds of the state -/
def MOK (m : Hp) : Prop := (tx0 m ≤ 23 ∧ m.1 74 0 = nI (tx0 m)) ∧ (tx1 m ≤ 24 ∧ m.1 74 1 = nI (tx1 m)) ∧ (nEv m ≤ 8 ∧ m.1 68 12 = nI (nEv m) ∧ ∀ e, e < nEv m → (∃ z, z < 3 ∧ m.1 78 (3 * e) = nI z) ∧ (∃ z, z < 24 ∧ m.1 78 (3 * e + 1) = nI z) ∧ ∃ z, z < 6 ∧ m.1 78 (3 * e + 2) = nI z) ∧ ((∃ z, 5 ≤ z ∧ z ≤ 40 ∧ m.1 77 0 = nI z) ∧ (∃ z, z < 10 ∧ m.1 77 1 = nI z) ∧ ∃ z, 3 ≤ z ∧ z ≤ 20 ∧ m.1 77 2 = nI z) ∧ m.1 68 14 = 0 ∧ (nSg m ≤ 8 ∧ m.1 68 29 = nI (nSg m) ∧ ∀ j, j < nSg m → (∃ z, z < 24 ∧ m.1 91 (3 * j) = nI z) ∧ (∃ z, z < 6 ∧ m.1 91 (3 * j + 1) = nI z) ∧ ∃ z, z < 4 ∧ m.1 91 (3 * j + 2) = nI z) ∧ ∀ s, s < 4 → (m.1 69 s = -1 ∨ ∃ z, z < 3 ∧ m.1 69 s = nI z) ∧ sSz m s ≤ 60 ∧ m.1 70 s = nI (sSz m s)
/-- the reference's own cells hold it -/
def PK (m h : Hp) : Prop := h.1 73 = m.1 73 ∧ h.1 74 = m.1 74 ∧ h.1 77 = m.1 77 ∧ h.1 78 = m.1 78 ∧ h.1 91 = m.1 91 ∧ h.1 69 = m.1 69 ∧ h.1 70 = m.1 70 ∧ h.1 71 = m.1 71 ∧ h.1 68 4 = m.1 68 4 ∧ h.1 68 12 = m.1 68 12 ∧ h.1 68 14 = m.1 68 14 ∧ h.1 68 29 = m.1 68 29
def TX (m h : Hp) : Prop := h.1 1 1 = m.1 74 0 ∧ h.1 3 1 = m.1 74 1 ∧ (∀ j, j < tx0 m → h.1 2 j = m.1 73 j) ∧ ∀ j, j < tx1 m → h.1 4 j = rT m j
def SG (m h : Hp) : Prop := h.1 13 3 = m.1 68 29 ∧ ∀ j, j < nSg m → h.1 14 j = m.1 91 (3 * j) ∧ h.1 15 j = m.1 91 (3 * j + 1) ∧ h.1 16 j = m.1 91 (3 * j + 2)
def ST (m h : Hp) : Prop := ∀ s, s < 4 → (m.1 69 s < 0 → ¬ h.1 (60 + 2 * s) 1 = 0) ∧ (¬ m.1 69 s < 0 → h.1 (60 + 2 * s) 1 = 0 ∧ h.1 (60 + 2 * s) 2 = m.1 69 s ∧ h.1 (60 + 2 * s) 3 = m.1 70 s ∧ ∀ j, j < sSz m s → h.1 (60 + 2 * s + 1) j = m.1 71 (60 * s + j))
def SH (i : Inp) (h : Hp) : Prop := RC i 17 h (runF i 24).1.1 (runF i 24).1.2.1 (runF i 24).1.2.2 ∧ LG i 17 h 24
def wWo (i : Inp) (w : Int32) : Inp := (iN i, iSt i, iSo i, iPo i, iMv i, iNe i, iEk i, iEb i, iEn i, w, iLen i, iSla i, iLim i)
def OD (i : Inp) (h : Hp) : Prop := ∀ z, z < 2 ^ iNe i → ∀ k, k < iN i → ((h.1 56 z >>> (nI k &&& 31)) &&& 1 = 1 ↔ wst ((runF (wWo i (nI z ^^^ -1)) 24).1.1 k) = 2)
/-- the class's cells hold it -/
def CR (m h : Hp) : Prop := TX m h ∧ TI (inp m) 9 h ∧ SG m h ∧ ST m h ∧ h.1 0 15 = m.1 68 4 ∧ (h.1 0 11 = 0 ∨ SH (inp m) h) ∧ (h.1 0 12 = 0 ∨ OD (inp m) h)
def Inv (h : Hp) : Prop := ∃ m, MOK m ∧ CR m h ∧ PK m h
theorem PK.ke {m h h' : Hp} (p : PK m h) (g : ∀ c, 68 ≤ c → h'.1 c = h.1 c) : PK m h' := by
  obtain ⟨p1, p2, p3, p4, p5, p6, p7, p8, p9, p10, p11, p12⟩ := p
  exact ⟨(g 73 (by decide)).trans p1, (g 74 (by decide)).trans p2, (g 77 (by decide)).trans p3, (g 78 (by decide)).trans p4, (g 91 (by decide)).trans p5, (g 69 (by decide)).trans p6, (g 70 (by decide)).trans p7, (g 71 (by decide)).trans p8, by rw [g 68 (by decide)]; exact p9, by rw [g 68 (by decide)]; exact p10, by rw [g 68 (by decide)]; exact p11, by rw [g 68 (by decide)]; exact p12⟩
theorem PK.fr {m h h' : Hp} (p : PK m h) (f : FI 0 68 h h') : PK m h' := p.ke (fun c hc => (f c (by omega)).1)
/-- what the class may change without anybody seeing it -/
def KC (h h' : Hp) : Prop := (∀ c, 0 < c → c < 36 → h'.1 c = h.1 c) ∧ h'.1 56 = h.1 56 ∧ (∀ c, 60 ≤ c → c < 68 → h'.1 c = h.1 c) ∧ h'.1 0 11 = h.1 0 11 ∧ h'.1 0 12 = h.1 0 12 ∧ h'.1 0 15 = h.1 0 15
theorem KC.rf {h : Hp} : KC h h := ⟨fun _ _ _ => rfl, rfl, fun _ _ _ => rfl, rfl, rfl, rfl⟩
theorem KC.tr {h h1 h2 : Hp} (a : KC h h1) (b : KC h1 h2) : KC h h2 := ⟨fun c q r => (b.1 c q r).trans (a.1 c q r), b.2.1.trans a.2.1, fun c q r => (b.2.2.1 c q r).trans (a.2.2.1 c q r), b.2.2.2.1.trans a.2.2.2.1, b.2.2.2.2.1.trans a.2.2.2.2.1, b.2.2.2.2.2.trans a.2.2.2.2.2⟩
theorem kc_fi {h h' : Hp} (f : FI 36 55 h h') : KC h h' := ⟨fun c q r => (f c (by omega)).1, (f 56 (by decide)).1, fun c q r => (f c (by omega)).1, by rw [(f 0 (by decide)).1], by rw [(f 0 (by decide)).1], by rw [(f 0 (by decide)).1]⟩
theorem kc_fm {h h' : Hp} (f : FI 68 93 h h') : KC h h' := ⟨fun c q r => (f c (by omega)).1, (f 56 (by decide)).1, fun c q r => (f c (by omega)).1, by rw [(f 0 (by decide)).1], by rw [(f 0 (by decide)).1], by rw [(f 0 (by decide)).1]⟩
theorem TI.ke {i : Inp} {mc : Nat} {h h' : Hp} (t : TI i mc h) (g : ∀ c, 5 ≤ c → c < 13 → h'.1 c = h.1 c) (g2 : h'.1 mc = h.1 mc) : TI i mc h' := by
  obtain ⟨t1, t2, t3, t4, t5, t6, t7, t8⟩ := t
  refine ⟨by rw [g 5 (by decide) (by decide)]; exact t1, by rw [g 5 (by decide) (by decide)]; exact t2, by rw [g 5 (by decide) (by decide)]; exact t3, by rw [g 5 (by decide) (by decide)]; exact t4, by rw [g 5 (by decide) (by decide)]; exact t5, fun k hk => ?_, fun j hj => by rw [g2]; exact t7 j hj, fun e he => ?_⟩
  · rw [g 6 (by decide) (by decide), g 7 (by decide) (by decide), g 8 (by decide) (by decide)]; exact t6 k hk
  · rw [g 10 (by decide) (by decide), g 11 (by decide) (by decide), g 12 (by decide) (by decide)]; exact t8 e he
theorem SH.ke {i : Inp} {h h' : Hp} (s : SH i h) (g : ∀ c, 17 ≤ c → c < 36 → h'.1 c = h.1 c) : SH i h' := by
  obtain ⟨⟨r1, r2, r3, r4, r5, r6⟩, l⟩ := s
  refine ⟨⟨fun k hk => ?_, by rw [g 17 (by decide) (by decide)]; exact r2, fun j hj => by rw [g (17 + 18) (by decide) (by decide)]; exact r3 j hj, by rw [g 17 (by decide) (by decide)]; exact r4, by rw [g 17 (by decide) (by decide)]; exact r5, by rw [g 17 (by decide) (by decide)]; exact r6⟩, fun c hc => ⟨fun k hk => ?_, ?_⟩⟩
  · rw [g (17 + 10) (by decide) (by decide), g (17 + 11) (by decide) (by decide), g (17 + 12) (by decide) (by decide), g (17 + 13) (by decide) (by decide), g (17 + 15) (by decide) (by decide), g (17 + 16) (by decide) (by decide), g (17 + 17) (by decide) (by decide)]
    exact r1 k hk
  · rw [g (17 + 6) (by decide) (by decide), g (17 + 7) (by decide) (by decide), g (17 + 8) (by decide) (by decide)]
    exact (l c hc).1 k hk
  · rw [g (17 + 9) (by decide) (by decide)]
    exact (l c hc).2
theorem TX.ke {m h h' : Hp} (t : TX m h) (g : ∀ c, 0 < c → c < 5 → h'.1 c = h.1 c) : TX m h' := by
  obtain ⟨t1, t2, t3, t4⟩ := t
  exact ⟨by rw [g 1 (by decide) (by decide)]; exact t1, by rw [g 3 (by decide) (by decide)]; exact t2, fun j hj => by rw [g 2 (by decide) (by decide)]; exact t3 j hj, fun j hj => by rw [g 4 (by decide) (by decide)]; exact t4 j hj⟩
theorem SG.ke {m h h' : Hp} (t : SG m h) (g : ∀ c, 13 ≤ c → c < 17 → h'.1 c = h.1 c) : SG m h' := by
  obtain ⟨t1, t2⟩ := t
  exact ⟨by rw [g 13 (by decide) (by decide)]; exact t1, fun j hj => by rw [g 14 (by decide) (by decide), g 15 (by decide) (by decide), g 16 (by decide) (by decide)]; exact t2 j hj⟩
theorem ST.ke {m h h' : Hp} (t : ST m h) (g : ∀ c, 60 ≤ c → c < 68 → h'.1 c = h.1 c) : ST m h' := fun s hs => by
  rw [g (60 + 2 * s) (by omega) (by omega), g (60 + 2 * s + 1) (by omega) (by omega)]
  exact t s hs
theorem CR.kc {m h h' : Hp} (c : CR m h) (k : KC h h') : CR m h' := by
  obtain ⟨c1, c2, c3, c4, c5, c6, c7⟩ := c
  obtain ⟨k1, k2, k3, k4, k5, k6⟩ := k
  refine ⟨c1.ke (fun c q r => k1 c q (by omega)), c2.ke (fun c q r => k1 c (by omega) (by omega)) (k1 9 (by decide) (by decide)), c3.ke (fun c q r => k1 c (by omega) (by omega)), c4.ke k3, by rw [k6]; exact c5, ?_, ?_⟩
  · rw [k4]
    exact c6.imp id (fun s => s.ke (fun c q r => k1 c (by omega) (by omega)))
  · rw [k5]
    exact c7.imp id (fun s z hz k hk => by rw [k2]; exact s z hz k hk)
def Step {α : Type} (oc : Option (Hp × α)) (om : Hp → Option (Hp × α)) : Prop := ∃ h1 x h2, oc = some (h1, x) ∧ om h1 = some (h2, x) ∧ Inv h2
theorem comb2 {α : Type} {h m m' : Hp} {oc : Option (Hp × α)} {om : Hp → Option (Hp × α)} {v : α} (hP : PK m h) (hM : MOK m') (hc : Ok oc (fun u => u.2 = v ∧ CR m' u.1 ∧ ∀ c, 68 ≤ c → u.1.1 c = h.1 c)) (hm : ∀ h1, PK m h1 → Ok (om h1) (fun u => u.2 = v ∧ PK m' u.1)) (fm : ∀ h1, FO 68 93 h1 (fun u => u.1) (om h1)) : Step oc om := by
  obtain ⟨⟨h1, x⟩, e1, e2, e3, e4⟩ := hc
  have p1 : PK m h1 := hP.ke e4
  obtain ⟨⟨h2, y⟩, d1, d2, d3⟩ := hm h1 p1
  have f2 : FI 68 93 h1 h2 := fm h1 (h2, y) d1
  have exy : x = y := Eq.trans e2 (Eq.symm d2)
  exact ⟨h1, x, h2, e1, by rw [d1, exy], m', hM, e3.kc (kc_fm f2), d3⟩
theorem comb {α : Type} {h m m' : Hp} {oc : Option (Hp × α)} {om : Hp → Option (Hp × α)} {v : α} (hP : PK m h) (hM : MOK m') (hc : Ok oc (fun u => u.2 = v ∧ CR m' u.1)) (fc : FO 0 68 h (fun u => u.1) oc) (hm : ∀ h1, PK m h1 → Ok (om h1) (fun u => u.2 = v ∧ PK m' u.1)) (fm : ∀ h1, FO 68 93 h1 (fun u => u.1) (om h1)) : Step oc om := by
  obtain ⟨u, e1, e2, e3⟩ := hc
  exact comb2 hP hM ⟨u, e1, e2, e3, fun c hc => (fc u e1 c (by omega)).1⟩ hm fm
/-- the class's call leaves all as it is -/
def StepR {α : Type} (h : Hp) (oc : Option α) (om : Option (Hp × α)) : Prop := ∃ x h2, oc = some x ∧ om = some (h2, x) ∧ Inv h2
theorem combR {α : Type} {h m : Hp} {oc : Option α} {om : Option (Hp × α)} {v : α} (hM : MOK m) (C : CR m h) (hc : Ok oc (fun x => x = v)) (hm : Ok om (fun u => u.2 = v ∧ PK m u.1)) (fm : FO 68 93 h (fun u => u.1) om) : StepR h oc om := by
  obtain ⟨x, e1, e2⟩ := hc
  obtain ⟨⟨h2, y⟩, d1, d2, d3⟩ := hm
  have f2 : FI 68 93 h h2 := fm (h2, y) d1
  have exy : x = y := Eq.trans e2 (Eq.symm d2)
  exact ⟨x, h2, e1, by rw [d1, exy], m, hM, C.kc (kc_fm f2), d3⟩
