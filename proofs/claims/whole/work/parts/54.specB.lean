/-! bounds, and what a turn keeps -/
def bd (x : Int32) (A : Int) : Prop := -A ≤ x.toInt ∧ x.toInt ≤ A
theorem bd_add {x y : Int32} {A B : Int} (h1 : bd x A) (h2 : bd y B) (h : A + B < 2147483648) : bd (x + y) (A + B) := by
  unfold bd at *
  rw [Int32.toInt_add, Int.bmod_eq_of_le (by omega) (by omega)]
  omega
theorem bd_sub {x y : Int32} {A B : Int} (h1 : bd x A) (h2 : bd y B) (h : A + B < 2147483648) : bd (x - y) (A + B) := by
  unfold bd at *
  rw [Int32.toInt_sub, Int.bmod_eq_of_le (by omega) (by omega)]
  omega
theorem bd_mo {x : Int32} {A B : Int} (h1 : bd x A) (h : A ≤ B) : bd x B := by
  unfold bd at *; omega
theorem bd_nI {n : Nat} {A : Int} (h : (n : Int) ≤ A) (hn : n < 2 ^ 31) : bd (nI n) A := by
  unfold bd; rw [nI_toInt hn]; omega
theorem bd_sgn (x : Int32) : bd (sgn x) 1 := by
  unfold sgn
  split
  · split <;> (unfold bd; decide)
  · unfold bd; decide
theorem bd_gust (i : Inp) (b : Nat) : ∀ e, e ≤ 8 → bd (gustN i b e) (3 * e)
  | 0, _ => by show bd (0 : Int32) _; unfold bd; decide
  | e + 1, he => by
    have ih := bd_gust i b e (by omega)
    have i3 : bd (3 : Int32) 3 := by unfold bd; decide
    have im3 : bd (-3 : Int32) 3 := by unfold bd; decide
    have up : bd (gustN i b e) (3 * ((e + 1 : Nat) : Int)) := bd_mo ih (by omega)
    rw [gustN]
    split
    · split
      · split
        · split
          · exact bd_mo (bd_add ih i3 (by omega)) (by omega)
          · exact bd_mo (bd_add ih im3 (by omega)) (by omega)
        · exact up
      · exact up
    · exact up
theorem bd_sway {i : Inp} (hI : InOk i) (b : Nat) (m : Int32) : bd (swayF i b m) 4 := by
  obtain ⟨z, hz, ez⟩ := hI.2.2.2.2.1
  have h2 : bd (iSla i / 2) 4 := by
    rw [ez]
    exact (show ∀ z, z < 10 → -(4 : Int) ≤ (nI z / 2).toInt ∧ (nI z / 2).toInt ≤ 4 by decide +kernel) z hz
  have h3 : bd (0 - iSla i / 2) 4 := by
    rw [ez]
    exact (show ∀ z, z < 10 → -(4 : Int) ≤ (0 - nI z / 2).toInt ∧ (0 - nI z / 2).toInt ≤ 4 by decide +kernel) z hz
  unfold swayF
  split
  · unfold bd; decide
  · split
    · exact h2
    · exact h3
theorem cheer_01 (i : Inp) (b : Nat) : ∀ e, ∃ c, c < 2 ∧ cheerN i b e = nI c
  | 0 => ⟨0, by decide, rfl⟩
  | e + 1 => by
    obtain ⟨c, hc, ec⟩ := cheer_01 i b e
    rw [cheerN, ec]
    split
    · split
      · split
        · exact ⟨c, hc, rfl⟩
        · split
          · exact ⟨c, hc, rfl⟩
          · exact ⟨1, by decide, rfl⟩
      · exact ⟨c, hc, rfl⟩
    · exact ⟨c, hc, rfl⟩
theorem jabs_bd {x : Int32} {z : Nat} (hx : -2147483648 < x.toInt) (h : jabs x < nI z) (hz : z ≤ 20) : bd x 20 := by
  unfold jabs at h
  have zt := nI_toInt (show z < 2 ^ 31 by omega)
  have z0 : (0 : Int32).toInt = 0 := by decide
  split at h
  · next c =>
    rw [Int32.lt_iff_toInt_lt, zt] at h
    rw [Int32.le_iff_toInt_le] at c
    unfold bd; omega
  · next c =>
    rw [Int32.le_iff_toInt_le] at c
    rw [Int32.lt_iff_toInt_lt, zt, Int32.toInt_sub, z0] at h
    have h1 := Int32.toInt_lt x
    rw [Int.bmod_eq_of_le (by omega) (by omega)] at h
    unfold bd; omega
/-- what a turn needs of the walker -/
def WO (i : Inp) (b : Nat) (w : WS) (p : Nat) : Prop := wpl w = nI p ∧ nI p < iLen i ∧ wow w + 1 ≤ b ∧ bd (wle w) 30 ∧ ∃ z, z < 10 ∧ wpo w = nI z
theorem step_pl {i : Inp} {k p c a L : Nat} {w : WS} (hI : InOk i) (h1 : wpl w = nI p) (hL : iLen i = nI L) (hL4 : L ≤ 40) (hpL : p < L) (hpa : p < a) (ha : a ≤ 1000) (hc : c < 2) : ∃ p', p ≤ p' ∧ p' ≤ L ∧ p' < a ∧ p' ≤ p + 3 ∧ sPl i (nI c) (nI a) k w = nI p' ∧ bd (sGo i (nI c) (nI a) k w) 3 ∧ bd (sGone i (nI c) (nI a) k w) 3 := by
  have hg := sGone_nI (i := i) (k := k) (w := w) h1 hL rfl hc hL4 hpL hpa ha rfl
  have m3 : 1 + (if iSo i k = 1 then 1 else 0) + c ≤ 3 := by split <;> omega
  generalize htt : min (p + (1 + (if iSo i k = 1 then 1 else 0) + c)) (min L (a - 1)) - p = tt at hg
  have b3 : bd (nI tt) 3 := bd_nI (by omega) (by omega)
  by_cases m0 : iMv i (wow w) = 0
  · refine ⟨p + tt, by omega, by omega, by omega, by omega, ?_, ?_, by rw [hg]; exact b3⟩
    · simp only [sPl, if_pos m0, hg, h1, nI_add]
    · simp only [sGo, if_pos m0, hg]; exact b3
  · refine ⟨p, by omega, by omega, by omega, by omega, ?_, ?_, by rw [hg]; exact b3⟩
    · simp only [sPl, if_neg m0, h1]
    · simp only [sGo, if_neg m0]; unfold bd; decide
theorem bd_L1 {i : Inp} {k : Nat} {cheer push ahead : Int32} {w : WS} (h1 : bd (wle w) 30) (h2 : bd push 28) (h3 : bd (sGone i cheer ahead k w) 3) (hp : ∃ z, z < 10 ∧ wpo w = nI z) : bd (sL1 i cheer push ahead k w) 70 := by
  have hle : bd (wle w + push) 58 := bd_add h1 h2 (by decide)
  obtain ⟨z, hz, ez⟩ := hp
  have hby : bd (sBy i k w) 5 ∧ bd (0 - sBy i k w) 5 := by
    unfold sBy
    rw [ez]
    by_cases q : iSo i k = 2
    · rw [if_pos q]
      exact (show ∀ z, z < 10 → (-(5 : Int) ≤ (1 + nI z / 3 + 1).toInt ∧ (1 + nI z / 3 + 1).toInt ≤ 5) ∧ (-(5 : Int) ≤ (0 - (1 + nI z / 3 + 1)).toInt ∧ (0 - (1 + nI z / 3 + 1)).toInt ≤ 5) by decide +kernel) z hz
    · rw [if_neg q]
      exact (show ∀ z, z < 10 → (-(5 : Int) ≤ (1 + nI z / 3 + 0).toInt ∧ (1 + nI z / 3 + 0).toInt ≤ 5) ∧ (-(5 : Int) ≤ (0 - (1 + nI z / 3 + 0)).toInt ∧ (0 - (1 + nI z / 3 + 0)).toInt ≤ 5) by decide +kernel) z hz
  have z0 : bd (0 : Int32) 5 := by unfold bd; decide
  unfold sL1
  split
  · split
    · exact bd_mo (bd_add hle h3 (by decide)) (by decide)
    · exact bd_mo (bd_add hle z0 (by decide)) (by decide)
  · split
    · exact bd_mo (bd_sub hle (bd_sgn _) (by decide)) (by decide)
    · split
      · exact bd_mo (bd_add hle hby.1 (by decide)) (by decide)
      · exact bd_mo (bd_add hle hby.2 (by decide)) (by decide)
theorem step_on {i : Inp} {b k p' : Nat} {cheer push ahead : Int32} {w : WS} (hI : InOk i) (hl1 : bd (sL1 i cheer push ahead k w) 70) (hp : sPl i cheer ahead k w = nI p') (hpo : ∃ z, z < 10 ∧ wpo w = nI z) (ho : wow w + 1 ≤ b) (h : wst (stepW i b cheer push ahead k w) = 1) : WO i (b + 1) (stepW i b cheer push ahead k w) p' := by
  obtain ⟨zl, h3, h20, el⟩ := hI.2.2.2.2.2.1
  have hl2 : bd (sL2 i cheer push ahead k w) 71 := by
    have y0 : bd (0 : Int32) 1 := by unfold bd; decide +kernel
    have y1 : bd (1 : Int32) 1 := by unfold bd; decide +kernel
    have y2 : bd (-1 : Int32) 1 := by unfold bd; decide +kernel
    unfold sL2
    generalize (if iSo i k = 0 then (2 : Int32) else 0) = B
    generalize sL1 i cheer push ahead k w = x at hl1
    unfold nw
    by_cases a : x ≤ B
    · rw [if_pos a]
      by_cases c : 0 - B ≤ x
      · rw [if_pos c]
        exact bd_add hl1 y0 (by decide)
      · rw [if_neg c]
        have z := bd_add hl1 y2 (show (70 : Int) + 1 < 2147483648 by decide)
        generalize (-1 : Int32) = v at z ⊢
        exact z
    · rw [if_neg a]
      exact bd_add hl1 y1 (by decide)
  have hpl : wpl (stepW i b cheer push ahead k w) = nI p' := (stl_pl _ _ _ _ _ _).trans hp
  have how : wow (stepW i b cheer push ahead k w) = wow w + 1 := stl_ow _ _ _ _ _ _
  have hpo' : wpo (stepW i b cheer push ahead k w) = wpo w := stl_po _ _ _ _ _ _
  unfold stepW stl at h
  refine ⟨hpl, ?_, by rw [how]; omega, ?_, by rw [hpo']; exact hpo⟩
  · by_cases c1 : sPl i cheer ahead k w < iLen i
    · rw [hp] at c1; exact c1
    · rw [if_neg c1] at h
      exact absurd h (by show ¬ (2 : Int32) = 1; decide)
  · by_cases c1 : sPl i cheer ahead k w < iLen i
    · rw [if_pos c1] at h
      by_cases c2 : jabs (sL2 i cheer push ahead k w) < iLim i
      · have e : wle (stepW i b cheer push ahead k w) = sL2 i cheer push ahead k w := by
          unfold stepW stl; rw [if_pos c1, if_pos c2]; rfl
        rw [e]
        rw [el] at c2
        exact bd_mo (jabs_bd (by unfold bd at hl2; omega) c2 h20) (by decide)
      · rw [if_neg c2] at h
        exact absurd h (by show ¬ (3 : Int32) = 1; decide)
    · rw [if_neg c1] at h
      exact absurd h (by show ¬ (2 : Int32) = 1; decide)
theorem jmax_same (x y : Int32) : jmax (jmax x y) y = jmax x y := by
  unfold jmax
  by_cases h : x < y
  · rw [if_pos h]
    split <;> rfl
  · rw [if_neg h, if_neg h]
theorem step_fa {i : Inp} {b k : Nat} {cheer push ahead : Int32} {w : WS} : wfa (stepW i b cheer push ahead k w) = jmax (wfa w) (jabs (wle (stepW i b cheer push ahead k w))) := by
  unfold stepW stl
  split
  · split <;> rfl
  · rfl
