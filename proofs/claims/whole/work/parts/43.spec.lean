/-! a show, as mathematics: what each walker is, beat by beat -/
abbrev WS : Type := Int32 × Int32 × Int32 × Int32 × Nat × Int32 × Int32 × Int32
def wst (w : WS) : Int32 := w.1
def wpl (w : WS) : Int32 := w.2.1
def wle (w : WS) : Int32 := w.2.2.1
def wpo (w : WS) : Int32 := w.2.2.2.1
def wow (w : WS) : Nat := w.2.2.2.2.1
def wen (w : WS) : Int32 := w.2.2.2.2.2.1
def wbl (w : WS) : Int32 := w.2.2.2.2.2.2.1
def wfa (w : WS) : Int32 := w.2.2.2.2.2.2.2
abbrev SS : Type := (Nat → WS) × Int32 × List Nat
abbrev Inp : Type := Nat × (Nat → Int32) × (Nat → Int32) × (Nat → Int32) × (Nat → Int32) × Nat × (Nat → Int32) × (Nat → Int32) × (Nat → Int32) × Int32 × Int32 × Int32 × Int32
def iN (i : Inp) : Nat := i.1
def iSt (i : Inp) : Nat → Int32 := i.2.1
def iSo (i : Inp) : Nat → Int32 := i.2.2.1
def iPo (i : Inp) : Nat → Int32 := i.2.2.2.1
def iMv (i : Inp) : Nat → Int32 := i.2.2.2.2.1
def iNe (i : Inp) : Nat := i.2.2.2.2.2.1
def iEk (i : Inp) : Nat → Int32 := i.2.2.2.2.2.2.1
def iEb (i : Inp) : Nat → Int32 := i.2.2.2.2.2.2.2.1
def iEn (i : Inp) : Nat → Int32 := i.2.2.2.2.2.2.2.2.1
def iWo (i : Inp) : Int32 := i.2.2.2.2.2.2.2.2.2.1
def iLen (i : Inp) : Int32 := i.2.2.2.2.2.2.2.2.2.2.1
def iSla (i : Inp) : Int32 := i.2.2.2.2.2.2.2.2.2.2.2.1
def iLim (i : Inp) : Int32 := i.2.2.2.2.2.2.2.2.2.2.2.2
/-- what may be told -/
def InOk (i : Inp) : Prop := iN i ≤ 6 ∧ iNe i ≤ 8 ∧ (∀ e, e < iNe i → (∃ z, z < 3 ∧ iEk i e = nI z) ∧ (∃ z, z < 24 ∧ iEb i e = nI z) ∧ ∃ z, z < 6 ∧ iEn i e = nI z) ∧ (∃ z, 5 ≤ z ∧ z ≤ 40 ∧ iLen i = nI z) ∧ (∃ z, z < 10 ∧ iSla i = nI z) ∧ (∃ z, 3 ≤ z ∧ z ≤ 20 ∧ iLim i = nI z) ∧ (∀ k, k < iN i → (∃ z, z < 24 ∧ iSt i k = nI z) ∧ (∃ z, z < 3 ∧ iSo i k = nI z) ∧ ∃ z, z < 10 ∧ iPo i k = nI z) ∧ ∀ j, j < 24 → ∃ z, z < 4 ∧ iMv i j = nI z
def inB (x : Int32) (k : Nat) : Prop := (x >>> (nI k &&& 31)) &&& 1 = 1
/-- event e is done in beat b -/
def eff (i : Inp) (b e : Nat) : Prop := (iWo i >>> (nI e &&& 31)) &&& 1 = 0 ∧ iEb i e = nI b
noncomputable section SPEC
def gustN (i : Inp) (b : Nat) : Nat → Int32
  | 0 => 0
  | e + 1 => if (iWo i >>> (nI e &&& 31)) &&& 1 = 0 then (if iEb i e = nI b then (if iEk i e = 0 then (if iEn i e - iEn i e / 2 * 2 = 1 then gustN i b e + 3 else gustN i b e + (-3)) else gustN i b e) else gustN i b e) else gustN i b e
def cheerN (i : Inp) (b : Nat) : Nat → Int32
  | 0 => 0
  | e + 1 => if (iWo i >>> (nI e &&& 31)) &&& 1 = 0 then (if iEb i e = nI b then (if iEk i e = 0 then cheerN i b e else if iEk i e = 1 then cheerN i b e else 1) else cheerN i b e) else cheerN i b e
def dropN (i : Inp) (b : Nat) : Nat → Int32
  | 0 => 0
  | e + 1 => if (iWo i >>> (nI e &&& 31)) &&& 1 = 0 then (if iEb i e = nI b then (if iEk i e = 0 then dropN i b e else if iEk i e = 1 then dropN i b e ||| ((1 : Int32) <<< (iEn i e &&& 31)) else dropN i b e) else dropN i b e) else dropN i b e
def sgn (v : Int32) : Int32 := if v ≤ 0 then (if 0 ≤ v then 0 else -1) else 1
def sGone (i : Inp) (cheer ahead : Int32) (k : Nat) (w : WS) : Int32 := jmin (wpl w + 1 + (if iSo i k = 1 then 1 else 0) + cheer) (jmin (iLen i) (ahead - 1)) - wpl w
def sGo (i : Inp) (cheer ahead : Int32) (k : Nat) (w : WS) : Int32 := if iMv i (wow w) = 0 then sGone i cheer ahead k w else 0
def sPl (i : Inp) (cheer ahead : Int32) (k : Nat) (w : WS) : Int32 := if iMv i (wow w) = 0 then wpl w + sGone i cheer ahead k w else wpl w
def sBl (i : Inp) (cheer ahead : Int32) (k : Nat) (w : WS) : Int32 := if iMv i (wow w) = 0 then wbl w + (if sGone i cheer ahead k w = 0 then 1 else 0) else wbl w
def sBy (i : Inp) (k : Nat) (w : WS) : Int32 := 1 + wpo w / 3 + (if iSo i k = 2 then 1 else 0)
def sL1 (i : Inp) (cheer push ahead : Int32) (k : Nat) (w : WS) : Int32 := if iMv i (wow w) = 0 then wle w + push + (if iSo i k = 1 then sGone i cheer ahead k w else 0) else if iMv i (wow w) = 1 then wle w + push - sgn (wle w + push) else wle w + push + (if iMv i (wow w) = 3 then sBy i k w else 0 - sBy i k w)
def nw (B x : Int32) : Int32 := if x ≤ B then (if 0 - B ≤ x then x + 0 else x + (-1)) else x + 1
def sL2 (i : Inp) (cheer push ahead : Int32) (k : Nat) (w : WS) : Int32 := nw (if iSo i k = 0 then 2 else 0) (sL1 i cheer push ahead k w)
/-- pl: the place behind, l2: how one leans behind what was done; then what one is -/
def stl (i : Inp) (b : Nat) (pl l2 : Int32) (w : WS) (bl : Int32) : WS := if pl < iLen i then (if jabs l2 < iLim i then (1, pl, l2, wpo w, wow w + 1, wen w, bl, jmax (wfa w) (jabs l2)) else (3, pl, l2, wpo w, wow w + 1, nI b, bl, jmax (wfa w) (jabs l2))) else (2, pl, 0, wpo w, wow w + 1, nI b, bl, jmax (wfa w) (jabs 0))
def stepW (i : Inp) (b : Nat) (cheer push ahead : Int32) (k : Nat) (w : WS) : WS := stl i b (sPl i cheer ahead k w) (sL2 i cheer push ahead k w) w (sBl i cheer ahead k w)
def lineF (i : Inp) (b : Nat) (cheer push : Int32) : List Nat → (Nat → WS) × Int32 × Int32 → (Nat → WS) × Int32 × Int32
  | [], s => s
  | k :: l, s => if wst (s.1 k) = 1 then lineF i b cheer push l (va_up s.1 k (stepW i b cheer push s.2.2 k (s.1 k)), s.2.1 + sGo i cheer s.2.2 k (s.1 k), if wst (stepW i b cheer push s.2.2 k (s.1 k)) = 1 then wpl (stepW i b cheer push s.2.2 k (s.1 k)) else s.2.2) else lineF i b cheer push l s
def swayF (i : Inp) (b : Nat) (moved : Int32) : Int32 := if moved = 0 then 0 else if b % 2 = 0 then iSla i / 2 else 0 - iSla i / 2
def dropF (i : Inp) (b : Nat) (ws : Nat → WS) (k : Nat) : WS := if (dropN i b (iNe i) >>> (nI k &&& 31)) &&& 1 = 1 then (wst (ws k), wpl (ws k), wle (ws k), 0, wow (ws k), wen (ws k), wbl (ws k), wfa (ws k)) else ws k
def readyF (i : Inp) (b : Nat) (ws : Nat → WS) (k : Nat) : Bool := decide (wst (ws k) = 0 ∧ ¬ nI b < iSt i k)
def startF (i : Inp) (b : Nat) (ws : Nat → WS) : Option Nat := (List.range (iN i)).find? (readyF i b ws)
def onW (w : WS) : WS := (1, 0, wle w, wpo w, 0, wen w, wbl w, wfa w)
def beatF (i : Inp) (b : Nat) (moved : Int32) (s : SS) : SS :=
  let r := lineF i b (cheerN i b (iNe i)) (gustN i b (iNe i) + swayF i b moved) s.2.2 (dropF i b s.1, s.2.1, 1000)
  if r.2.2 ≤ 0 then (r.1, r.2.1, s.2.2) else match startF i b r.1 with
    | none => (r.1, r.2.1, s.2.2)
    | some k => (va_up r.1 k (onW (r.1 k)), r.2.1, s.2.2 ++ [k])
def ini (i : Inp) : Nat → WS := fun k => (0, -1, 0, iPo i k, 0, -1, 0, 0)
def runF (i : Inp) : Nat → SS × Int32
  | 0 => ((ini i, 0, []), 0)
  | b + 1 => (beatF i b (runF i b).2 (runF i b).1, if (beatF i b (runF i b).2 (runF i b).1).2.1 ≤ (runF i b).1.2.1 then 0 else 1)
def cntW (n : Nat) (ws : Nat → WS) (v : Int32) : Nat := ((List.range n).filter (fun k => decide (wst (ws k) = v))).length
end SPEC
/-- what always holds of the line -/
def SI (i : Inp) (ws : Nat → WS) (line : List Nat) : Prop := line.Nodup ∧ (∀ k ∈ line, k < iN i) ∧ (∀ k, k < iN i → (k ∈ line ↔ wst (ws k) ≠ 0)) ∧ ∀ k, k < iN i → (wst (ws k) = 0 ∨ wst (ws k) = 1 ∨ wst (ws k) = 2 ∨ wst (ws k) = 3)
theorem nodup_lt : ∀ (n : Nat) {l : List Nat} (_ : l.Nodup) (_ : ∀ k ∈ l, k < n), l.length ≤ n
  | 0, [], _, _ => Nat.le_refl _
  | 0, a :: l, _, hl => absurd (hl a List.mem_cons_self) (Nat.not_lt_zero a)
  | n + 1, l, h, hl => by
    by_cases hn : n ∈ l
    · have h1 := nodup_lt n (l := l.erase n) (h.erase n) (fun k hk => by
        have hm := (List.Nodup.mem_erase_iff h).mp hk
        have := hl k hm.2
        have := hm.1
        omega)
      rw [List.length_erase_of_mem hn] at h1
      omega
    · have h1 := nodup_lt n h (fun k hk => by
        have := hl k hk
        have : k ≠ n := fun q => hn (q ▸ hk)
        omega)
      omega
