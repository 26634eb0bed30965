def isNest : Cond → Bool
  | .fieldLinkNest _ _ _ _ _ _ => true
  | .methodLinkNest _ _ _ _ => true
  | _ => false
def isAC : Cond → Bool
  | .arrayClass _ => true
  | _ => false
def isAO : Cond → Bool
  | .arrayOver (.object _) => true
  | _ => false
def okw (w : Cond) : Bool := (w.onTables && w.keeps) || isNest w || isAC w || isAO w
def tb2 : List Cond := lw_tbl.filter okw
theorem m2 {w : Cond} (h : w ∈ lw_tbl) (ho : okw w = true) : w ∈ tb2 := List.mem_filter.mpr ⟨h, ho⟩
theorem wj_X0 : ∀ w ∈ wsX00, w ∈ tb2 := fun w hw => m2 (wi_X0 w hw) (List.all_eq_true.mp (show wsX00.all okw = true by decide +kernel) w hw)
theorem wj_X1 : ∀ w ∈ wsX10, w ∈ tb2 := fun w hw => m2 (wi_X1 w hw) (List.all_eq_true.mp (show wsX10.all okw = true by decide +kernel) w hw)
theorem wj_X2 : ∀ w ∈ wsX20, w ∈ tb2 := fun w hw => m2 (wi_X2 w hw) (List.all_eq_true.mp (show wsX20.all okw = true by decide +kernel) w hw)
theorem wj_X3 : ∀ w ∈ wsX30, w ∈ tb2 := fun w hw => m2 (wi_X3 w hw) (List.all_eq_true.mp (show wsX30.all okw = true by decide +kernel) w hw)
theorem wj_X4 : ∀ w ∈ wsX40, w ∈ tb2 := fun w hw => m2 (wi_X4 w hw) (List.all_eq_true.mp (show wsX40.all okw = true by decide +kernel) w hw)
theorem wj_X5 : ∀ w ∈ wsX50, w ∈ tb2 := fun w hw => m2 (wi_X5 w hw) (List.all_eq_true.mp (show wsX50.all okw = true by decide +kernel) w hw)
theorem wj_X6 : ∀ w ∈ wsX60, w ∈ tb2 := fun w hw => m2 (wi_X6 w hw) (List.all_eq_true.mp (show wsX60.all okw = true by decide +kernel) w hw)
theorem wj_X7 : ∀ w ∈ wsX70, w ∈ tb2 := fun w hw => m2 (wi_X7 w hw) (List.all_eq_true.mp (show wsX70.all okw = true by decide +kernel) w hw)
theorem wj_X8 : ∀ w ∈ wsX80, w ∈ tb2 := fun w hw => m2 (wi_X8 w hw) (List.all_eq_true.mp (show wsX80.all okw = true by decide +kernel) w hw)
/-! the world: 93 cells of a fixed shape; ints and longs of it are the heap's picture -/
abbrev Hp : Type := (Nat → Nat → Int32) × (Nat → Nat → Int64)
def skL : List Nat := [7, 4, 9, 4, 9, 5, 9, 9, 9, 9, 9, 9, 9, 3, 9, 9, 9, 2, 6, 9, 9, 9, 0, 9, 9, 9, 9, 9, 9, 9, 9, 9, 9, 9, 9, 9, 2, 6, 9, 9, 9, 0, 9, 9, 9, 9, 9, 9, 9, 9, 9, 9, 9, 9, 9, 9, 9, 10, 9, 11, 1, 9, 1, 9, 1, 9, 1, 9, 8, 9, 9, 9, 9, 9, 9, 9, 9, 9, 9, 9, 9, 9, 9, 9, 9, 9, 9, 9, 9, 9, 9, 9, 10]
def slL : List Nat := [0, 0, 23, 0, 24, 0, 6, 6, 6, 24, 8, 8, 8, 0, 8, 8, 8, 0, 0, 24, 24, 24, 0, 144, 144, 144, 24, 6, 6, 6, 6, 6, 6, 6, 6, 6, 0, 0, 24, 24, 24, 0, 144, 144, 144, 24, 6, 6, 6, 6, 6, 6, 6, 6, 6, 24, 256, 240, 2, 4, 0, 60, 0, 60, 0, 60, 0, 60, 0, 4, 4, 240, 60, 48, 2, 18, 24, 3, 24, 6, 6, 6, 6, 6, 6, 6, 6, 144, 144, 144, 24, 24, 240]
def srL : List (List Nat) := [[1, 3, 5, 13, 17, 36, 55, 56, 57, 58, 59, 0, 0, 0, 0, 0], [2, 0], [], [4, 0], [], [6, 7, 8, 9, 10, 11, 12, 0, 0, 0, 0, 0], [], [], [], [], [], [], [], [14, 15, 16, 0], [], [], [], [18, 22, 27, 28, 29, 30, 31, 32, 33, 34, 35, 0, 0, 0, 0], [19, 20, 21], [], [], [], [23, 24, 25, 26], [], [], [], [], [], [], [], [], [], [], [], [], [], [37, 41, 46, 47, 48, 49, 50, 51, 52, 53, 54, 0, 0, 0, 0], [38, 39, 40], [], [], [], [42, 43, 44, 45], [], [], [], [], [], [], [], [], [], [], [], [], [], [], [], [], [], [60, 62, 64, 66], [61, 0, 0, 0], [], [63, 0, 0, 0], [], [65, 0, 0, 0], [], [67, 0, 0, 0], [], [69, 70, 71, 72, 0, 73, 74, 0, 75, 0, 76, 77, 0, 78, 0, 79, 80, 81, 82, 83, 84, 85, 86, 87, 88, 89, 90, 0, 0, 0, 91, 92, 0], [], [], [], [], [], [], [], [], [], [], [], [], [], [], [], [], [], [], [], [], [], [], [], []]
def sk (k : Nat) : Nat := skL.getD k 99
def sl (k : Nat) : Nat := slL.getD k 0
def sr (k j : Nat) : Nat := (srL.getD k []).getD j 0
def nfL : List Nat := [4, 4, 15, 4, 2, 12, 3, 16, 33]
def nf (c : Nat) : Nat := nfL.getD c 0
def isRL : List (List Bool) := [[true, true, true, true], [true, false, false, false], [true, true, true, true, true, true, true, true, true, true, true, false, false, false, false], [true, true, true, false], [true, false], [true, true, true, true, true, true, true, false, false, false, false, false], [true, true, true], [true, true, true, true, true, true, true, true, true, true, true, false, false, false, false, false], [true, true, true, true, false, true, true, false, true, false, true, true, false, true, false, true, true, true, true, true, true, true, true, true, true, true, true, false, false, false, true, true, false]]
def isR (c j : Nat) : Bool := (isRL.getD c []).getD j false
abbrev C3 : Type := ClassId × ClassId × ClassId
def mv (ad : Nat → Nat) : Value → Value
  | .ref a => .ref (ad a)
  | v => v
def mp (ad : Nat → Nat) (q : Nat × Value) : Nat × Value := (q.1, mv ad q.2)
def fv (ad : Nat → Nat) (h : Hp) (k j : Nat) : Value := if isR (sk k) j = true then .ref (ad (sr k j)) else .int (h.1 k j)
def ce (ad : Nat → Nat) (cs : C3) (h : Hp) (k : Nat) : va_E :=
  if sk k = 9 then .inl (cs.1, sl k, .inl (h.1 k))
  else if sk k = 10 then .inl (cs.2.1, sl k, .inr (.inl (h.2 k)))
  else if sk k = 11 then .inl (cs.2.2, sl k, .inr (.inr (.inr (.inr (fun i => some (ad (sr k i)))))))
  else .inr (sk k, (List.range (nf (sk k))).map (fv ad h k))
def wld (ad : Nat → Nat) (cs : C3) (h : Hp) : va_W := (List.range 93).map fun k => (ad k, ce ad cs h k)
def ty3 (cs : C3) : List (ClassId × FieldType) := [(cs.1, .int), (cs.2.1, .long), (cs.2.2, .object "WireWalkers$Sheet")]
def ij (ad : Nat → Nat) : Prop := ∀ i j, i < 93 → j < 93 → ad i = ad j → i = j
def inW (ad : Nat → Nat) : Nat → Prop := fun q => ∃ k, k < 93 ∧ q = ad k
def uf (h : Hp) (k j : Nat) (v : Int32) : Hp := (fun a => if a = k then upd (h.1 a) j v else h.1 a, h.2)
def ul (h : Hp) (k j : Nat) (v : Int64) : Hp := (h.1, fun a => if a = k then vp_updL (h.2 a) j v else h.2 a)
def ux (h : Hp) (k : Nat) (i : Int32) (v : Int32) : Hp := uf h k i.toNatClampNeg v
def uy (h : Hp) (k : Nat) (i : Int32) (v : Int64) : Hp := ul h k i.toNatClampNeg v
def ia (h : Hp) (k : Nat) (i : Int32) : Int32 := h.1 k i.toNatClampNeg
def la (h : Hp) (k : Nat) (i : Int32) : Int64 := h.2 k i.toNatClampNeg
def ucp (h : Hp) (a b : Nat) (i j n : Int32) : Hp := (fun z => if z = b then va_cpy (h.1 a) (h.1 b) i.toNatClampNeg j.toNatClampNeg n.toNatClampNeg else h.1 z, h.2)
theorem mv_cat (ad : Nat → Nat) (v : Value) : (mv ad v).category = v.category := by cases v <;> rfl
theorem sk_lt {k c : Nat} (h : sk k = c) (hc : c < 99) : k < 93 := by
  apply Nat.lt_of_not_le
  intro hk
  have : sk k = 99 := by
    unfold sk
    rw [List.getD_eq_getElem?_getD, List.getElem?_eq_none (by exact hk)]
    rfl
  omega
theorem wld_get {ad : Nat → Nat} {cs : C3} {h : Hp} {k : Nat} (hk : k < 93) : (wld ad cs h)[k]? = some (ad k, ce ad cs h k) := by
  unfold wld
  rw [List.getElem?_map, List.getElem?_range hk]
  rfl
theorem wld_D {ad : Nat → Nat} {cs : C3} {h : Hp} {A : Nat → Prop} (hi : ij ad) (hA : ∀ k, k < 93 → A (ad k)) : va_D A (wld ad cs h) := by
  have key : ∀ (k : Nat) (q : Nat × va_E), (wld ad cs h)[k]? = some q → k < 93 ∧ q.1 = ad k := by
    intro k q hq
    by_cases hk : k < 93
    · rw [wld_get hk] at hq
      cases hq
      exact ⟨hk, rfl⟩
    · rw [List.getElem?_eq_none (by simp [wld]; omega)] at hq
      cases hq
  refine ⟨fun i j p q hp hq e => ?_, fun k q hq => ?_⟩
  · obtain ⟨a1, a2⟩ := key i p hp
    obtain ⟨b1, b2⟩ := key j q hq
    exact hi i j a1 b1 (by rw [← a2, ← b2, e])
  · obtain ⟨a1, a2⟩ := key k q hq
    rw [a2]
    exact hA k a1
theorem wld_set {ad : Nat → Nat} {cs : C3} {h h' : Hp} {k : Nat} {e : va_E} (hk : k < 93) (he : e = ce ad cs h' k) (ho : ∀ j, j ≠ k → ce ad cs h' j = ce ad cs h j) : (wld ad cs h).set k (ad k, e) = wld ad cs h' := by
  apply List.ext_getElem?
  intro j
  by_cases hj : j = k
  · subst hj
    rw [List.getElem?_set_self (by simp [wld]; exact hk), wld_get hk, he]
  · rw [List.getElem?_set_ne (Ne.symm hj)]
    by_cases hj2 : j < 93
    · rw [wld_get hj2, wld_get hj2, ho j hj]
    · rw [List.getElem?_eq_none (by simp [wld]; omega), List.getElem?_eq_none (by simp [wld]; omega)]
theorem ce_ext {ad : Nat → Nat} {cs : C3} {h h' : Hp} {a : Nat} (e1 : h'.1 a = h.1 a) (e2 : h'.2 a = h.2 a) : ce ad cs h' a = ce ad cs h a := by
  have e3 : fv ad h' a = fv ad h a := by funext j; unfold fv; rw [e1]
  unfold ce
  rw [e1, e2, e3]
theorem ce_obj {ad : Nat → Nat} {cs : C3} {h : Hp} {k c : Nat} (hs : sk k = c) (hc : c < 9) : ce ad cs h k = .inr (c, (List.range (nf c)).map (fv ad h k)) := by
  unfold ce
  rw [hs, if_neg (by omega), if_neg (by omega), if_neg (by omega)]
theorem ce_int {ad : Nat → Nat} {cs : C3} {h : Hp} {k : Nat} (hs : sk k = 9) : ce ad cs h k = .inl (cs.1, sl k, .inl (h.1 k)) := by
  unfold ce
  rw [if_pos hs]
theorem ce_long {ad : Nat → Nat} {cs : C3} {h : Hp} {k : Nat} (hs : sk k = 10) : ce ad cs h k = .inl (cs.2.1, sl k, .inr (.inl (h.2 k))) := by
  unfold ce
  rw [hs, if_neg (by decide), if_pos rfl]
theorem ce_ref {ad : Nat → Nat} {cs : C3} {h : Hp} {k : Nat} (hs : sk k = 11) : ce ad cs h k = .inl (cs.2.2, sl k, .inr (.inr (.inr (.inr (fun i => some (ad (sr k i))))))) := by
  unfold ce
  rw [hs, if_neg (by decide), if_neg (by decide), if_pos rfl]
theorem uf_ne {h : Hp} {k j a : Nat} {v : Int32} (ha : a ≠ k) : (uf h k j v).1 a = h.1 a := by simp [uf, ha]
theorem uf_at {h : Hp} {k j : Nat} {v : Int32} : (uf h k j v).1 k = upd (h.1 k) j v := by simp [uf]
theorem uf_2 {h : Hp} {k j : Nat} {v : Int32} : (uf h k j v).2 = h.2 := rfl
theorem ul_ne {h : Hp} {k j a : Nat} {v : Int64} (ha : a ≠ k) : (ul h k j v).2 a = h.2 a := by simp [ul, ha]
theorem ul_at {h : Hp} {k j : Nat} {v : Int64} : (ul h k j v).2 k = vp_updL (h.2 k) j v := by simp [ul]
theorem ul_1 {h : Hp} {k j : Nat} {v : Int64} : (ul h k j v).1 = h.1 := rfl
theorem set_fld {ad : Nat → Nat} {h : Hp} {k c j : Nat} {v : Int32} (hs : sk k = c) (hj : j < nf c) (hr : isR c j = false) : ((List.range (nf c)).map (fv ad h k)).set j (.int v) = (List.range (nf c)).map (fv ad (uf h k j v) k) := by
  apply List.ext_getElem?
  intro i
  by_cases hi : i = j
  · subst hi
    rw [List.getElem?_set_self (by simp; exact hj), List.getElem?_map, List.getElem?_range hj]
    simp [fv, hs, hr, uf_at, upd]
  · rw [List.getElem?_set_ne (Ne.symm hi), List.getElem?_map, List.getElem?_map]
    by_cases h2 : i < nf c
    · rw [List.getElem?_range h2]
      simp [fv, uf_at, upd, hi]
    · rw [List.getElem?_eq_none (by simp; omega)]
      rfl
/-! the static array of the class: it lies at ad 94, outside the world; nobody writes it -/
def dbF (j : Nat) : Int32 := ([0, 6, 13, 23] : List Int32).getD j 0
def STt (ad : Nat → Nat) (A : Nat → Prop) (U : State) (H : Heap) : Prop := va_Z "WireWalkers" "DIGEST_BEATS" "[I" (.ref (ad 94)) A U H ∧ va_T .int (ad 94) 4 (fun j => .int (dbF j)) A U H
theorem STt.moved {ad : Nat → Nat} {A : Nat → Prop} {u U : State} {H : Heap} (hvm : u.vm.Alike U.vm) (h : STt ad A u H) : STt ad A U H := ⟨h.1.moved hvm, h.2.moved hvm⟩
theorem STt.kept {ad : Nat → Nat} {A : Nat → Prop} {U : State} {H H1 : Heap} (h : STt ad A U H) (hq : ∀ a : Nat, a < H.size → ¬ A a → H1[a]? = H[a]?) : STt ad A U H1 := ⟨h.1.kept hq, h.2.kept hq⟩
theorem STt.narrow {ad : Nat → Nat} {A B : Nat → Prop} {U : State} {H : Heap} (h : STt ad A U H) (hAB : ∀ q, B q → A q) : STt ad B U H := ⟨h.1.narrow hAB, h.2.narrow hAB⟩
/-! the judgement -/
abbrev Kx (Out : Type) : Type _ := (Program × Launch × Env × Room × State × MethodId × Array Value × List Frame × Method × Code) × (Nat → Nat) × va_G × C3 × (Nat → Prop) × Nat × Nat × Nat × (Out → State → Prop)
section KX
variable {Out : Type}
abbrev kp (κ : Kx Out) : Program := κ.1.1
abbrev kl (κ : Kx Out) : Launch := κ.1.2.1
abbrev ke (κ : Kx Out) : Env := κ.1.2.2.1
abbrev kR (κ : Kx Out) : Room := κ.1.2.2.2.1
abbrev ks (κ : Kx Out) : State := κ.1.2.2.2.2.1
abbrev km (κ : Kx Out) : MethodId := κ.1.2.2.2.2.2.1
abbrev ka (κ : Kx Out) : Array Value := κ.1.2.2.2.2.2.2.1
abbrev kb (κ : Kx Out) : List Frame := κ.1.2.2.2.2.2.2.2.1
abbrev kme (κ : Kx Out) : Method := κ.1.2.2.2.2.2.2.2.2.1
abbrev kc (κ : Kx Out) : Code := κ.1.2.2.2.2.2.2.2.2.2
abbrev kad (κ : Kx Out) : Nat → Nat := κ.2.1
abbrev kD (κ : Kx Out) : va_G := κ.2.2.1
abbrev kcs (κ : Kx Out) : C3 := κ.2.2.2.1
abbrev kA (κ : Kx Out) : Nat → Prop := κ.2.2.2.2.1
abbrev kn (κ : Kx Out) : Nat := κ.2.2.2.2.2.1
abbrev kcl (κ : Kx Out) : Nat := κ.2.2.2.2.2.2.1
abbrev ksl (κ : Kx Out) : Nat := κ.2.2.2.2.2.2.2.1
abbrev kQ (κ : Kx Out) : Out → State → Prop := κ.2.2.2.2.2.2.2.2
abbrev Wk (κ : Kx Out) (Q : State → Prop) (H : Heap) (locs : List Loc) (g : JFrame) : Prop := W (kp κ) (kl κ) (ke κ) (kR κ) (ks κ) (km κ) (ka κ) (kb κ) (kme κ) (kc κ) H locs (kcl κ) (ksl κ) Q g
def Xz (κ : Kx Out) (o : Option Out) (pc : Nat) (ls : List (Nat × Value)) (st : List Value) (h : Hp) : Prop :=
  ∀ out, o = some out → ∀ (H : Heap) (locs : List Loc) (arr : Array Slot), va_P (kD κ) vwCl (wld (kad κ) (kcs κ) h) H → va_S (kA κ) (ks κ).heap H locs → lv_has arr (kn κ) (ls.map (mp (kad κ))) → Wk κ (kQ κ out) H locs (F0 (km κ) pc arr (st.map (mv (kad κ))))
def Gd (κ : Kx Out) (cc : ByteArray) (own : String) (n : Nat) : Prop :=
  (kp κ).tables.exec = Jvm.exec ∧ (kc κ).code = cc ∧ (kc κ).maxLocals = kn κ ∧ (ks κ).vm.findClass own = some (km κ).cls ∧ (∀ w ∈ tb2, w.before (ka κ) (ks κ) = true) ∧ va_K (kD κ) vwCl (ty3 (kcs κ)) (ks κ) ∧ ij (kad κ) ∧ (∀ k, k < 93 → kA κ (kad κ k)) ∧ n ≤ (kR κ).frames ∧ 40 * n ≤ (kR κ).locals ∧ kcl κ ≤ (kR κ).cells ∧ ksl κ ≤ (kR κ).slots ∧ (kme κ).locks = false ∧ STt (kad κ) (kA κ) (ks κ) (ks κ).heap
variable {κ : Kx Out} {cc : ByteArray} {own : String} {n : Nat}
theorem Gd.x (C : Gd κ cc own n) : (kp κ).tables.exec = Jvm.exec := C.1
theorem Gd.b (C : Gd κ cc own n) : (kc κ).code = cc := C.2.1
theorem Gd.ml (C : Gd κ cc own n) : (kc κ).maxLocals = kn κ := C.2.2.1
theorem Gd.ow (C : Gd κ cc own n) : (ks κ).vm.findClass own = some (km κ).cls := C.2.2.2.1
theorem Gd.ts (C : Gd κ cc own n) : ∀ w ∈ tb2, w.before (ka κ) (ks κ) = true := C.2.2.2.2.1
theorem Gd.K (C : Gd κ cc own n) : va_K (kD κ) vwCl (ty3 (kcs κ)) (ks κ) := C.2.2.2.2.2.1
theorem Gd.ij (C : Gd κ cc own n) : ij (kad κ) := C.2.2.2.2.2.2.1
theorem Gd.A (C : Gd κ cc own n) : ∀ k, k < 93 → kA κ (kad κ k) := C.2.2.2.2.2.2.2.1
theorem Gd.fr (C : Gd κ cc own n) : n ≤ (kR κ).frames := C.2.2.2.2.2.2.2.2.1
theorem Gd.lo (C : Gd κ cc own n) : 40 * n ≤ (kR κ).locals := C.2.2.2.2.2.2.2.2.2.1
theorem Gd.cl (C : Gd κ cc own n) : kcl κ ≤ (kR κ).cells := C.2.2.2.2.2.2.2.2.2.2.1
theorem Gd.sl (C : Gd κ cc own n) : ksl κ ≤ (kR κ).slots := C.2.2.2.2.2.2.2.2.2.2.2.1
theorem Gd.lk (C : Gd κ cc own n) : (kme κ).locks = false := C.2.2.2.2.2.2.2.2.2.2.2.2.1
theorem Gd.st (C : Gd κ cc own n) : STt (kad κ) (kA κ) (ks κ) (ks κ).heap := C.2.2.2.2.2.2.2.2.2.2.2.2.2
theorem Gd.D (C : Gd κ cc own n) (h : Hp) : va_D (kA κ) (wld (kad κ) (kcs κ) h) := wld_D C.ij C.A
end KX
/-! the pieces that the answers are written with -/
def nm {α β : Type} (e : α) (T : α → β) : β := T e
def ck {α : Type} (i : Int32) (n : Nat) (T : Option α) : Option α := if ¬ (i < 0 ∨ n ≤ i.toNatClampNeg) then T else none
def cn {α : Type} (b : Prop) [Decidable b] (T : Option α) : Option α := if b then none else T
def cy {α : Type} (b : Prop) [Decidable b] (T : Option α) : Option α := if b then T else none
def bnd {α β : Type} (o : Option (Hp × α)) (T : Hp → α → Option β) : Option β := match o with
  | some (h, a) => T h a
  | none => none
def bdv {β : Type} (o : Option Hp) (T : Hp → Option β) : Option β := match o with
  | some h => T h
  | none => none
def bdr {α β : Type} (o : Option α) (T : α → Option β) : Option β := match o with
  | some a => T a
  | none => none
def FU : Nat := 1000
theorem nm_eq {α β : Type} (e : α) (T : α → β) : nm e T = T e := rfl
theorem bnd_some {α β : Type} (h : Hp) (a : α) (T : Hp → α → Option β) : bnd (some (h, a)) T = T h a := rfl
theorem bdv_some {β : Type} (h : Hp) (T : Hp → Option β) : bdv (some h) T = T h := rfl
theorem bdr_some {α β : Type} (a : α) (T : α → Option β) : bdr (some a) T = T a := rfl
def fx1 {A1 Out : Type} (n : Nat) (F : (A1 → Option Out) → A1 → Option Out) : A1 → Option Out := match n with
  | 0 => fun _ => none
  | m + 1 => F (fx1 m F)
theorem fx1_succ {A1 Out : Type} (n : Nat) (F : (A1 → Option Out) → A1 → Option Out) (a1 : A1) : fx1 (n + 1) F a1 = F (fx1 n F) a1 := rfl
theorem fx1_pos {A1 Out : Type} {n : Nat} (hn : 0 < n) (F : (A1 → Option Out) → A1 → Option Out) (a1 : A1) : fx1 n F a1 = F (fx1 (n - 1) F) a1 := by
  cases n with
  | zero => omega
  | succ n => rfl
theorem x_fx1 {A1 Out : Type} {κ : Kx Out} {n pc : Nat} {F : (A1 → Option Out) → A1 → Option Out} {ls : A1 → List (Nat × Value)} {st : A1 → List Value} {hh : A1 → Hp}
    (H : ∀ self : A1 → Option Out, (∀ a1, Xz κ (self a1) pc (ls a1) (st a1) (hh a1)) → ∀ a1, Xz κ (F self a1) pc (ls a1) (st a1) (hh a1)) {a1 : A1} : Xz κ (fx1 n F a1) pc (ls a1) (st a1) (hh a1) := by
  revert a1
  induction n with
  | zero => intro a1 out ho; cases ho
  | succ n ih => exact @(H (fx1 n F) (@ih))
def lt1 {A1 Out : Type} (k : A1 → Option Out) (b : (A1 → Option Out) → Option Out) : Option Out := b k
theorem lt1_eq {A1 Out : Type} (k : A1 → Option Out) (b : (A1 → Option Out) → Option Out) : lt1 k b = b k := rfl
theorem x_lt1 {A1 Out : Type} {κ : Kx Out} {pc q : Nat} {l0 : List (Nat × Value)} {s0 : List Value} {h0 : Hp} {k : A1 → Option Out} {b : (A1 → Option Out) → Option Out} {ls : A1 → List (Nat × Value)} {st : A1 → List Value} {hh : A1 → Hp}
    (J : ∀ a1, Xz κ (k a1) q (ls a1) (st a1) (hh a1)) (B : ∀ k : A1 → Option Out, (∀ a1, Xz κ (k a1) q (ls a1) (st a1) (hh a1)) → Xz κ (b k) pc l0 s0 h0) : Xz κ (lt1 k b) pc l0 s0 h0 := B k J
def fx2 {A1 A2 Out : Type} (n : Nat) (F : (A1 → A2 → Option Out) → A1 → A2 → Option Out) : A1 → A2 → Option Out := match n with
  | 0 => fun _ _ => none
  | m + 1 => F (fx2 m F)
theorem fx2_succ {A1 A2 Out : Type} (n : Nat) (F : (A1 → A2 → Option Out) → A1 → A2 → Option Out) (a1 : A1) (a2 : A2) : fx2 (n + 1) F a1 a2 = F (fx2 n F) a1 a2 := rfl
theorem fx2_pos {A1 A2 Out : Type} {n : Nat} (hn : 0 < n) (F : (A1 → A2 → Option Out) → A1 → A2 → Option Out) (a1 : A1) (a2 : A2) : fx2 n F a1 a2 = F (fx2 (n - 1) F) a1 a2 := by
  cases n with
  | zero => omega
  | succ n => rfl
theorem x_fx2 {A1 A2 Out : Type} {κ : Kx Out} {n pc : Nat} {F : (A1 → A2 → Option Out) → A1 → A2 → Option Out} {ls : A1 → A2 → List (Nat × Value)} {st : A1 → A2 → List Value} {hh : A1 → A2 → Hp}
    (H : ∀ self : A1 → A2 → Option Out, (∀ a1 a2, Xz κ (self a1 a2) pc (ls a1 a2) (st a1 a2) (hh a1 a2)) → ∀ a1 a2, Xz κ (F self a1 a2) pc (ls a1 a2) (st a1 a2) (hh a1 a2)) {a1 : A1} {a2 : A2} : Xz κ (fx2 n F a1 a2) pc (ls a1 a2) (st a1 a2) (hh a1 a2) := by
  revert a1 a2
  induction n with
  | zero => intro a1 a2 out ho; cases ho
  | succ n ih => exact @(H (fx2 n F) (@ih))
def lt2 {A1 A2 Out : Type} (k : A1 → A2 → Option Out) (b : (A1 → A2 → Option Out) → Option Out) : Option Out := b k
theorem lt2_eq {A1 A2 Out : Type} (k : A1 → A2 → Option Out) (b : (A1 → A2 → Option Out) → Option Out) : lt2 k b = b k := rfl
theorem x_lt2 {A1 A2 Out : Type} {κ : Kx Out} {pc q : Nat} {l0 : List (Nat × Value)} {s0 : List Value} {h0 : Hp} {k : A1 → A2 → Option Out} {b : (A1 → A2 → Option Out) → Option Out} {ls : A1 → A2 → List (Nat × Value)} {st : A1 → A2 → List Value} {hh : A1 → A2 → Hp}
    (J : ∀ a1 a2, Xz κ (k a1 a2) q (ls a1 a2) (st a1 a2) (hh a1 a2)) (B : ∀ k : A1 → A2 → Option Out, (∀ a1 a2, Xz κ (k a1 a2) q (ls a1 a2) (st a1 a2) (hh a1 a2)) → Xz κ (b k) pc l0 s0 h0) : Xz κ (lt2 k b) pc l0 s0 h0 := B k J
def fx3 {A1 A2 A3 Out : Type} (n : Nat) (F : (A1 → A2 → A3 → Option Out) → A1 → A2 → A3 → Option Out) : A1 → A2 → A3 → Option Out := match n with
  | 0 => fun _ _ _ => none
  | m + 1 => F (fx3 m F)
theorem fx3_succ {A1 A2 A3 Out : Type} (n : Nat) (F : (A1 → A2 → A3 → Option Out) → A1 → A2 → A3 → Option Out) (a1 : A1) (a2 : A2) (a3 : A3) : fx3 (n + 1) F a1 a2 a3 = F (fx3 n F) a1 a2 a3 := rfl
theorem fx3_pos {A1 A2 A3 Out : Type} {n : Nat} (hn : 0 < n) (F : (A1 → A2 → A3 → Option Out) → A1 → A2 → A3 → Option Out) (a1 : A1) (a2 : A2) (a3 : A3) : fx3 n F a1 a2 a3 = F (fx3 (n - 1) F) a1 a2 a3 := by
  cases n with
  | zero => omega
  | succ n => rfl
theorem x_fx3 {A1 A2 A3 Out : Type} {κ : Kx Out} {n pc : Nat} {F : (A1 → A2 → A3 → Option Out) → A1 → A2 → A3 → Option Out} {ls : A1 → A2 → A3 → List (Nat × Value)} {st : A1 → A2 → A3 → List Value} {hh : A1 → A2 → A3 → Hp}
    (H : ∀ self : A1 → A2 → A3 → Option Out, (∀ a1 a2 a3, Xz κ (self a1 a2 a3) pc (ls a1 a2 a3) (st a1 a2 a3) (hh a1 a2 a3)) → ∀ a1 a2 a3, Xz κ (F self a1 a2 a3) pc (ls a1 a2 a3) (st a1 a2 a3) (hh a1 a2 a3)) {a1 : A1} {a2 : A2} {a3 : A3} : Xz κ (fx3 n F a1 a2 a3) pc (ls a1 a2 a3) (st a1 a2 a3) (hh a1 a2 a3) := by
  revert a1 a2 a3
  induction n with
  | zero => intro a1 a2 a3 out ho; cases ho
  | succ n ih => exact @(H (fx3 n F) (@ih))
def lt3 {A1 A2 A3 Out : Type} (k : A1 → A2 → A3 → Option Out) (b : (A1 → A2 → A3 → Option Out) → Option Out) : Option Out := b k
theorem lt3_eq {A1 A2 A3 Out : Type} (k : A1 → A2 → A3 → Option Out) (b : (A1 → A2 → A3 → Option Out) → Option Out) : lt3 k b = b k := rfl
theorem x_lt3 {A1 A2 A3 Out : Type} {κ : Kx Out} {pc q : Nat} {l0 : List (Nat × Value)} {s0 : List Value} {h0 : Hp} {k : A1 → A2 → A3 → Option Out} {b : (A1 → A2 → A3 → Option Out) → Option Out} {ls : A1 → A2 → A3 → List (Nat × Value)} {st : A1 → A2 → A3 → List Value} {hh : A1 → A2 → A3 → Hp}
    (J : ∀ a1 a2 a3, Xz κ (k a1 a2 a3) q (ls a1 a2 a3) (st a1 a2 a3) (hh a1 a2 a3)) (B : ∀ k : A1 → A2 → A3 → Option Out, (∀ a1 a2 a3, Xz κ (k a1 a2 a3) q (ls a1 a2 a3) (st a1 a2 a3) (hh a1 a2 a3)) → Xz κ (b k) pc l0 s0 h0) : Xz κ (lt3 k b) pc l0 s0 h0 := B k J
def fx4 {A1 A2 A3 A4 Out : Type} (n : Nat) (F : (A1 → A2 → A3 → A4 → Option Out) → A1 → A2 → A3 → A4 → Option Out) : A1 → A2 → A3 → A4 → Option Out := match n with
  | 0 => fun _ _ _ _ => none
  | m + 1 => F (fx4 m F)
theorem fx4_succ {A1 A2 A3 A4 Out : Type} (n : Nat) (F : (A1 → A2 → A3 → A4 → Option Out) → A1 → A2 → A3 → A4 → Option Out) (a1 : A1) (a2 : A2) (a3 : A3) (a4 : A4) : fx4 (n + 1) F a1 a2 a3 a4 = F (fx4 n F) a1 a2 a3 a4 := rfl
theorem fx4_pos {A1 A2 A3 A4 Out : Type} {n : Nat} (hn : 0 < n) (F : (A1 → A2 → A3 → A4 → Option Out) → A1 → A2 → A3 → A4 → Option Out) (a1 : A1) (a2 : A2) (a3 : A3) (a4 : A4) : fx4 n F a1 a2 a3 a4 = F (fx4 (n - 1) F) a1 a2 a3 a4 := by
  cases n with
  | zero => omega
  | succ n => rfl
theorem x_fx4 {A1 A2 A3 A4 Out : Type} {κ : Kx Out} {n pc : Nat} {F : (A1 → A2 → A3 → A4 → Option Out) → A1 → A2 → A3 → A4 → Option Out} {ls : A1 → A2 → A3 → A4 → List (Nat × Value)} {st : A1 → A2 → A3 → A4 → List Value} {hh : A1 → A2 → A3 → A4 → Hp}
    (H : ∀ self : A1 → A2 → A3 → A4 → Option Out, (∀ a1 a2 a3 a4, Xz κ (self a1 a2 a3 a4) pc (ls a1 a2 a3 a4) (st a1 a2 a3 a4) (hh a1 a2 a3 a4)) → ∀ a1 a2 a3 a4, Xz κ (F self a1 a2 a3 a4) pc (ls a1 a2 a3 a4) (st a1 a2 a3 a4) (hh a1 a2 a3 a4)) {a1 : A1} {a2 : A2} {a3 : A3} {a4 : A4} : Xz κ (fx4 n F a1 a2 a3 a4) pc (ls a1 a2 a3 a4) (st a1 a2 a3 a4) (hh a1 a2 a3 a4) := by
  revert a1 a2 a3 a4
  induction n with
  | zero => intro a1 a2 a3 a4 out ho; cases ho
  | succ n ih => exact @(H (fx4 n F) (@ih))
def lt4 {A1 A2 A3 A4 Out : Type} (k : A1 → A2 → A3 → A4 → Option Out) (b : (A1 → A2 → A3 → A4 → Option Out) → Option Out) : Option Out := b k
theorem lt4_eq {A1 A2 A3 A4 Out : Type} (k : A1 → A2 → A3 → A4 → Option Out) (b : (A1 → A2 → A3 → A4 → Option Out) → Option Out) : lt4 k b = b k := rfl
theorem x_lt4 {A1 A2 A3 A4 Out : Type} {κ : Kx Out} {pc q : Nat} {l0 : List (Nat × Value)} {s0 : List Value} {h0 : Hp} {k : A1 → A2 → A3 → A4 → Option Out} {b : (A1 → A2 → A3 → A4 → Option Out) → Option Out} {ls : A1 → A2 → A3 → A4 → List (Nat × Value)} {st : A1 → A2 → A3 → A4 → List Value} {hh : A1 → A2 → A3 → A4 → Hp}
    (J : ∀ a1 a2 a3 a4, Xz κ (k a1 a2 a3 a4) q (ls a1 a2 a3 a4) (st a1 a2 a3 a4) (hh a1 a2 a3 a4)) (B : ∀ k : A1 → A2 → A3 → A4 → Option Out, (∀ a1 a2 a3 a4, Xz κ (k a1 a2 a3 a4) q (ls a1 a2 a3 a4) (st a1 a2 a3 a4) (hh a1 a2 a3 a4)) → Xz κ (b k) pc l0 s0 h0) : Xz κ (lt4 k b) pc l0 s0 h0 := B k J
def fx5 {A1 A2 A3 A4 A5 Out : Type} (n : Nat) (F : (A1 → A2 → A3 → A4 → A5 → Option Out) → A1 → A2 → A3 → A4 → A5 → Option Out) : A1 → A2 → A3 → A4 → A5 → Option Out := match n with
  | 0 => fun _ _ _ _ _ => none
  | m + 1 => F (fx5 m F)
theorem fx5_succ {A1 A2 A3 A4 A5 Out : Type} (n : Nat) (F : (A1 → A2 → A3 → A4 → A5 → Option Out) → A1 → A2 → A3 → A4 → A5 → Option Out) (a1 : A1) (a2 : A2) (a3 : A3) (a4 : A4) (a5 : A5) : fx5 (n + 1) F a1 a2 a3 a4 a5 = F (fx5 n F) a1 a2 a3 a4 a5 := rfl
theorem fx5_pos {A1 A2 A3 A4 A5 Out : Type} {n : Nat} (hn : 0 < n) (F : (A1 → A2 → A3 → A4 → A5 → Option Out) → A1 → A2 → A3 → A4 → A5 → Option Out) (a1 : A1) (a2 : A2) (a3 : A3) (a4 : A4) (a5 : A5) : fx5 n F a1 a2 a3 a4 a5 = F (fx5 (n - 1) F) a1 a2 a3 a4 a5 := by
  cases n with
  | zero => omega
  | succ n => rfl
theorem x_fx5 {A1 A2 A3 A4 A5 Out : Type} {κ : Kx Out} {n pc : Nat} {F : (A1 → A2 → A3 → A4 → A5 → Option Out) → A1 → A2 → A3 → A4 → A5 → Option Out} {ls : A1 → A2 → A3 → A4 → A5 → List (Nat × Value)} {st : A1 → A2 → A3 → A4 → A5 → List Value} {hh : A1 → A2 → A3 → A4 → A5 → Hp}
    (H : ∀ self : A1 → A2 → A3 → A4 → A5 → Option Out, (∀ a1 a2 a3 a4 a5, Xz κ (self a1 a2 a3 a4 a5) pc (ls a1 a2 a3 a4 a5) (st a1 a2 a3 a4 a5) (hh a1 a2 a3 a4 a5)) → ∀ a1 a2 a3 a4 a5, Xz κ (F self a1 a2 a3 a4 a5) pc (ls a1 a2 a3 a4 a5) (st a1 a2 a3 a4 a5) (hh a1 a2 a3 a4 a5)) {a1 : A1} {a2 : A2} {a3 : A3} {a4 : A4} {a5 : A5} : Xz κ (fx5 n F a1 a2 a3 a4 a5) pc (ls a1 a2 a3 a4 a5) (st a1 a2 a3 a4 a5) (hh a1 a2 a3 a4 a5) := by
  revert a1 a2 a3 a4 a5
  induction n with
  | zero => intro a1 a2 a3 a4 a5 out ho; cases ho
  | succ n ih => exact @(H (fx5 n F) (@ih))
def lt5 {A1 A2 A3 A4 A5 Out : Type} (k : A1 → A2 → A3 → A4 → A5 → Option Out) (b : (A1 → A2 → A3 → A4 → A5 → Option Out) → Option Out) : Option Out := b k
theorem lt5_eq {A1 A2 A3 A4 A5 Out : Type} (k : A1 → A2 → A3 → A4 → A5 → Option Out) (b : (A1 → A2 → A3 → A4 → A5 → Option Out) → Option Out) : lt5 k b = b k := rfl
theorem x_lt5 {A1 A2 A3 A4 A5 Out : Type} {κ : Kx Out} {pc q : Nat} {l0 : List (Nat × Value)} {s0 : List Value} {h0 : Hp} {k : A1 → A2 → A3 → A4 → A5 → Option Out} {b : (A1 → A2 → A3 → A4 → A5 → Option Out) → Option Out} {ls : A1 → A2 → A3 → A4 → A5 → List (Nat × Value)} {st : A1 → A2 → A3 → A4 → A5 → List Value} {hh : A1 → A2 → A3 → A4 → A5 → Hp}
    (J : ∀ a1 a2 a3 a4 a5, Xz κ (k a1 a2 a3 a4 a5) q (ls a1 a2 a3 a4 a5) (st a1 a2 a3 a4 a5) (hh a1 a2 a3 a4 a5)) (B : ∀ k : A1 → A2 → A3 → A4 → A5 → Option Out, (∀ a1 a2 a3 a4 a5, Xz κ (k a1 a2 a3 a4 a5) q (ls a1 a2 a3 a4 a5) (st a1 a2 a3 a4 a5) (hh a1 a2 a3 a4 a5)) → Xz κ (b k) pc l0 s0 h0) : Xz κ (lt5 k b) pc l0 s0 h0 := B k J
def fx6 {A1 A2 A3 A4 A5 A6 Out : Type} (n : Nat) (F : (A1 → A2 → A3 → A4 → A5 → A6 → Option Out) → A1 → A2 → A3 → A4 → A5 → A6 → Option Out) : A1 → A2 → A3 → A4 → A5 → A6 → Option Out := match n with
  | 0 => fun _ _ _ _ _ _ => none
  | m + 1 => F (fx6 m F)
theorem fx6_succ {A1 A2 A3 A4 A5 A6 Out : Type} (n : Nat) (F : (A1 → A2 → A3 → A4 → A5 → A6 → Option Out) → A1 → A2 → A3 → A4 → A5 → A6 → Option Out) (a1 : A1) (a2 : A2) (a3 : A3) (a4 : A4) (a5 : A5) (a6 : A6) : fx6 (n + 1) F a1 a2 a3 a4 a5 a6 = F (fx6 n F) a1 a2 a3 a4 a5 a6 := rfl
theorem fx6_pos {A1 A2 A3 A4 A5 A6 Out : Type} {n : Nat} (hn : 0 < n) (F : (A1 → A2 → A3 → A4 → A5 → A6 → Option Out) → A1 → A2 → A3 → A4 → A5 → A6 → Option Out) (a1 : A1) (a2 : A2) (a3 : A3) (a4 : A4) (a5 : A5) (a6 : A6) : fx6 n F a1 a2 a3 a4 a5 a6 = F (fx6 (n - 1) F) a1 a2 a3 a4 a5 a6 := by
  cases n with
  | zero => omega
  | succ n => rfl
theorem x_fx6 {A1 A2 A3 A4 A5 A6 Out : Type} {κ : Kx Out} {n pc : Nat} {F : (A1 → A2 → A3 → A4 → A5 → A6 → Option Out) → A1 → A2 → A3 → A4 → A5 → A6 → Option Out} {ls : A1 → A2 → A3 → A4 → A5 → A6 → List (Nat × Value)} {st : A1 → A2 → A3 → A4 → A5 → A6 → List Value} {hh : A1 → A2 → A3 → A4 → A5 → A6 → Hp}
    (H : ∀ self : A1 → A2 → A3 → A4 → A5 → A6 → Option Out, (∀ a1 a2 a3 a4 a5 a6, Xz κ (self a1 a2 a3 a4 a5 a6) pc (ls a1 a2 a3 a4 a5 a6) (st a1 a2 a3 a4 a5 a6) (hh a1 a2 a3 a4 a5 a6)) → ∀ a1 a2 a3 a4 a5 a6, Xz κ (F self a1 a2 a3 a4 a5 a6) pc (ls a1 a2 a3 a4 a5 a6) (st a1 a2 a3 a4 a5 a6) (hh a1 a2 a3 a4 a5 a6)) {a1 : A1} {a2 : A2} {a3 : A3} {a4 : A4} {a5 : A5} {a6 : A6} : Xz κ (fx6 n F a1 a2 a3 a4 a5 a6) pc (ls a1 a2 a3 a4 a5 a6) (st a1 a2 a3 a4 a5 a6) (hh a1 a2 a3 a4 a5 a6) := by
  revert a1 a2 a3 a4 a5 a6
  induction n with
  | zero => intro a1 a2 a3 a4 a5 a6 out ho; cases ho
  | succ n ih => exact @(H (fx6 n F) (@ih))
def lt6 {A1 A2 A3 A4 A5 A6 Out : Type} (k : A1 → A2 → A3 → A4 → A5 → A6 → Option Out) (b : (A1 → A2 → A3 → A4 → A5 → A6 → Option Out) → Option Out) : Option Out := b k
theorem lt6_eq {A1 A2 A3 A4 A5 A6 Out : Type} (k : A1 → A2 → A3 → A4 → A5 → A6 → Option Out) (b : (A1 → A2 → A3 → A4 → A5 → A6 → Option Out) → Option Out) : lt6 k b = b k := rfl
theorem x_lt6 {A1 A2 A3 A4 A5 A6 Out : Type} {κ : Kx Out} {pc q : Nat} {l0 : List (Nat × Value)} {s0 : List Value} {h0 : Hp} {k : A1 → A2 → A3 → A4 → A5 → A6 → Option Out} {b : (A1 → A2 → A3 → A4 → A5 → A6 → Option Out) → Option Out} {ls : A1 → A2 → A3 → A4 → A5 → A6 → List (Nat × Value)} {st : A1 → A2 → A3 → A4 → A5 → A6 → List Value} {hh : A1 → A2 → A3 → A4 → A5 → A6 → Hp}
    (J : ∀ a1 a2 a3 a4 a5 a6, Xz κ (k a1 a2 a3 a4 a5 a6) q (ls a1 a2 a3 a4 a5 a6) (st a1 a2 a3 a4 a5 a6) (hh a1 a2 a3 a4 a5 a6)) (B : ∀ k : A1 → A2 → A3 → A4 → A5 → A6 → Option Out, (∀ a1 a2 a3 a4 a5 a6, Xz κ (k a1 a2 a3 a4 a5 a6) q (ls a1 a2 a3 a4 a5 a6) (st a1 a2 a3 a4 a5 a6) (hh a1 a2 a3 a4 a5 a6)) → Xz κ (b k) pc l0 s0 h0) : Xz κ (lt6 k b) pc l0 s0 h0 := B k J
def fx7 {A1 A2 A3 A4 A5 A6 A7 Out : Type} (n : Nat) (F : (A1 → A2 → A3 → A4 → A5 → A6 → A7 → Option Out) → A1 → A2 → A3 → A4 → A5 → A6 → A7 → Option Out) : A1 → A2 → A3 → A4 → A5 → A6 → A7 → Option Out := match n with
  | 0 => fun _ _ _ _ _ _ _ => none
  | m + 1 => F (fx7 m F)
theorem fx7_succ {A1 A2 A3 A4 A5 A6 A7 Out : Type} (n : Nat) (F : (A1 → A2 → A3 → A4 → A5 → A6 → A7 → Option Out) → A1 → A2 → A3 → A4 → A5 → A6 → A7 → Option Out) (a1 : A1) (a2 : A2) (a3 : A3) (a4 : A4) (a5 : A5) (a6 : A6) (a7 : A7) : fx7 (n + 1) F a1 a2 a3 a4 a5 a6 a7 = F (fx7 n F) a1 a2 a3 a4 a5 a6 a7 := rfl
theorem fx7_pos {A1 A2 A3 A4 A5 A6 A7 Out : Type} {n : Nat} (hn : 0 < n) (F : (A1 → A2 → A3 → A4 → A5 → A6 → A7 → Option Out) → A1 → A2 → A3 → A4 → A5 → A6 → A7 → Option Out) (a1 : A1) (a2 : A2) (a3 : A3) (a4 : A4) (a5 : A5) (a6 : A6) (a7 : A7) : fx7 n F a1 a2 a3 a4 a5 a6 a7 = F (fx7 (n - 1) F) a1 a2 a3 a4 a5 a6 a7 := by
  cases n with
  | zero => omega
  | succ n => rfl
theorem x_fx7 {A1 A2 A3 A4 A5 A6 A7 Out : Type} {κ : Kx Out} {n pc : Nat} {F : (A1 → A2 → A3 → A4 → A5 → A6 → A7 → Option Out) → A1 → A2 → A3 → A4 → A5 → A6 → A7 → Option Out} {ls : A1 → A2 → A3 → A4 → A5 → A6 → A7 → List (Nat × Value)} {st : A1 → A2 → A3 → A4 → A5 → A6 → A7 → List Value} {hh : A1 → A2 → A3 → A4 → A5 → A6 → A7 → Hp}
    (H : ∀ self : A1 → A2 → A3 → A4 → A5 → A6 → A7 → Option Out, (∀ a1 a2 a3 a4 a5 a6 a7, Xz κ (self a1 a2 a3 a4 a5 a6 a7) pc (ls a1 a2 a3 a4 a5 a6 a7) (st a1 a2 a3 a4 a5 a6 a7) (hh a1 a2 a3 a4 a5 a6 a7)) → ∀ a1 a2 a3 a4 a5 a6 a7, Xz κ (F self a1 a2 a3 a4 a5 a6 a7) pc (ls a1 a2 a3 a4 a5 a6 a7) (st a1 a2 a3 a4 a5 a6 a7) (hh a1 a2 a3 a4 a5 a6 a7)) {a1 : A1} {a2 : A2} {a3 : A3} {a4 : A4} {a5 : A5} {a6 : A6} {a7 : A7} : Xz κ (fx7 n F a1 a2 a3 a4 a5 a6 a7) pc (ls a1 a2 a3 a4 a5 a6 a7) (st a1 a2 a3 a4 a5 a6 a7) (hh a1 a2 a3 a4 a5 a6 a7) := by
  revert a1 a2 a3 a4 a5 a6 a7
  induction n with
  | zero => intro a1 a2 a3 a4 a5 a6 a7 out ho; cases ho
  | succ n ih => exact @(H (fx7 n F) (@ih))
def lt7 {A1 A2 A3 A4 A5 A6 A7 Out : Type} (k : A1 → A2 → A3 → A4 → A5 → A6 → A7 → Option Out) (b : (A1 → A2 → A3 → A4 → A5 → A6 → A7 → Option Out) → Option Out) : Option Out := b k
theorem lt7_eq {A1 A2 A3 A4 A5 A6 A7 Out : Type} (k : A1 → A2 → A3 → A4 → A5 → A6 → A7 → Option Out) (b : (A1 → A2 → A3 → A4 → A5 → A6 → A7 → Option Out) → Option Out) : lt7 k b = b k := rfl
theorem x_lt7 {A1 A2 A3 A4 A5 A6 A7 Out : Type} {κ : Kx Out} {pc q : Nat} {l0 : List (Nat × Value)} {s0 : List Value} {h0 : Hp} {k : A1 → A2 → A3 → A4 → A5 → A6 → A7 → Option Out} {b : (A1 → A2 → A3 → A4 → A5 → A6 → A7 → Option Out) → Option Out} {ls : A1 → A2 → A3 → A4 → A5 → A6 → A7 → List (Nat × Value)} {st : A1 → A2 → A3 → A4 → A5 → A6 → A7 → List Value} {hh : A1 → A2 → A3 → A4 → A5 → A6 → A7 → Hp}
    (J : ∀ a1 a2 a3 a4 a5 a6 a7, Xz κ (k a1 a2 a3 a4 a5 a6 a7) q (ls a1 a2 a3 a4 a5 a6 a7) (st a1 a2 a3 a4 a5 a6 a7) (hh a1 a2 a3 a4 a5 a6 a7)) (B : ∀ k : A1 → A2 → A3 → A4 → A5 → A6 → A7 → Option Out, (∀ a1 a2 a3 a4 a5 a6 a7, Xz κ (k a1 a2 a3 a4 a5 a6 a7) q (ls a1 a2 a3 a4 a5 a6 a7) (st a1 a2 a3 a4 a5 a6 a7) (hh a1 a2 a3 a4 a5 a6 a7)) → Xz κ (b k) pc l0 s0 h0) : Xz κ (lt7 k b) pc l0 s0 h0 := B k J
