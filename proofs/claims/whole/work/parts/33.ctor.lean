/-! constructors: a world that grows, at real addresses -/
theorem k3_of {D : va_G} {args : Array Value} {s : State} (ht : ∀ w ∈ tb2, w.before args s = true) (hK : va_K D vwCl [] s) : ∃ cs : C3, va_K D vwCl (ty3 cs) s := by
  obtain ⟨cI, kI, compI, i1, i2, i3⟩ := Cond.arrayClass_spec (ht (.arrayClass .int) (m2 (List.mem_of_getElem? (i := 110) (by decide +kernel)) (by decide +kernel)))
  obtain ⟨cJ, kJ, compJ, j1, j2, j3⟩ := Cond.arrayClass_spec (ht (.arrayClass .long) (m2 (List.mem_of_getElem? (i := 317) (by decide +kernel)) (by decide +kernel)))
  obtain ⟨comp, c, k, h1, h2, h3, h4, h5⟩ := Cond.arrayOver_spec (ht (.arrayOver (.object "WireWalkers$Sheet")) (m2 (List.mem_of_getElem? (i := 294) (by decide +kernel)) (by decide +kernel)))
  refine ⟨(cI, cJ, c), hK.1, fun z q hz => ?_⟩
  match z, hz with
  | 0, hz => cases hz; exact ⟨fun n z => ⟨fun k h => (by cases h), kI, i2, compI, i3⟩, i1⟩
  | 1, hz => cases hz; exact ⟨fun n z => ⟨fun k h => (by cases h), kJ, j2, compJ, j3⟩, j1⟩
  | 2, hz => cases hz; exact ⟨fun n z => ⟨fun k h => (by cases h), k, h3, comp, h4⟩, k, comp, h3, h4, h1, h5⟩
  | z + 3, hz => simp [ty3] at hz
def Zw (κ : Kx Unit) (pc : Nat) (ls : List (Nat × Value)) (st : List Value) (ws : va_W) (cl sl : Nat) : Prop :=
  ∀ (H : Heap) (locs : List Loc) (arr : Array Slot), va_P (kD κ) vwCl ws H → va_D (kA κ) ws → va_S (kA κ) (ks κ).heap H locs → lv_has arr (kn κ) ls → W (kp κ) (kl κ) (ke κ) (kR κ) (ks κ) (km κ) (ka κ) (kb κ) (kme κ) (kc κ) H locs cl sl (kQ κ ()) (F0 (km κ) pc arr st)
def Gz (κ : Kx Unit) (cc : ByteArray) (own : String) (n mc ms : Nat) : Prop :=
  (kp κ).tables.exec = Jvm.exec ∧ (kc κ).code = cc ∧ (kc κ).maxLocals = kn κ ∧ (ks κ).vm.findClass own = some (km κ).cls ∧ (∀ w ∈ tb2, w.before (ka κ) (ks κ) = true) ∧ va_K (kD κ) vwCl (ty3 (kcs κ)) (ks κ) ∧ (∀ q : Nat, (ks κ).heap.size ≤ q → kA κ q) ∧ n ≤ (kR κ).frames ∧ 40 * n ≤ (kR κ).locals ∧ mc ≤ (kR κ).cells ∧ ms ≤ (kR κ).slots ∧ (kme κ).locks = false
section CT
variable {κ : Kx Unit} {cc : ByteArray} {own : String} {n mc ms pc q : Nat} {ls : List (Nat × Value)} {st : List Value} {ws : va_W} {cl sl : Nat}
theorem Gz.x (C : Gz κ cc own n mc ms) : (kp κ).tables.exec = Jvm.exec := C.1
theorem Gz.b (C : Gz κ cc own n mc ms) : (kc κ).code = cc := C.2.1
theorem Gz.ml (C : Gz κ cc own n mc ms) : (kc κ).maxLocals = kn κ := C.2.2.1
theorem Gz.ow (C : Gz κ cc own n mc ms) : (ks κ).vm.findClass own = some (km κ).cls := C.2.2.2.1
theorem Gz.ts (C : Gz κ cc own n mc ms) : ∀ w ∈ tb2, w.before (ka κ) (ks κ) = true := C.2.2.2.2.1
theorem Gz.K (C : Gz κ cc own n mc ms) : va_K (kD κ) vwCl (ty3 (kcs κ)) (ks κ) := C.2.2.2.2.2.1
theorem Gz.A (C : Gz κ cc own n mc ms) : ∀ q : Nat, (ks κ).heap.size ≤ q → kA κ q := C.2.2.2.2.2.2.1
theorem Gz.fr (C : Gz κ cc own n mc ms) : n ≤ (kR κ).frames := C.2.2.2.2.2.2.2.1
theorem Gz.lo (C : Gz κ cc own n mc ms) : 40 * n ≤ (kR κ).locals := C.2.2.2.2.2.2.2.2.1
theorem Gz.ce (C : Gz κ cc own n mc ms) : mc ≤ (kR κ).cells := C.2.2.2.2.2.2.2.2.2.1
theorem Gz.so (C : Gz κ cc own n mc ms) : ms ≤ (kR κ).slots := C.2.2.2.2.2.2.2.2.2.2.1
theorem Gz.lk (C : Gz κ cc own n mc ms) : (kme κ).locks = false := C.2.2.2.2.2.2.2.2.2.2.2
theorem z_iconst (q : Nat) (C : Gz κ cc own n mc ms) {z : Int} {v : Int32} (d : decode cc pc = .ok (.iconst z, 1)) (hv : Int32.ofInt z = v) (hq : pc + 1 = q) (k : Zw κ q ls (.int v :: st) ws cl sl) : Zw κ pc ls st ws cl sl := by
  subst hq
  exact fun H locs arr hP hD hS hl => lv_iconst C.x C.b d hv (k H locs arr hP hD hS hl)
theorem z_bipush (q : Nat) (C : Gz κ cc own n mc ms) {z : Int} {v : Int32} (d : decode cc pc = .ok (.bipush z, 2)) (hv : (Int8.ofInt z).toInt32 = v) (hq : pc + 2 = q) (k : Zw κ q ls (.int v :: st) ws cl sl) : Zw κ pc ls st ws cl sl := by
  subst hq
  exact fun H locs arr hP hD hS hl => lv_bipush C.x C.b d hv (k H locs arr hP hD hS hl)
theorem z_sipush (q : Nat) (C : Gz κ cc own n mc ms) {z : Int} {v : Int32} (d : decode cc pc = .ok (.sipush z, 3)) (hv : (Int16.ofInt z).toInt32 = v) (hq : pc + 3 = q) (k : Zw κ q ls (.int v :: st) ws cl sl) : Zw κ pc ls st ws cl sl := by
  subst hq
  exact fun H locs arr hP hD hS hl => lv_sipush C.x C.b d hv (k H locs arr hP hD hS hl)
theorem z_aload_n (q : Nat) (C : Gz κ cc own n mc ms) {z : Fin 4} {i : Nat} {x : Nat} (d : decode cc pc = .ok (.aload_n z, 1)) (j : Nat) (hj : ls[j]? = some (i, .ref x)) (hi : (z : Nat) = i) (hq : pc + 1 = q) (k : Zw κ q ls (.ref x :: st) ws cl sl) : Zw κ pc ls st ws cl sl := by
  subst hq
  exact fun H locs arr hP hD hS hl => lv_aload_n C.x C.b d hi (lv_at hl j hj) (k H locs arr hP hD hS hl)
theorem z_iload_n (q : Nat) (C : Gz κ cc own n mc ms) {z : Fin 4} {i : Nat} {x : Int32} (d : decode cc pc = .ok (.iload_n z, 1)) (j : Nat) (hj : ls[j]? = some (i, .int x)) (hi : (z : Nat) = i) (hq : pc + 1 = q) (k : Zw κ q ls (.int x :: st) ws cl sl) : Zw κ pc ls st ws cl sl := by
  subst hq
  exact fun H locs arr hP hD hS hl => lv_iload_n C.x C.b d hi (lv_at hl j hj) (k H locs arr hP hD hS hl)
theorem z_istore_n (q : Nat) (ls' : List (Nat × Value)) (C : Gz κ cc own n mc ms) {z : Fin 4} {i : Nat} {x : Int32} (d : decode cc pc = .ok (.istore_n z, 1)) (hn : i < kn κ) (hl' : (i, Value.int x) :: ls.filter (fun q => !(q.1 == i) && !(q.1 + 1 == i && q.2.category == 2)) = ls') (hi : (z : Nat) = i) (hq : pc + 1 = q) (k : Zw κ q ls' st ws cl sl) : Zw κ pc ls (.int x :: st) ws cl sl := by
  subst hq
  exact fun H locs arr hP hD hS hl => lv_istore_n C.x C.b d hi hl hn hl' (fun arr' hl2 => k H locs arr' hP hD hS hl2)
theorem z_astore_n (q : Nat) (ls' : List (Nat × Value)) (C : Gz κ cc own n mc ms) {z : Fin 4} {i : Nat} {x : Nat} (d : decode cc pc = .ok (.astore_n z, 1)) (hn : i < kn κ) (hl' : (i, Value.ref x) :: ls.filter (fun q => !(q.1 == i) && !(q.1 + 1 == i && q.2.category == 2)) = ls') (hi : (z : Nat) = i) (hq : pc + 1 = q) (k : Zw κ q ls' st ws cl sl) : Zw κ pc ls (.ref x :: st) ws cl sl := by
  subst hq
  exact fun H locs arr hP hD hS hl => lv_astore_n C.x C.b d hi hl hn hl' (fun arr' hl2 => k H locs arr' hP hD hS hl2)
theorem z_iinc (q : Nat) (ls' : List (Nat × Value)) (C : Gz κ cc own n mc ms) {i : Nat} {z : Int} {x v : Int32} (d : decode cc pc = .ok (.iinc i z, 3)) (j : Nat) (hj : ls[j]? = some (i, .int x)) (hv : x + Int32.ofInt z = v) (hn : i < kn κ) (hl' : (i, Value.int v) :: ls.filter (fun q => !(q.1 == i) && !(q.1 + 1 == i && q.2.category == 2)) = ls') (hq : pc + 3 = q) (k : Zw κ q ls' st ws cl sl) : Zw κ pc ls st ws cl sl := by
  subst hq
  exact fun H locs arr hP hD hS hl => lv_iinc C.x C.b d hl (k := j) hj hv hn hl' (fun arr' hl2 => k H locs arr' hP hD hS hl2)
theorem z_dup (q : Nat) (C : Gz κ cc own n mc ms) {v : Value} (d : decode cc pc = .ok (.dup, 1)) (hv : v.category = 1) (hq : pc + 1 = q) (k : Zw κ q ls (v :: v :: st) ws cl sl) : Zw κ pc ls (v :: st) ws cl sl := by
  subst hq
  exact fun H locs arr hP hD hS hl => lv_dup C.x C.b d hv (k H locs arr hP hD hS hl)
theorem z_goto (q : Nat) (C : Gz κ cc own n mc ms) {off : Int} (d : decode cc pc = .ok (.goto off, 3)) (hq : (pc : Int) + off = (q : Int)) (k : Zw κ q ls st ws cl sl) : Zw κ pc ls st ws cl sl :=
  fun H locs arr hP hD hS hl => lv_goto C.x C.b d hq (k H locs arr hP hD hS hl)
theorem z_geT (q : Nat) (C : Gz κ cc own n mc ms) {x y : Int32} {off : Int} (d : decode cc pc = .ok (.if_icmp .ge off, 3)) (ht : (pc : Int) + off = (q : Int)) (hc : y ≤ x) (k : Zw κ q ls st ws cl sl) : Zw κ pc ls (.int y :: .int x :: st) ws cl sl :=
  fun H locs arr hP hD hS hl => lv_icmp_ge C.x C.b d ht (fun _ => k H locs arr hP hD hS hl) (fun h => absurd hc h)
theorem z_geF (q tgt : Nat) (C : Gz κ cc own n mc ms) {x y : Int32} {off : Int} (d : decode cc pc = .ok (.if_icmp .ge off, 3)) (ht : (pc : Int) + off = (tgt : Int)) (hc : ¬ y ≤ x) (hq : pc + 3 = q) (k : Zw κ q ls st ws cl sl) : Zw κ pc ls (.int y :: .int x :: st) ws cl sl := by
  subst hq
  exact fun H locs arr hP hD hS hl => lv_icmp_ge C.x C.b d ht (fun h => absurd h hc) (fun _ => k H locs arr hP hD hS hl)
theorem z_mmax (q : Nat) (C : Gz κ cc own n mc ms) {idx : Nat} {x y v : Int32} (d : decode cc pc = .ok (.invokestatic idx, 3)) (w1 : Cond.methodLink own idx Lib.Math.max.name ∈ tb2) (hn : 1 ≤ n) (hcl : cl ≤ mc) (hsl : sl ≤ ms) (hs : (st.map fun v => v.category).sum ≤ 8) (hv : (if x < y then y else x) = v) (hq : pc + 3 = q) (k : Zw κ q ls (.int v :: st) ws cl sl) : Zw κ pc ls (.int y :: .int x :: st) ws cl sl := by
  subst hq
  subst hv
  exact fun H locs arr hP hD hS hl => va_mmax C.x C.b (by rw [C.ml, hl.1]) C.ow (C.ts _ w1) (C.ts _ w_st_max) (C.ts _ w_in_Math) (C.ts _ w_co_max) (Nat.le_trans hn C.fr) (by have := C.lo; omega) (Nat.le_trans hcl C.ce) (Nat.le_trans hsl C.so) d (k H locs arr hP hD hS hl)
theorem z_obj (q : Nat) (C : Gz κ cc own n mc ms) {idx a : Nat} (d : decode cc pc = .ok (.invokespecial idx, 3)) (w1 : Cond.methodLink own idx Lib.objectInit ∈ tb2) (hn : 1 ≤ n) (hs : (st.map fun v => v.category).sum ≤ 8) (hq : pc + 3 = q) (k : Zw κ q ls st ws cl sl) : Zw κ pc ls (.ref a :: st) ws cl sl := by
  subst hq
  refine fun H locs arr hP hD hS hl => W.objInit C.x C.b C.ow (C.ts _ w1) (C.ts _ (m2 (List.mem_of_getElem? (i := 90) (by decide +kernel)) (by decide +kernel))) (C.ts _ (m2 (List.mem_of_getElem? (i := 91) (by decide +kernel)) (by decide +kernel))) rfl (by rw [C.ml]; exact hl.1) rfl d (Nat.le_trans hn C.fr) (by show 2 * 0 + _ + 12 ≤ _; have := C.lo; omega) (k H locs arr hP hD hS hl)
theorem z_newI (q : Nat) (C : Gz κ cc own n mc ms) {v : Int32} {N : Nat} (d : decode cc pc = .ok (.newarray .int, 2)) (hv : ¬ v < 0) (hN : v.toNatClampNeg = N) (hb : N ≤ 1000) (hcl : cl + 1 ≤ mc) (hsl : sl + N ≤ ms) (hq : pc + 2 = q) (k : ∀ a, Zw κ q ls (.ref a :: st) (ws ++ [(a, .inl ((kcs κ).1, N, .inl (fun _ => 0)))]) (cl + 1) (sl + N)) : Zw κ pc ls (.int v :: st) ws cl sl := by
  subst hq
  refine fun H locs arr hP hD hS hl => va_newa (atype := .int) (ty := .int) (a0 := (N, .inl (fun _ => 0))) C.x C.b (C.ts (.arrayClass .int) (m2 (List.mem_of_getElem? (i := 110) (by decide +kernel)) (by decide +kernel))) rfl C.K hP hD hS C.A (fun _ => rfl) hv hN (by show N * 4 ≤ _; omega) (Nat.le_trans hcl C.ce) (Nat.le_trans hsl C.so) d (fun a cA H1 hK1 hP1 hD1 hS1 => ?_)
  have e1 := (hK1.2 3 (cA, .int) rfl).2
  have e2 := (C.K.2 0 ((kcs κ).1, .int) rfl).2
  have e3 : cA = (kcs κ).1 := Option.some.inj ((show _ = some cA from e1).symm.trans e2)
  subst e3
  exact k a H1 locs arr hP1 hD1 hS1 hl
theorem z_newJ (q : Nat) (C : Gz κ cc own n mc ms) {v : Int32} {N : Nat} (d : decode cc pc = .ok (.newarray .long, 2)) (hv : ¬ v < 0) (hN : v.toNatClampNeg = N) (hb : N ≤ 1000) (hcl : cl + 1 ≤ mc) (hsl : sl + N ≤ ms) (hq : pc + 2 = q) (k : ∀ a, Zw κ q ls (.ref a :: st) (ws ++ [(a, .inl ((kcs κ).2.1, N, .inr (.inl (fun _ => 0))))]) (cl + 1) (sl + N)) : Zw κ pc ls (.int v :: st) ws cl sl := by
  subst hq
  refine fun H locs arr hP hD hS hl => va_newa (atype := .long) (ty := .long) (a0 := (N, .inr (.inl (fun _ => 0)))) C.x C.b (C.ts (.arrayClass .long) (m2 (List.mem_of_getElem? (i := 317) (by decide +kernel)) (by decide +kernel))) rfl C.K hP hD hS C.A (fun _ => rfl) hv hN (by show N * 8 ≤ _; omega) (Nat.le_trans hcl C.ce) (Nat.le_trans hsl C.so) d (fun a cA H1 hK1 hP1 hD1 hS1 => ?_)
  have e1 := (hK1.2 3 (cA, .long) rfl).2
  have e2 := (C.K.2 1 ((kcs κ).2.1, .long) rfl).2
  have e3 : cA = (kcs κ).2.1 := Option.some.inj ((show _ = some cA from e1).symm.trans e2)
  subst e3
  exact k a H1 locs arr hP1 hD1 hS1 hl
theorem z_newS (q : Nat) (C : Gz κ cc own n mc ms) {idx : Nat} {v : Int32} {N : Nat} (d : decode cc pc = .ok (.anewarray idx, 3)) (w1 : Cond.classLink own idx "WireWalkers$Sheet" ∈ tb2) (hv : ¬ v < 0) (hN : v.toNatClampNeg = N) (hb : N ≤ 1000) (hcl : cl + 1 ≤ mc) (hsl : sl + N ≤ ms) (hq : pc + 3 = q) (k : ∀ a, Zw κ q ls (.ref a :: st) (ws ++ [(a, .inl ((kcs κ).2.2, N, .inr (.inr (.inr (.inr (fun _ => none))))))]) (cl + 1) (sl + N)) : Zw κ pc ls (.int v :: st) ws cl sl := by
  subst hq
  refine fun H locs arr hP hD hS hl => va_newq (C := "WireWalkers$Sheet") C.x C.b C.ow (C.ts _ w1) (va_AO.of (C.ts (.arrayOver (.object "WireWalkers$Sheet")) (m2 (List.mem_of_getElem? (i := 294) (by decide +kernel)) (by decide +kernel)))) C.K hP hD hS C.A hv hN (by omega) (Nat.le_trans hcl C.ce) (Nat.le_trans hsl C.so) d (fun a cA H1 hK1 hP1 hD1 hS1 => ?_)
  obtain ⟨k1, c1, a1, a2, a3, a4⟩ := (hK1.2 3 (cA, .object "WireWalkers$Sheet") rfl).2
  obtain ⟨k2, c2, b1, b2, b3, b4⟩ := (C.K.2 2 ((kcs κ).2.2, .object "WireWalkers$Sheet") rfl).2
  have e3 : cA = (kcs κ).2.2 := Option.some.inj (a4.symm.trans b4)
  subst e3
  exact k a H1 locs arr hP1 hD1 hS1 hl
theorem z_new (q : Nat) (C : Gz κ cc own n mc ms) {idx ci N : Nat} {Cn : String} {T : u_T} {ty : Nat → FieldType} (fs : List Value) (d : decode cc pc = .ok (.new idx, 3)) (w1 : Cond.classLink own idx Cn ∈ tb2) (w2 : Cond.instantiable Cn N ∈ tb2) (w3 : Cond.initialized Cn ∈ tb2) (hin : ∀ w ∈ u_ws Cn T N, w ∈ tb2) (hty : ∀ k, k < N → parseFieldDescriptor (T k).2.2.1 = some (ty k)) (hc : vwCl[ci]? = some (Cn, T, N)) (hfs : ∀ j, j < N → defaultValue (ty j) = vp_V fs j) (hcl : cl + 1 ≤ mc) (hsl : sl + N ≤ ms) (hq : pc + 3 = q) (k : ∀ a, Zw κ q ls (.ref a :: st) (ws ++ [(a, .inr (ci, fs))]) (cl + 1) (sl + N)) : Zw κ pc ls st ws cl sl := by
  subst hq
  exact fun H locs arr hP hD hS hl => va_new C.x C.b C.ts hin ty hty C.ow (C.ts _ w1) (C.ts _ w2) (C.ts _ w3) C.K hP hD hS C.A hc hfs (Nat.le_trans hcl C.ce) (Nat.le_trans hsl C.so) d (fun a H1 hP1 hD1 hS1 => k a H1 locs arr hP1 hD1 hS1 hl)
theorem z_putF (q : Nat) (ws' : va_W) (C : Gz κ cc own n mc ms) (hin2 : (kme κ).name = "<init>") {idx ci N a : Nat} {Cn : String} {T : u_T} {ty0 : Nat → FieldType} {ty : FieldType} {fs : List Value} {v : Value} (d : decode cc pc = .ok (.putfield idx, 3)) (q0 : Nat) (he : ws[q0]? = some (a, .inr (ci, fs))) (hc : vwCl[ci]? = some (Cn, T, N)) (hin : ∀ w ∈ u_ws Cn T N, w ∈ tb2) (hty : ∀ k, k < N → parseFieldDescriptor (T k).2.2.1 = some (ty0 k)) (hnm : ∀ a, a < N → ∀ b, b < N → a ≠ b → (T a).2.1 ≠ (T b).2.1) (j : Nat) (hj : j < N) (w1 : Cond.fieldLink own idx (T j).1 (T j).2.1 (T j).2.2.1 ∈ tb2) (hfin : (T j).2.2.2 = true) (hdecl : (T j).1 = own) (hd : parseFieldDescriptor (T j).2.2.1 = some ty) (hn : narrow ty v = v) (hf : fits ty v = true) (hl' : j < fs.length) (hw : ws.set q0 (a, .inr (ci, fs.set j v)) = ws') (hq : pc + 3 = q) (k : Zw κ q ls st ws' cl sl) : Zw κ pc ls (v :: .ref a :: st) ws cl sl := by
  subst hq
  subst hw
  exact fun H locs arr hP hD hS hl => va_putF C.x C.b C.ts hin ty0 hty hnm C.ow C.K hP hD hS q0 he hc j hj (C.ts _ w1) (fun _ h9 => h9) hfin hin2 hdecl hd hn hf hl' d (fun H1 locs1 hP1 hD1 hS1 => k H1 locs1 arr hP1 hD1 hS1 hl)
theorem z_putI (q : Nat) (ws' : va_W) (C : Gz κ cc own n mc ms) {idx ci N a : Nat} {Cn : String} {T : u_T} {ty0 : Nat → FieldType} {ty : FieldType} {fs : List Value} {v : Value} (d : decode cc pc = .ok (.putfield idx, 3)) (q0 : Nat) (he : ws[q0]? = some (a, .inr (ci, fs))) (hc : vwCl[ci]? = some (Cn, T, N)) (hin : ∀ w ∈ u_ws Cn T N, w ∈ tb2) (hty : ∀ k, k < N → parseFieldDescriptor (T k).2.2.1 = some (ty0 k)) (hnm : ∀ a, a < N → ∀ b, b < N → a ≠ b → (T a).2.1 ≠ (T b).2.1) (j : Nat) (hj : j < N) (w1 : Cond.fieldLink own idx (T j).1 (T j).2.1 (T j).2.2.1 ∈ tb2) (hfin : (T j).2.2.2 = false) (hd : parseFieldDescriptor (T j).2.2.1 = some ty) (hn : narrow ty v = v) (hf : fits ty v = true) (hl' : j < fs.length) (hw : ws.set q0 (a, .inr (ci, fs.set j v)) = ws') (hq : pc + 3 = q) (k : Zw κ q ls st ws' cl sl) : Zw κ pc ls (v :: .ref a :: st) ws cl sl := by
  subst hq
  subst hw
  exact fun H locs arr hP hD hS hl => va_put C.x C.b C.ts hin ty0 hty hnm C.ow C.K hP hD hS q0 he hc j hj (C.ts _ w1) (fun _ h9 => h9) hfin hd hn hf hl' d (fun H1 locs1 hP1 hD1 hS1 => k H1 locs1 arr hP1 hD1 hS1 hl)
theorem z_get (q : Nat) (C : Gz κ cc own n mc ms) {idx ci N a : Nat} {Cn : String} {T : u_T} {fs : List Value} {v : Value} (d : decode cc pc = .ok (.getfield idx, 3)) (q0 : Nat) (he : ws[q0]? = some (a, .inr (ci, fs))) (hc : vwCl[ci]? = some (Cn, T, N)) (hin : ∀ w ∈ u_ws Cn T N, w ∈ tb2) (j : Nat) (hj : j < N) (w1 : Cond.fieldLink own idx (T j).1 (T j).2.1 (T j).2.2.1 ∈ tb2) (hv : fs[j]? = some v) (hq : pc + 3 = q) (k : Zw κ q ls (v :: st) ws cl sl) : Zw κ pc ls (.ref a :: st) ws cl sl := by
  subst hq
  exact fun H locs arr hP hD hS hl => va_get C.x C.b C.ts hin C.ow C.K hP q0 he hc j hj (C.ts _ w1) (fun _ h9 => h9) hv d (k H locs arr hP hD hS hl)
theorem z_iast (q : Nat) (ws' : va_W) (C : Gz κ cc own n mc ms) {a N : Nat} {f : Nat → Int32} {i v : Int32} (d : decode cc pc = .ok (.iastore, 1)) (q0 : Nat) (ha : ws[q0]? = some (a, .inl ((kcs κ).1, N, .inl f))) (hin : vp_in i N) (hw : ws.set q0 (a, .inl ((kcs κ).1, N, .inl (upd f i.toNatClampNeg v))) = ws') (hq : pc + 1 = q) (k : Zw κ q ls st ws' cl sl) : Zw κ pc ls (.int v :: .int i :: .ref a :: st) ws cl sl := by
  subst hq
  subst hw
  exact fun H locs arr hP hD hS hl => va_iast C.x C.b C.K hP hD hS q0 0 ha rfl hin d (fun H1 locs1 hP1 hD1 hS1 => k H1 locs1 arr hP1 hD1 hS1 hl)
theorem z_aast (q : Nat) (ws' : va_W) (C : Gz κ cc own n mc ms) {a N v : Nat} {vs : List Value} {f : Nat → Option Nat} {i : Int32} (d : decode cc pc = .ok (.aastore, 1)) (q0 qk : Nat) (ha : ws[q0]? = some (a, .inl ((kcs κ).2.2, N, .inr (.inr (.inr (.inr f)))))) (hv : ws[qk]? = some (v, .inr (1, vs))) (hin : vp_in i N) (hw : ws.set q0 (a, .inl ((kcs κ).2.2, N, .inr (.inr (.inr (.inr (va_up f i.toNatClampNeg (some v))))))) = ws') (hq : pc + 1 = q) (k : Zw κ q ls st ws' cl sl) : Zw κ pc ls (.ref v :: .int i :: .ref a :: st) ws cl sl := by
  subst hq
  subst hw
  exact fun H locs arr hP hD hS hl => va_astq C.x C.b C.K hP hD hS q0 2 qk 1 (r := (RX1, TX1, 4)) ha rfl hv rfl hin d (fun H1 locs1 hP1 hD1 hS1 => k H1 locs1 arr hP1 hD1 hS1 hl)
theorem z_ws (ws' : va_W) (hw : ws = ws') (k : Zw κ pc ls st ws' cl sl) : Zw κ pc ls st ws cl sl := hw ▸ k
/-- a constructor's contract: out of its new object's cell w0 (one cell), the cells w1 -/
def pcC (D : va_G) (cs : C3) (sz : Nat) (av : List Value) (w0 : va_W) : Array Value → State → Prop := fun a U => a = av.toArray ∧ TB U ∧ va_K D vwCl (ty3 cs) U ∧ U.heap.size = sz ∧ va_P D vwCl w0 U.heap ∧ va_D (fun _ => True) w0
def qcC (D : va_G) (cs : C3) (sz : Nat) (w0 : va_W) (P : C3 → va_W → Prop) : Array Value → State → Outcome → State → Prop := fun _ s0 oc t => oc = .returned none ∧ (∃ w1, P cs w1 ∧ va_P D vwCl w1 t.heap ∧ va_D (va_A w0 sz) w1) ∧ va_F (va_A w0 sz) s0 t
def Cc (y : MethodName) (bytes : ByteArray) (nL lev mc ms : Nat) (av : List Value) (w0 : va_W) (P : C3 → va_W → Prop) : Prop :=
  ∀ (l : Launch) (D : va_G) (cs : C3) (sz : Nat), Met l y [.code y bytes nL none] { frames := lev, cells := mc, slots := ms, locals := 40 * lev } (pcC D cs sz av w0) (qcC D cs sz w0 P) mc ms (va_A w0 sz)
theorem z_ret (C : Gz κ cc own n mc ms) {P : C3 → va_W → Prop} {w0 : va_W} (E : kQ κ () = MQ (kb κ) (qcC (kD κ) (kcs κ) (ks κ).heap.size w0 P) (ka κ) (ks κ) cl sl (kA κ)) (hA : kA κ = va_A w0 (ks κ).heap.size) (hr : (kme κ).sig.returnType = none) (d : decode cc pc = .ok (.return_, 1)) (hP0 : P (kcs κ) ws) : Zw κ pc ls [] ws cl sl := by
  intro H locs arr hP hD hS hl
  rw [E]
  exact W.vret C.x C.b hr (fun t ht hW => ⟨rfl, ⟨ws, hP0, by rw [ht]; exact hP, by rw [← hA]; exact hD⟩, by rw [← hA]; exact hS.F ht⟩) hS.2.2 d C.lk
theorem pcC_blind (D : va_G) (cs : C3) (sz : Nat) (av : List Value) (w0 : va_W) : FrameBlind (pcC D cs sz av w0) := by
  intro a U g mk q
  obtain ⟨q1, q2, q3, q4, q5, q6⟩ := q
  exact ⟨q1, tb_move (U := U) (U' := U.calling g mk a) rfl q2, va_K.moved (u := U) (U := U.calling g mk a) (Vm.Alike.refl U.vm) q3, q4, q5, q6⟩
theorem cc_of {y : MethodName} {bytes : ByteArray} {nL lev mc ms : Nat} {av : List Value} {w0 : va_W} {P : C3 → va_W → Prop} (hy : plainName y.cls = true) (hyn : y.name = "<init>") (hlen : (lg_sl av).length ≤ nL)
    (body : ∀ κ : Kx Unit, kn κ = nL → Gz κ bytes y.cls lev mc ms → (kme κ).name = "<init>" → kQ κ () = MQ (kb κ) (qcC (kD κ) (kcs κ) (ks κ).heap.size w0 P) (ka κ) (ks κ) mc ms (kA κ) → kA κ = va_A w0 (ks κ).heap.size → (kme κ).sig.returnType = none → Zw κ 0 (lv_args 0 av) [] w0 0 0) : Cc y bytes nL lev mc ms av w0 P := by
  intro l D cs sz
  refine Met.ofW (cc := bytes) (maxL := nL) (ret := none) hy rfl ?_
  intro p e s m args below meth c s₁ B hml hv
  obtain ⟨rfl, hTB, hK, hsz, hP, hD⟩ := hv
  subst hsz
  have hown : s.vm.findClass y.cls = some m.cls := findClass_of_methodNamed B.named
  have hin : meth.name = "<init>" := (name_of_methodNamed B.named B.method).1.trans hyn
  have hl := lv_entry av (n := nL) hlen
  rw [lg_entry_eq]
  have hb := body ((p, l, e, (headSpec [.code y bytes nL none] { frames := lev, cells := mc, slots := ms, locals := 40 * lev }).room, s, m, av.toArray, below, meth, c), fun _ => 0, D, cs, va_A w0 s.heap.size, nL, 0, 0, fun _ => MQ below (qcC D cs s.heap.size w0 P) av.toArray s mc ms (va_A w0 s.heap.size)) rfl
    ⟨B.exec, B.bytes, hml, hown, tb_use hTB, hK, fun q h => Or.inr h, Nat.le_refl _, Nat.le_refl _, Nat.le_refl _, Nat.le_refl _, B.notSynchronized⟩ hin rfl rfl B.returns
  exact hb s.heap [] _ hP hD.self va_S.rf hl
/-- a constructor, as the class own calls it -/
def CI (own : String) (idx : Nat) (y : MethodName) (bytes : ByteArray) (nL m : Nat) : Prop :=
  (Cond.methodLink own idx y ∈ tb2 ∨ ∃ host, Cond.methodLinkNest own idx y host ∈ tb2) ∧ y.name = "<init>" ∧ Cond.instanceMethod y ∈ tb2 ∧ Cond.initialized y.cls ∈ tb2 ∧ Cond.code y bytes nL none ∈ tb2 ∧ (y.cls ≠ "java/lang/invoke/MethodHandle" ∧ y.cls ≠ "java/lang/invoke/VarHandle" ∧ (parseMethodDescriptor y.desc).map (fun d => d.parameters.length) = some m) ∧ nL ≤ 21
theorem z_call (q : Nat) (As : List Value) (C : Gz κ cc own n mc ms) {idx b m' nL mc' ms' : Nat} (lev : Nat) {y : MethodName} {bytes : ByteArray} {e0 : va_E} {wr : va_W} {stk : List Value} {P : C3 → va_W → Prop} (d : decode cc pc = .ok (.invokespecial idx, 3)) (V : CI own idx y bytes nL m') (M : Cc y bytes nL lev mc' ms' (.ref b :: As) [(b, e0)] P) (hws : ws = wr ++ [(b, e0)]) (hst : stk = As.reverse ++ .ref b :: st) (hm : As.length = m') (hlev : lev + 1 ≤ n) (hcl : cl + mc' ≤ mc) (hsl : sl + ms' ≤ ms) (hW : (st.map fun v => v.category).sum ≤ 8) (hq : pc + 3 = q) (k : ∀ w1, P (kcs κ) w1 → Zw κ q ls st (wr ++ w1) (cl + mc') (sl + ms')) : Zw κ pc ls stk ws cl sl := by
  subst hq
  subst hst
  subst hws
  obtain ⟨hl0, hnm, w1, w3, w4, ⟨n1, n2, n3⟩, hnL⟩ := V
  intro H locs arr hP hD hS hl
  have hPc : va_P (kD κ) vwCl [(b, e0)] H := fun z x hz => by
    have hz1 : z < 1 := (List.getElem?_eq_some_iff.mp hz).1
    have : z = 0 := by omega
    subst this
    refine hP wr.length x ?_
    rw [List.getElem?_append_right (Nat.le_refl _), Nat.sub_self]
    exact hz
  have hDc : va_D (fun _ => True) [(b, e0)] := ⟨fun i j p q hi hj _ => by
    have h1 : i < 1 := (List.getElem?_eq_some_iff.mp hi).1
    have h2 : j < 1 := (List.getElem?_eq_some_iff.mp hj).1
    omega, fun _ _ _ => trivial⟩
  have hAb : kA κ b := hD.2 wr.length (b, e0) (by rw [List.getElem?_append_right (Nat.le_refl _), Nat.sub_self]; rfl)
  have hF : ∀ x, va_A [(b, e0)] H.size x → kA κ x := by
    intro x hx
    rcases hx with ⟨z, e, hz⟩ | hx
    · have hz1 : z < 1 := (List.getElem?_eq_some_iff.mp hz).1
      have : z = 0 := by omega
      subst this
      cases hz
      exact hAb
    · exact C.A x (Nat.le_trans hS.1 hx)
  have hcode : ∀ w ∈ [Cond.code y bytes nL none], ∀ (a' : Array Value) (U : State), (ks κ).WarmedH U.vm → w.before a' U = true := by
    intro w hw a' U hWm
    rw [List.mem_singleton.mp hw]
    exact tb_use (tb_warm hWm C.ts) _ w4
  have hR : lev + 1 ≤ (kR κ).frames ∧ 8 + (nL + 11) + 40 * lev ≤ (kR κ).locals := by
    have := C.fr; have := C.lo; omega
  have hcat : 2 * (F0 (km κ) pc arr (As.reverse ++ .ref b :: st)).monitorRoom + (st.map fun v => v.category).sum ≤ 8 := lv_room hW
  have hpre : PreS (ks κ) H (pcC (kD κ) (kcs κ) H.size (.ref b :: As) [(b, e0)]) (.ref b :: As) :=
    ⟨pcC_blind _ _ _ _ _, fun U hU hWm => ⟨rfl, tb_warm hWm C.ts, va_K.moved hWm.alike C.K, by rw [hU], by rw [hU]; exact hPc, hDc⟩⟩
  have run : va_Run (kp κ) (kl κ) (ke κ) (kR κ) (ks κ) (km κ) (ka κ) (kb κ) (kme κ) (kc κ) H locs cl sl mc' ms' (F0 (km κ) pc arr (As.reverse ++ .ref b :: st)) st (qcC (kD κ) (kcs κ) H.size [(b, e0)] P (Value.ref b :: As).toArray) (va_A [(b, e0)] H.size) := by
    rcases hl0 with hl0 | ⟨host, hl0⟩
    · exact va_runI (Ts := tb2) (own := own) (nL := kn κ) (As := As) ⟨C.x, C.b, C.ml, C.ow, C.ts⟩ (M (kl κ) (kD κ) (kcs κ) H.size) ⟨⟨rfl, rfl, hR.1, hR.2, hcode, List.mem_singleton.mpr rfl, C.ts _ w4, C.ts _ w3, ⟨n1, n2⟩, mc_len n3, C.ts _ hl0⟩, hnm, C.ts _ w1⟩ hpre rfl hm hl.1 rfl hcat d ⟨Nat.le_trans hcl C.ce, Nat.le_trans hsl C.so⟩
    · exact va_runIN (Ts := tb2) (own := own) (nL := kn κ) (As := As) ⟨C.x, C.b, C.ml, C.ow, C.ts⟩ (M (kl κ) (kD κ) (kcs κ) H.size) ⟨⟨⟨rfl, rfl, hR.1, hR.2, hcode, List.mem_singleton.mpr rfl⟩, C.ts _ w4, C.ts _ w3, ⟨n1, n2⟩, mc_len n3, C.ts _ hl0⟩, hnm, C.ts _ w1⟩ hpre rfl hm hl.1 rfl hcat d ⟨Nat.le_trans hcl C.ce, Nat.le_trans hsl C.so⟩
  intro T0 hT0 X
  obtain ⟨v, st0, t, T', L, h0, X', hL, e1, e2, ⟨hv, ⟨w1', hP1, hPw, hDw⟩, hFr⟩, go⟩ := run T0 hT0 X
  cases hv
  unfold va_F at hFr
  rw [h0] at hFr
  have hlen : ∀ z, z < wr.length → (wr ++ [(b, e0)])[z]? = wr[z]? := fun z hz => List.getElem?_append_left hz
  have apart : ∀ (z : Nat) (x : Nat × va_E), wr[z]? = some x → x.1 < H.size ∧ ¬ va_A [(b, e0)] H.size x.1 := by
    intro z x hx
    have hz : z < wr.length := (List.getElem?_eq_some_iff.mp hx).1
    have hx2 : (wr ++ [(b, e0)])[z]? = some x := by rw [hlen z hz]; exact hx
    have hlt := (hP z x hx2).lt
    refine ⟨hlt, fun ha => ?_⟩
    rcases ha with ⟨z2, e, hz2⟩ | ha
    · have hz1 : z2 < 1 := (List.getElem?_eq_some_iff.mp hz2).1
      have : z2 = 0 := by omega
      subst this
      have hb2 : (wr ++ [(b, e0)])[wr.length]? = some (b, e0) := by rw [List.getElem?_append_right (Nat.le_refl _), Nat.sub_self]; rfl
      have hxb : x.1 = b := by
        have := Option.some.inj hz2
        exact (congrArg Prod.fst this).symm
      have := hD.1 z wr.length x (b, e0) hx2 hb2 hxb
      omega
    · omega
  have hPr : va_P (kD κ) vwCl wr t.heap := fun z x hx => by
    have hz : z < wr.length := (List.getElem?_eq_some_iff.mp hx).1
    obtain ⟨g1, g2⟩ := apart z x hx
    exact (hP z x (by rw [hlen z hz]; exact hx)).kept (hFr.2 x.1 g1 g2)
  have hDr : va_D (kA κ) wr := by
    refine ⟨fun i j p q hi hj e => ?_, fun z x hx => ?_⟩
    · exact hD.1 i j p q (by rw [hlen i (List.getElem?_eq_some_iff.mp hi).1]; exact hi) (by rw [hlen j (List.getElem?_eq_some_iff.mp hj).1]; exact hj) e
    · exact hD.2 z x (by rw [hlen z (List.getElem?_eq_some_iff.mp hx).1]; exact hx)
  have hP2 : va_P (kD κ) vwCl (wr ++ w1') T'.heap := by rw [e1]; exact va_P.app hPr hPw
  have hD2 : va_D (kA κ) (wr ++ w1') := va_D.app hDr (hDw.weaken (fun z x _ h => hF x.1 h)) (fun i j x y hx hy hxy => (apart i x hx).2 (by rw [hxy]; exact hDw.2 j y hy))
  have hS2 : va_S (kA κ) (ks κ).heap T'.heap (locs ++ L) := by
    rw [e1]
    refine ⟨Nat.le_trans hS.1 hFr.1, fun z h1 h2 => ?_, fun z hz => ?_⟩
    · rw [hFr.2 z (Nat.lt_of_lt_of_le h1 hS.1) (fun ha => h2 (hF z ha))]
      exact hS.2.1 z h1 h2
    · rcases List.mem_append.mp hz with hz | hz
      · exact hS.2.2 z hz
      · exact hF _ (hL z hz)
  obtain ⟨t2, a1, b1⟩ := k w1' hP1 T'.heap (locs ++ L) arr hP2 hD2 hS2 hl T' rfl X'
  exact ⟨t2, go t2 a1, b1⟩
end CT
