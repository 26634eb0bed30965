/-! fields, arrays, returns, calls -/
/-- a field's place, as an instruction of the class own links it by its index: class number ci, slot j -/
def FL (own : String) (idx ci j : Nat) : Prop := ∃ (C : String) (T : u_T) (N : Nat) (ty0 : Nat → FieldType), vwCl[ci]? = some (C, T, N) ∧ ci < 9 ∧ (∀ w ∈ u_ws C T N, w ∈ tb2) ∧ j < N ∧ nf ci = N ∧ (∀ k, k < N → parseFieldDescriptor (T k).2.2.1 = some (ty0 k)) ∧ (∀ a, a < N → ∀ b, b < N → a ≠ b → (T a).2.1 ≠ (T b).2.1) ∧ (Cond.fieldLink own idx (T j).1 (T j).2.1 (T j).2.2.1 ∈ tb2 ∨ ∃ host, Cond.fieldLinkNest own idx (T j).1 (T j).2.1 (T j).2.2.1 host ∈ tb2)
/-- and it may be written, as of the type ty -/
def FP (own : String) (idx ci j : Nat) (ty : FieldType) : Prop := ∃ (C : String) (T : u_T) (N : Nat) (ty0 : Nat → FieldType), vwCl[ci]? = some (C, T, N) ∧ ci < 9 ∧ (∀ w ∈ u_ws C T N, w ∈ tb2) ∧ j < N ∧ nf ci = N ∧ (∀ k, k < N → parseFieldDescriptor (T k).2.2.1 = some (ty0 k)) ∧ (∀ a, a < N → ∀ b, b < N → a ≠ b → (T a).2.1 ≠ (T b).2.1) ∧ (Cond.fieldLink own idx (T j).1 (T j).2.1 (T j).2.2.1 ∈ tb2 ∨ ∃ host, Cond.fieldLinkNest own idx (T j).1 (T j).2.1 (T j).2.2.1 host ∈ tb2) ∧ (T j).2.2.2 = false ∧ ty0 j = ty
section ROWS2
variable {Out : Type} {κ : Kx Out} {o : Option Out} {cc : ByteArray} {own : String} {n pc q : Nat} {ls : List (Nat × Value)} {st : List Value} {h : Hp}
theorem x_getv (C : Gd κ cc own n) {idx ci j k : Nat} (d : decode cc pc = .ok (.getfield idx, 3)) (F : FL own idx ci j) (hk : sk k = ci) {H : Heap} {locs : List Loc} {arr : Array Slot} {Q : State → Prop} {rest : List Value} (hP : va_P (kD κ) vwCl (wld (kad κ) (kcs κ) h) H) (kk : Wk κ Q H locs (F0 (km κ) (pc + 3) arr (fv (kad κ) h k j :: rest))) : Wk κ Q H locs (F0 (km κ) pc arr (.ref (kad κ k) :: rest)) := by
  obtain ⟨Cn, T, N, ty0, hc, hci, hin, hj, hN, hty, hnm, hl⟩ := F
  have hk9 : k < 93 := sk_lt hk (by omega)
  have he : (wld (kad κ) (kcs κ) h)[k]? = some (kad κ k, .inr (ci, (List.range (nf ci)).map (fv (kad κ) h k))) := by rw [wld_get hk9, ce_obj hk hci]
  have hv : ((List.range (nf ci)).map (fv (kad κ) h k))[j]? = some (fv (kad κ) h k j) := by
    rw [List.getElem?_map, List.getElem?_range (by omega)]; rfl
  rcases hl with hl | ⟨host, hl⟩
  · exact va_get C.x C.b C.ts hin C.ow C.K hP k he hc j hj (C.ts _ hl) (fun _ h9 => h9) hv d kk
  · exact va_getN C.x C.b C.ts hin C.ow C.K hP k he hc j hj (C.ts _ hl) (fun _ h9 => h9) hv d kk
theorem x_getI (q : Nat) (C : Gd κ cc own n) {idx ci j k : Nat} (d : decode cc pc = .ok (.getfield idx, 3)) (F : FL own idx ci j) (hk : sk k = ci) (hr : isR ci j = false) (hq : pc + 3 = q) (kk : Xz κ o q ls (.int (h.1 k j) :: st) h) : Xz κ o pc ls (.ref k :: st) h := by
  subst hq
  refine fun out ho H locs arr hP hS hl => x_getv C d F hk hP ?_
  have hv : fv (kad κ) h k j = .int (h.1 k j) := by unfold fv; rw [hk, hr]; rfl
  rw [hv]
  exact kk out ho H locs arr hP hS hl
theorem x_getR (q : Nat) (C : Gd κ cc own n) {idx ci j k c : Nat} (d : decode cc pc = .ok (.getfield idx, 3)) (F : FL own idx ci j) (hk : sk k = ci) (hr : isR ci j = true) (hc : sr k j = c) (hq : pc + 3 = q) (kk : Xz κ o q ls (.ref c :: st) h) : Xz κ o pc ls (.ref k :: st) h := by
  subst hq
  subst hc
  refine fun out ho H locs arr hP hS hl => x_getv C d F hk hP ?_
  have hv : fv (kad κ) h k j = .ref (kad κ (sr k j)) := by unfold fv; rw [hk, hr]; rfl
  rw [hv]
  exact kk out ho H locs arr hP hS hl
theorem x_put (q : Nat) (C : Gd κ cc own n) {idx ci j k : Nat} {ty : FieldType} {v : Int32} {T : Hp → Option Out} (d : decode cc pc = .ok (.putfield idx, 3)) (F : FP own idx ci j ty) (hk : sk k = ci) (hr : isR ci j = false) (hn : narrow ty (.int v) = .int v) (hf : fits ty (.int v) = true) (hq : pc + 3 = q) (kk : ∀ h', Xz κ (T h') q ls st h') : Xz κ (nm (uf h k j v) T) pc ls (.int v :: .ref k :: st) h := by
  subst hq
  intro out ho H locs arr hP hS hl
  obtain ⟨Cn, Tn, N, ty0, hc, hci, hin, hj, hN, hty, hnm, hlk, hfin, hty0⟩ := F
  have hk9 : k < 93 := sk_lt hk (by omega)
  have he : (wld (kad κ) (kcs κ) h)[k]? = some (kad κ k, .inr (ci, (List.range (nf ci)).map (fv (kad κ) h k))) := by rw [wld_get hk9, ce_obj hk hci]
  have hset : (wld (kad κ) (kcs κ) h).set k (kad κ k, .inr (ci, ((List.range (nf ci)).map (fv (kad κ) h k)).set j (.int v))) = wld (kad κ) (kcs κ) (uf h k j v) :=
    wld_set hk9 (by rw [ce_obj hk hci, set_fld hk (by omega) hr]) (fun a ha => ce_ext (uf_ne ha) rfl)
  have hd : parseFieldDescriptor (Tn j).2.2.1 = some ty := by rw [← hty0]; exact hty j hj
  have kf : ∀ (H1 : Heap) (locs1 : List Loc), va_P (kD κ) vwCl ((wld (kad κ) (kcs κ) h).set k (kad κ k, .inr (ci, ((List.range (nf ci)).map (fv (kad κ) h k)).set j (.int v)))) H1 → va_D (kA κ) ((wld (kad κ) (kcs κ) h).set k (kad κ k, .inr (ci, ((List.range (nf ci)).map (fv (kad κ) h k)).set j (.int v)))) → va_S (kA κ) (ks κ).heap H1 locs1 → Wk κ (kQ κ out) H1 locs1 (F0 (km κ) (pc + 3) arr (st.map (mv (kad κ)))) := by
    intro H1 locs1 hP1 _ hS1
    rw [hset] at hP1
    exact kk _ out ho H1 locs1 arr hP1 hS1 hl
  rcases hlk with hlk | ⟨host, hlk⟩
  · exact va_put C.x C.b C.ts hin ty0 hty hnm C.ow C.K hP (C.D h) hS k he hc j hj (C.ts _ hlk) (fun _ h9 => h9) hfin hd hn hf (by simp; omega) d kf
  · exact va_putN C.x C.b C.ts hin ty0 hty hnm C.ow C.K hP (C.D h) hS k he hc j hj (C.ts _ hlk) (fun _ h9 => h9) hfin hd hn hf (by simp; omega) d kf
theorem x_iald (q : Nat) (C : Gd κ cc own n) {k N : Nat} {i : Int32} (d : decode cc pc = .ok (.iaload, 1)) (hk : sk k = 9) (hN : sl k = N) (hq : pc + 1 = q) (kk : Xz κ o q ls (.int (ia h k i) :: st) h) : Xz κ (ck i N o) pc ls (.int i :: .ref k :: st) h := by
  subst hq
  subst hN
  refine x_ck fun hin out ho H locs arr hP hS hl => ?_
  have hk9 : k < 93 := sk_lt hk (by omega)
  exact va_iald C.x C.b C.K hP k 0 (by rw [wld_get hk9, ce_int hk]) rfl hin d (kk out ho H locs arr hP hS hl)
theorem x_ialc (q : Nat) (C : Gd κ cc own n) {k N j : Nat} {i : Int32} (d : decode cc pc = .ok (.iaload, 1)) (hk : sk k = 9) (hN : sl k = N) (hin : vp_in i N) (hj : i.toNatClampNeg = j) (hq : pc + 1 = q) (kk : Xz κ o q ls (.int (h.1 k j) :: st) h) : Xz κ o pc ls (.int i :: .ref k :: st) h := by
  subst hq
  subst hN
  subst hj
  refine fun out ho H locs arr hP hS hl => ?_
  have hk9 : k < 93 := sk_lt hk (by omega)
  exact va_iald C.x C.b C.K hP k 0 (by rw [wld_get hk9, ce_int hk]) rfl hin d (kk out ho H locs arr hP hS hl)
theorem x_lald (q : Nat) (C : Gd κ cc own n) {k N : Nat} {i : Int32} (d : decode cc pc = .ok (.laload, 1)) (hk : sk k = 10) (hN : sl k = N) (hq : pc + 1 = q) (kk : Xz κ o q ls (.long (la h k i) :: st) h) : Xz κ (ck i N o) pc ls (.int i :: .ref k :: st) h := by
  subst hq
  subst hN
  refine x_ck fun hin out ho H locs arr hP hS hl => ?_
  have hk9 : k < 93 := sk_lt hk (by omega)
  exact va_lald C.x C.b C.K hP k 1 (by rw [wld_get hk9, ce_long hk]) rfl hin d (kk out ho H locs arr hP hS hl)
theorem x_aald (q : Nat) (C : Gd κ cc own n) {i : Int32} (d : decode cc pc = .ok (.aaload, 1)) (hq : pc + 1 = q) (kk : vp_in i 4 → Xz κ o q ls (.ref (60 + 2 * i.toNatClampNeg) :: st) h) : Xz κ (ck i 4 o) pc ls (.int i :: .ref 59 :: st) h := by
  subst hq
  refine x_ck fun hin out ho H locs arr hP hS hl => ?_
  have hlt : i.toNatClampNeg < 4 := Nat.not_le.mp fun q => hin (Or.inr q)
  have hs : ∀ z, z < 4 → sr 59 z = 60 + 2 * z := by decide +kernel
  have he : (wld (kad κ) (kcs κ) h)[59]? = some (kad κ 59, .inl ((kcs κ).2.2, 4, .inr (.inr (.inr (.inr (fun i => some (kad κ (sr 59 i)))))))) := by
    rw [wld_get (by decide), ce_ref (by decide +kernel)]; rfl
  have k1 := kk hin out ho H locs arr hP hS hl
  rw [← hs _ hlt] at k1
  exact va_aldq C.x C.b C.K hP 59 2 he rfl hin d k1
theorem x_iast (q : Nat) (C : Gd κ cc own n) {k N : Nat} {i v : Int32} {T : Hp → Option Out} (d : decode cc pc = .ok (.iastore, 1)) (hk : sk k = 9) (hN : sl k = N) (hq : pc + 1 = q) (kk : ∀ h', Xz κ (T h') q ls st h') : Xz κ (ck i N (nm (ux h k i v) T)) pc ls (.int v :: .int i :: .ref k :: st) h := by
  subst hq
  subst hN
  refine x_ck fun hin out ho H locs arr hP hS hl => ?_
  have hk9 : k < 93 := sk_lt hk (by omega)
  have hset : (wld (kad κ) (kcs κ) h).set k (kad κ k, .inl ((kcs κ).1, sl k, .inl (upd (h.1 k) i.toNatClampNeg v))) = wld (kad κ) (kcs κ) (ux h k i v) :=
    wld_set hk9 (by rw [ce_int hk]; show _ = Sum.inl (_, _, Sum.inl ((uf h k i.toNatClampNeg v).1 k)); rw [uf_at]) (fun a ha => ce_ext (uf_ne ha) rfl)
  refine va_iast C.x C.b C.K hP (C.D h) hS k 0 (by rw [wld_get hk9, ce_int hk]) rfl hin d (fun H1 locs1 hP1 _ hS1 => ?_)
  rw [hset] at hP1
  exact kk _ out ho H1 locs1 arr hP1 hS1 hl
theorem x_last (q : Nat) (C : Gd κ cc own n) {k N : Nat} {i : Int32} {v : Int64} {T : Hp → Option Out} (d : decode cc pc = .ok (.lastore, 1)) (hk : sk k = 10) (hN : sl k = N) (hq : pc + 1 = q) (kk : ∀ h', Xz κ (T h') q ls st h') : Xz κ (ck i N (nm (uy h k i v) T)) pc ls (.long v :: .int i :: .ref k :: st) h := by
  subst hq
  subst hN
  refine x_ck fun hin out ho H locs arr hP hS hl => ?_
  have hk9 : k < 93 := sk_lt hk (by omega)
  have hset : (wld (kad κ) (kcs κ) h).set k (kad κ k, .inl ((kcs κ).2.1, sl k, .inr (.inl (vp_updL (h.2 k) i.toNatClampNeg v)))) = wld (kad κ) (kcs κ) (uy h k i v) :=
    wld_set hk9 (by rw [ce_long hk]; show _ = Sum.inl (_, _, Sum.inr (Sum.inl ((ul h k i.toNatClampNeg v).2 k))); rw [ul_at]) (fun a ha => ce_ext rfl (ul_ne ha))
  refine va_last C.x C.b C.K hP (C.D h) hS k 1 (by rw [wld_get hk9, ce_long hk]) rfl hin d (fun H1 locs1 hP1 _ hS1 => ?_)
  rw [hset] at hP1
  exact kk _ out ho H1 locs1 arr hP1 hS1 hl
theorem x_alen (q : Nat) (C : Gd κ cc own n) {k N : Nat} (d : decode cc pc = .ok (.arraylength, 1)) (hk : sk k = 9) (hN : sl k = N) (hq : pc + 1 = q) (kk : Xz κ o q ls (.int (nI N) :: st) h) : Xz κ o pc ls (.ref k :: st) h := by
  subst hq
  subst hN
  refine fun out ho H locs arr hP hS hl => ?_
  have hk9 : k < 93 := sk_lt hk (by omega)
  exact va_alen C.x C.b C.K hP k 0 (x := (sl k, .inl (h.1 k))) (by rw [wld_get hk9, ce_int hk]) rfl rfl d (kk out ho H locs arr hP hS hl)
/-! returns -/
def qE {Out : Type} (ad : Nat → Nat) (D : va_G) (cs : C3) (A : Nat → Prop) (enc : Out → Hp × Option Value) (out : Out) : Array Value → State → Outcome → State → Prop := fun _ s0 oc t => oc = .returned ((enc out).2.map (mv ad)) ∧ va_P D vwCl (wld ad cs (enc out).1) t.heap ∧ va_F A s0 t
def Ge {Out : Type} (κ : Kx Out) (enc : Out → Hp × Option Value) (ret : Option FieldType) : Prop := kQ κ = (fun out => MQ (kb κ) (qE (kad κ) (kD κ) (kcs κ) (kA κ) enc out) (ka κ) (ks κ) (kcl κ) (ksl κ) (kA κ)) ∧ (kme κ).sig.returnType = ret
def eI (o : Hp × Int32) : Hp × Option Value := (o.1, some (.int o.2))
def eL (o : Hp × Int64) : Hp × Option Value := (o.1, some (.long o.2))
def eR (o : Hp × Nat) : Hp × Option Value := (o.1, some (.ref o.2))
def eV (o : Hp) : Hp × Option Value := (o, none)
def rI (h : Hp) (o : Int32) : Hp × Option Value := (h, some (.int o))
def rL (h : Hp) (o : Int64) : Hp × Option Value := (h, some (.long o))
def rR (h : Hp) (o : Nat) : Hp × Option Value := (h, some (.ref o))
theorem x_iret (C : Gd κ cc own n) {enc : Out → Hp × Option Value} (E : Ge κ enc (some .int)) {v : Int32} {u : Out} (d : decode cc pc = .ok (.ireturn, 1)) (hu : enc u = (h, some (.int v))) : Xz κ (some u) pc ls [.int v] h := by
  intro out ho H locs arr hP hS hl
  cases ho
  rw [E.1]
  exact W.iret C.x C.b E.2 (fun t ht hW => ⟨by rw [hu]; rfl, by rw [hu, ht]; exact hP, hS.F ht⟩) hS.2.2 d C.lk
theorem x_zret (C : Gd κ cc own n) {enc : Out → Hp × Option Value} (E : Ge κ enc (some .boolean)) {v : Int32} {u : Out} (d : decode cc pc = .ok (.ireturn, 1)) (hv : v = 0 ∨ v = 1) (hu : enc u = (h, some (.int v))) : Xz κ (some u) pc ls [.int v] h := by
  intro out ho H locs arr hP hS hl
  cases ho
  rw [E.1]
  exact W.zret C.x C.b E.2 (by rcases hv with rfl | rfl <;> rfl) (fun t ht hW => ⟨by rw [hu]; rfl, by rw [hu, ht]; exact hP, hS.F ht⟩) hS.2.2 d C.lk
theorem x_zrc (C : Gd κ cc own n) {enc : Out → Hp × Option Value} (E : Ge κ enc (some .boolean)) {v : Int32} {u : Out} (d : decode cc pc = .ok (.ireturn, 1)) (hu : enc u = (h, some (.int v))) : Xz κ (cy (v = 0 ∨ v = 1) (some u)) pc ls [.int v] h :=
  x_cy fun hv => x_zret C E d hv hu
theorem x_lret (C : Gd κ cc own n) {enc : Out → Hp × Option Value} (E : Ge κ enc (some .long)) {v : Int64} {u : Out} (d : decode cc pc = .ok (.lreturn, 1)) (hu : enc u = (h, some (.long v))) : Xz κ (some u) pc ls [.long v] h := by
  intro out ho H locs arr hP hS hl
  cases ho
  rw [E.1]
  exact W.lret C.x C.b E.2 (fun t ht hW => ⟨by rw [hu]; rfl, by rw [hu, ht]; exact hP, hS.F ht⟩) hS.2.2 d C.lk
theorem x_aret (C : Gd κ cc own n) {enc : Out → Hp × Option Value} {cn : String} (E : Ge κ enc (some (.object cn))) {v : Nat} {u : Out} (d : decode cc pc = .ok (.areturn, 1)) (hu : enc u = (h, some (.ref v))) : Xz κ (some u) pc ls [.ref v] h := by
  intro out ho H locs arr hP hS hl
  cases ho
  rw [E.1]
  exact W.aret C.x C.b E.2 (Or.inl ⟨_, rfl⟩) (Or.inr ⟨_, rfl⟩) (fun t ht hW => ⟨by rw [hu]; rfl, by rw [hu, ht]; exact hP, hS.F ht⟩) hS.2.2 d C.lk
theorem x_vret (C : Gd κ cc own n) {enc : Out → Hp × Option Value} (E : Ge κ enc none) {u : Out} (d : decode cc pc = .ok (.return_, 1)) (hu : enc u = (h, none)) : Xz κ (some u) pc ls [] h := by
  intro out ho H locs arr hP hS hl
  cases ho
  rw [E.1]
  exact W.vret C.x C.b E.2 (fun t ht hW => ⟨by rw [hu]; rfl, by rw [hu, ht]; exact hP, hS.F ht⟩) hS.2.2 d C.lk
/-! switches -/
theorem x_tabO (tgt : Nat) (C : Gd κ cc own n) {dflt lo hi : Int} {offs : Array Int} {len : Nat} {x : Int32} (d : decode cc pc = .ok (.tableswitch dflt lo hi offs, len)) (hx : x.toInt < lo ∨ hi < x.toInt) (ht : (pc : Int) + dflt = (tgt : Int)) (k : Xz κ o tgt ls st h) : Xz κ o pc ls (.int x :: st) h :=
  fun out ho H locs arr hP hS hl => lv_tableOut C.x C.b d hx ht (k out ho H locs arr hP hS hl)
theorem x_tabI (tgt : Nat) (C : Gd κ cc own n) {dflt lo hi : Int} {offs : Array Int} {len : Nat} {x c : Int32} {off : Int} (d : decode cc pc = .ok (.tableswitch dflt lo hi offs, len)) (hx : x = c) (h1 : ¬ c.toInt < lo) (h2 : ¬ hi < c.toInt) (hof : offs[(c.toInt - lo).toNat]? = some off) (ht : (pc : Int) + off = (tgt : Int)) (k : Xz κ o tgt ls st h) : Xz κ o pc ls (.int x :: st) h := by
  subst hx
  exact fun out ho H locs arr hP hS hl => lv_tableIn C.x C.b d h1 h2 hof ht (k out ho H locs arr hP hS hl)
theorem x_lkp (tgt : Nat) (C : Gd κ cc own n) {dflt : Int} {ps : Array (Int × Int)} {len : Nat} {x : Int32} {off : Int} (d : decode cc pc = .ok (.lookupswitch dflt ps, len)) (hp : (ps.toList.zip (ps.toList.drop 1)).all (fun (a, next) => a.1 < next.1) = true) (hof : Op.lookupswitch.offset ps.toList dflt x.toInt = off) (ht : (pc : Int) + off = (tgt : Int)) (k : Xz κ o tgt ls st h) : Xz κ o pc ls (.int x :: st) h :=
  fun out ho H locs arr hP hS hl => lv_lookup C.x C.b d hp hof ht (k out ho H locs arr hP hS hl)
/-! Math, arraycopy -/
def jmax (x y : Int32) : Int32 := if x < y then y else x
def jmin (x y : Int32) : Int32 := if y < x then y else x
def jabs (x : Int32) : Int32 := if 0 ≤ x then x else 0 - x
theorem mc_sum {ad : Nat → Nat} (l : List Value) : ((l.map (mv ad)).map fun v => v.category) = l.map fun v => v.category := by
  rw [List.map_map]; apply List.map_congr_left; intro v _; exact mv_cat _ _
theorem x_mmax (q : Nat) (C : Gd κ cc own n) {idx : Nat} {x y : Int32} (d : decode cc pc = .ok (.invokestatic idx, 3)) (w1 : Cond.methodLink own idx Lib.Math.max.name ∈ tb2) (w2 : Cond.static Lib.Math.max.name ∈ tb2) (w3 : Cond.initialized "java/lang/Math" ∈ tb2) (w4 : Cond.code Lib.Math.max.name Lib.Math.max.code 2 (some .int) ∈ tb2) (hn : 1 ≤ n) (hs : (st.map fun v => v.category).sum ≤ 8) (hq : pc + 3 = q) (k : Xz κ o q ls (.int (jmax x y) :: st) h) : Xz κ o pc ls (.int y :: .int x :: st) h := by
  subst hq
  refine fun out ho H locs arr hP hS hl => va_mmax C.x C.b (by rw [C.ml, hl.1]) C.ow (C.ts _ w1) (C.ts _ w2) (C.ts _ w3) (C.ts _ w4) (Nat.le_trans hn C.fr) (by rw [mc_sum]; have := C.lo; omega) C.cl C.sl d (k out ho H locs arr hP hS hl)
theorem x_mmin (q : Nat) (C : Gd κ cc own n) {idx : Nat} {x y : Int32} (d : decode cc pc = .ok (.invokestatic idx, 3)) (w1 : Cond.methodLink own idx Lib.Math.min.name ∈ tb2) (w2 : Cond.static Lib.Math.min.name ∈ tb2) (w3 : Cond.initialized "java/lang/Math" ∈ tb2) (w4 : Cond.code Lib.Math.min.name Lib.Math.min.code 2 (some .int) ∈ tb2) (hn : 1 ≤ n) (hs : (st.map fun v => v.category).sum ≤ 8) (hq : pc + 3 = q) (k : Xz κ o q ls (.int (jmin x y) :: st) h) : Xz κ o pc ls (.int y :: .int x :: st) h := by
  subst hq
  refine fun out ho H locs arr hP hS hl => va_mmin C.x C.b (by rw [C.ml, hl.1]) C.ow (C.ts _ w1) (C.ts _ w2) (C.ts _ w3) (C.ts _ w4) (Nat.le_trans hn C.fr) (by rw [mc_sum]; have := C.lo; omega) C.cl C.sl d (k out ho H locs arr hP hS hl)
theorem x_mabs (q : Nat) (C : Gd κ cc own n) {idx : Nat} {x : Int32} (d : decode cc pc = .ok (.invokestatic idx, 3)) (w1 : Cond.methodLink own idx Lib.Math.abs.name ∈ tb2) (w2 : Cond.static Lib.Math.abs.name ∈ tb2) (w3 : Cond.initialized "java/lang/Math" ∈ tb2) (w4 : Cond.code Lib.Math.abs.name Lib.Math.abs.code 1 (some .int) ∈ tb2) (hn : 1 ≤ n) (hs : (st.map fun v => v.category).sum ≤ 8) (hq : pc + 3 = q) (k : Xz κ o q ls (.int (jabs x) :: st) h) : Xz κ o pc ls (.int x :: st) h := by
  subst hq
  refine fun out ho H locs arr hP hS hl => va_mabs C.x C.b (by rw [C.ml, hl.1]) C.ow (C.ts _ w1) (C.ts _ w2) (C.ts _ w3) (C.ts _ w4) (Nat.le_trans hn C.fr) (by rw [mc_sum]; have := C.lo; omega) C.cl C.sl d (k out ho H locs arr hP hS hl)
theorem x_acp (q : Nat) (C : Gd κ cc own n) {idx a b : Nat} {N : Nat} {i j m : Int32} {T : Hp → Option Out} (d : decode cc pc = .ok (.invokestatic idx, 3)) (w1 : Cond.methodLink own idx arraycopyName ∈ tb2) (w2 : Cond.native arraycopyName ∈ tb2) (w3 : Cond.static arraycopyName ∈ tb2) (w4 : Cond.initialized "java/lang/System" ∈ tb2) (hn : 1 ≤ n) (ha : sk a = 9) (hb : sk b = 9) (hNa : sl a = N) (hNb : sl b = N) (hs : (st.map fun v => v.category).sum ≤ 4) (hq : pc + 3 = q) (k : ∀ h', Xz κ (T h') q ls st h') :
    Xz κ (cy (¬ i < 0 ∧ ¬ j < 0 ∧ ¬ m < 0 ∧ i.toNatClampNeg + m.toNatClampNeg ≤ N ∧ j.toNatClampNeg + m.toNatClampNeg ≤ N) (nm (ucp h a b i j m) T)) pc ls (.int m :: .int j :: .ref b :: .int i :: .ref a :: st) h := by
  subst hq
  subst hNa
  refine x_cy fun hc out ho H locs arr hP hS hl => ?_
  obtain ⟨h1, h2, h3, h4, h5⟩ := hc
  have ha9 : a < 93 := sk_lt ha (by omega)
  have hb9 : b < 93 := sk_lt hb (by omega)
  have hset : (wld (kad κ) (kcs κ) h).set b (kad κ b, .inl ((kcs κ).1, sl b, .inl (va_cpy (h.1 a) (h.1 b) i.toNatClampNeg j.toNatClampNeg m.toNatClampNeg))) = wld (kad κ) (kcs κ) (ucp h a b i j m) :=
    wld_set hb9 (by rw [ce_int hb]; simp [ucp]) (fun z hz => ce_ext (by simp [ucp, hz]) rfl)
  refine va_copyi C.x C.b (by rw [C.ml, hl.1]) C.ow (C.ts _ w1) (C.ts _ w2) (C.ts _ w3) (C.ts _ w4) C.K hP (C.D h) hS a b 0 0 (ty := .int) (by rw [wld_get ha9, ce_int ha]) (by rw [wld_get hb9, ce_int hb]) rfl rfl rfl h1 h2 h3 h4 (by rw [hNb]; exact h5) (fun _ _ => rfl) (Nat.le_trans hn C.fr) ?_ d (fun H1 locs1 hP1 _ hS1 => ?_)
  · rw [mc_sum]
    have hw : nativeFrameWords "java/lang/System" "arraycopy" 5 + 11 ≤ 36 := by decide +kernel
    have := C.lo
    omega
  · rw [hset] at hP1
    exact k _ out ho H1 locs1 arr hP1 hS1 hl
end ROWS2
