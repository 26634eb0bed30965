/-! calls: a method's contract over the whole world -/
theorem tbl_ok : tb2.all (fun w => (w.onTables && w.keeps) || isNest w || isAC w || isAO w) = true := List.all_eq_true.mpr fun w hw => (List.mem_filter.mp hw).2
def TB (U : State) : Prop := ∀ w ∈ tb2, va_Nw w U
theorem tb_warm {args : Array Value} {s U : State} (hW : s.WarmedH U.vm) (ht : ∀ w ∈ tb2, w.before args s = true) : TB U := by
  intro w hw
  have h0 := ht w hw
  have h1 := List.all_eq_true.mp tbl_ok w hw
  simp only [Bool.or_eq_true] at h1
  rcases h1 with ((h1 | h1) | h1) | h1
  · exact word_at hW (Or.inl h1) h0
  · unfold isNest at h1
    split at h1
    · exact va_Nw.warmF hW (va_Nw.of rfl h0)
    · exact va_Nw.warmM hW (va_Nw.of rfl h0)
    · cases h1
  · unfold isAC at h1
    split at h1
    · exact word_at hW (Or.inr ⟨_, rfl⟩) h0
    · cases h1
  · unfold isAO at h1
    split at h1
    · exact va_AO.moved hW.alike (va_AO.of h0)
    · cases h1
theorem tb_use {args : Array Value} {U : State} (ht : TB U) : ∀ w ∈ tb2, w.before args U = true := by
  intro w hw
  have h0 := ht w hw
  have h1 := List.all_eq_true.mp tbl_ok w hw
  simp only [Bool.or_eq_true] at h1
  rcases h1 with ((h1 | h1) | h1) | h1
  · exact word_at (State.WarmedH.refl U) (Or.inl h1) h0
  · unfold isNest at h1
    split at h1
    · exact va_Nw.use rfl h0
    · exact va_Nw.use rfl h0
    · cases h1
  · unfold isAC at h1
    split at h1
    · exact word_at (State.WarmedH.refl U) (Or.inr ⟨_, rfl⟩) h0
    · cases h1
  · unfold isAO at h1
    split at h1
    · exact va_AO.use h0
    · cases h1
theorem tb_move {U U' : State} (h : U'.vm = U.vm) (ht : TB U) : TB U' := tb_warm (s := U) (args := #[]) (by rw [h]; exact State.WarmedH.refl U) ht
def pcW (ad : Nat → Nat) (D : va_G) (cs : C3) (av : List Value) (h : Hp) : Array Value → State → Prop := fun a U => a = (av.map (mv ad)).toArray ∧ TB U ∧ va_K D vwCl (ty3 cs) U ∧ ij ad ∧ va_P D vwCl (wld ad cs h) U.heap ∧ STt ad (inW ad) U U.heap
def rmL (lev : Nat) : Room := { frames := lev, cells := 0, slots := 0, locals := 40 * lev }
def idR (r : Hp × Option Value) : Hp × Option Value := r
def Ct (y : MethodName) (bytes : ByteArray) (nL : Nat) (ret : Option FieldType) (lev : Nat) (av : List Value) (h : Hp) (res : Hp × Option Value) : Prop :=
  ∀ (l : Launch) (ad : Nat → Nat) (D : va_G) (cs : C3), Met l y [.code y bytes nL ret] (rmL lev) (pcW ad D cs av h) (qE ad D cs (inW ad) idR res) 0 0 (inW ad)
theorem pcW_blind (ad : Nat → Nat) (D : va_G) (cs : C3) (av : List Value) (h : Hp) : FrameBlind (pcW ad D cs av h) := by
  intro a U g mk q
  obtain ⟨q1, q2, q3, q4, q5, q6⟩ := q
  exact ⟨q1, tb_move (U := U) (U' := U.calling g mk a) rfl q2, va_K.moved (u := U) (U := U.calling g mk a) (Vm.Alike.refl U.vm) q3, q4, q5, STt.moved (u := U) (U := U.calling g mk a) (Vm.Alike.refl U.vm) q6⟩
theorem la_map (ad : Nat → Nat) : ∀ (av : List Value) (i : Nat), lv_args i (av.map (mv ad)) = (lv_args i av).map (mp ad)
  | [], i => rfl
  | v :: vs, i => by
    simp only [List.map_cons, lv_args, mv_cat]
    rw [la_map ad vs]
    rfl
theorem sl_map (ad : Nat → Nat) : ∀ (av : List Value), (lg_sl (av.map (mv ad))).length = (lg_sl av).length
  | [] => rfl
  | v :: vs => by
    have := sl_map ad vs
    unfold lg_sl at this ⊢
    simp only [List.map_cons, List.flatMap_cons, List.length_append, mv_cat, this]
    split <;> rfl
/-- a method's contract out of its walk -/
theorem ct_of {Out : Type} (enc : Out → Hp × Option Value) {y : MethodName} {bytes : ByteArray} {nL lev : Nat} {ret : Option FieldType} {av : List Value} {h : Hp} {o : Option Out} {u : Out} (hu : o = some u) (hy : plainName y.cls = true) (hlen : (lg_sl av).length ≤ nL)
    (body : ∀ κ : Kx Out, kn κ = nL → Gd κ bytes y.cls lev → Ge κ enc ret → Xz κ o 0 (lv_args 0 av) [] h) : Ct y bytes nL ret lev av h (enc u) := by
  intro l ad D cs
  refine Met.ofW (cc := bytes) (maxL := nL) (ret := ret) hy rfl ?_
  intro p e s m args below meth c s₁ B hml hv
  obtain ⟨rfl, hTB, hK, hij, hP, hST⟩ := hv
  have hown : s.vm.findClass y.cls = some m.cls := findClass_of_methodNamed B.named
  have hl := lv_entry (av.map (mv ad)) (n := nL) (by rw [sl_map]; exact hlen)
  rw [lg_entry_eq]
  rw [la_map] at hl
  have hb := body ((p, l, e, (headSpec [.code y bytes nL ret] (rmL lev)).room, s, m, (av.map (mv ad)).toArray, below, meth, c), ad, D, cs, inW ad, nL, 0, 0, fun out => MQ below (qE ad D cs (inW ad) enc out) (av.map (mv ad)).toArray s 0 0 (inW ad)) rfl
    ⟨B.exec, B.bytes, hml, hown, tb_use hTB, hK, hij, fun k hk => ⟨k, hk, rfl⟩, Nat.le_refl _, Nat.le_refl _, Nat.zero_le _, Nat.zero_le _, B.notSynchronized, hST⟩ ⟨rfl, B.returns⟩
  exact hb u hu s.heap [] _ hP va_S.rf hl
section CALLS
variable {Out : Type} {κ : Kx Out} {o : Option Out} {cc : ByteArray} {own : String} {n pc q : Nat} {ls : List (Nat × Value)} {st : List Value} {h : Hp}
theorem x_ran {Oc : Type} (enc : Oc → Hp × Option Value) {oc : Option Oc} {T : Oc → Option Out} {stk rest : List Value} (C : Gd κ cc own n) (hq : pc + 3 = q) (ho : ∀ out, o = some out → ∃ u, oc = some u ∧ T u = some out)
    (run : ∀ u, oc = some u → ∀ (H : Heap) (locs : List Loc) (arr : Array Slot), va_P (kD κ) vwCl (wld (kad κ) (kcs κ) h) H → va_S (kA κ) (ks κ).heap H locs → arr.size = kn κ → ∃ a : Array Value, va_Run (kp κ) (kl κ) (ke κ) (kR κ) (ks κ) (km κ) (ka κ) (kb κ) (kme κ) (kc κ) H locs (kcl κ) (ksl κ) 0 0 (F0 (km κ) pc arr (stk.map (mv (kad κ)))) (rest.map (mv (kad κ))) (qE (kad κ) (kD κ) (kcs κ) (inW (kad κ)) idR (enc u) a) (inW (kad κ)))
    (k : ∀ u, Xz κ (T u) q ls ((enc u).2.toList ++ rest) (enc u).1) : Xz κ o pc ls stk h := by
  subst hq
  intro out ho' H locs arr hP hS hl
  obtain ⟨u, hu, hT⟩ := ho out ho'
  obtain ⟨a, hr⟩ := run u hu H locs arr hP hS hl.1
  intro T0 hT0 X
  obtain ⟨v, st0, t, T', L, h0, X', hL, e1, e2, ⟨hv, hP1, hF⟩, go⟩ := hr T0 hT0 X
  cases hv
  have hS' : va_S (kA κ) (ks κ).heap T'.heap (locs ++ L) := by
    rw [e1]
    unfold va_F at hF
    rw [h0] at hF
    refine ⟨Nat.le_trans hS.1 hF.1, fun z h1 h2 => ?_, fun z hz => ?_⟩
    · rw [hF.2 z (Nat.lt_of_lt_of_le h1 hS.1) (fun ⟨w, w1, w2⟩ => h2 (by rw [w2]; exact C.A w w1))]
      exact hS.2.1 z h1 h2
    · rcases List.mem_append.mp hz with hz | hz
      · exact hS.2.2 z hz
      · obtain ⟨w, w1, w2⟩ := hL z hz
        rw [w2]
        exact C.A w w1
  have k1 := k u out hT T'.heap (locs ++ L) arr (by rw [e1]; exact hP1) hS' hl T' rfl X'
  obtain ⟨t2, a1, b1⟩ := k1
  refine ⟨t2, go t2 ?_, b1⟩
  have es : (Option.map (mv (kad κ)) (idR (enc u)).2).toList ++ rest.map (mv (kad κ)) = ((enc u).2.toList ++ rest).map (mv (kad κ)) := by
    unfold idR
    cases (enc u).2 <;> rfl
  rw [es]
  exact a1
/-- an instance method, as the class own calls it by its index -/
def CV (own : String) (idx ci : Nat) (y : MethodName) (bytes : ByteArray) (nL : Nat) (ret : Option FieldType) (m : Nat) : Prop :=
  (∃ (T : u_T) (N : Nat), vwCl[ci]? = some (y.cls, T, N)) ∧ ci < 9 ∧ (Cond.methodLink own idx y ∈ tb2 ∨ ∃ host, Cond.methodLinkNest own idx y host ∈ tb2) ∧ Cond.instanceMethod y ∈ tb2 ∧ Cond.selects y.cls y y ∈ tb2 ∧ Cond.initialized y.cls ∈ tb2 ∧ Cond.code y bytes nL ret ∈ tb2 ∧ (y.cls ≠ "java/lang/invoke/MethodHandle" ∧ y.cls ≠ "java/lang/invoke/VarHandle" ∧ (parseMethodDescriptor y.desc).map (fun d => d.parameters.length) = some m) ∧ nL ≤ 21
def CS (own : String) (idx : Nat) (y : MethodName) (bytes : ByteArray) (nL : Nat) (ret : Option FieldType) (m : Nat) : Prop :=
  (Cond.methodLink own idx y ∈ tb2 ∨ ∃ host, Cond.methodLinkNest own idx y host ∈ tb2) ∧ Cond.static y ∈ tb2 ∧ Cond.initialized y.cls ∈ tb2 ∧ Cond.code y bytes nL ret ∈ tb2 ∧ (y.cls ≠ "java/lang/invoke/MethodHandle" ∧ y.cls ≠ "java/lang/invoke/VarHandle" ∧ (parseMethodDescriptor y.desc).map (fun d => d.parameters.length) = some m) ∧ nL ≤ 21
theorem mc_len {y : MethodName} {m : Nat} (h2 : (parseMethodDescriptor y.desc).map (fun d => d.parameters.length) = some m) : ∀ sig, parseMethodDescriptor y.desc = some sig → m = sig.parameters.length := by
  intro sig hs
  rw [hs] at h2
  exact (Option.some.inj h2).symm
theorem st_use (C : Gd κ cc own n) {H : Heap} {locs : List Loc} {U : State} (hS : va_S (kA κ) (ks κ).heap H locs) (hv : (ks κ).vm.Alike U.vm) : STt (kad κ) (inW (kad κ)) U H := ((C.st.kept hS.2.1).narrow (fun q hq => by obtain ⟨k, hk, e⟩ := hq; rw [e]; exact C.A k hk)).moved hv
theorem run_v (C : Gd κ cc own n) {idx ci : Nat} {y : MethodName} {bytes : ByteArray} {nL lev m b : Nat} {ret : Option FieldType} {As rest : List Value} {res : Hp × Option Value} (V : CV own idx ci y bytes nL ret m) (hlev : lev + 1 ≤ n) (M : Ct y bytes nL ret lev (.ref b :: As) h res) (hb : sk b = ci) (hm : As.length = m) (hW : (rest.map fun v => v.category).sum ≤ 8) (d : decode cc pc = .ok (.invokevirtual idx, 3))
    {H : Heap} {locs : List Loc} {arr : Array Slot} (hP : va_P (kD κ) vwCl (wld (kad κ) (kcs κ) h) H) (hS : va_S (kA κ) (ks κ).heap H locs) (hs : arr.size = kn κ) : va_Run (kp κ) (kl κ) (ke κ) (kR κ) (ks κ) (km κ) (ka κ) (kb κ) (kme κ) (kc κ) H locs (kcl κ) (ksl κ) 0 0 (F0 (km κ) pc arr ((As.reverse ++ .ref b :: rest).map (mv (kad κ)))) (rest.map (mv (kad κ))) (qE (kad κ) (kD κ) (kcs κ) (inW (kad κ)) idR res ((Value.ref b :: As).map (mv (kad κ))).toArray) (inW (kad κ)) := by
  obtain ⟨⟨T, N, hcl⟩, hci, hl, w1, w2, w3, w4, ⟨n1, n2, n3⟩, hnL⟩ := V
  have hb9 : b < 93 := sk_lt hb (by omega)
  have hstack : ((As.reverse ++ .ref b :: rest).map (mv (kad κ))) = (As.map (mv (kad κ))).reverse ++ .ref (kad κ b) :: rest.map (mv (kad κ)) := by
    rw [List.map_append, List.map_reverse]; rfl
  have hpre : PreV (ks κ) H y.cls (kad κ b) (pcW (kad κ) (kD κ) (kcs κ) (.ref b :: As) h) (As.map (mv (kad κ))) :=
    ⟨pcW_blind _ _ _ _ _, va_recv C.K hP hcl (he := by rw [wld_get hb9, ce_obj hb hci]), fun U hU hWm => ⟨rfl, tb_warm hWm C.ts, va_K.moved hWm.alike C.K, C.ij, by rw [hU]; exact hP, by rw [hU]; exact st_use C hS hWm.alike⟩⟩
  have hcode : ∀ w ∈ [Cond.code y bytes nL ret], ∀ (a' : Array Value) (U : State), (ks κ).WarmedH U.vm → w.before a' U = true := by
    intro w hw a' U hWm
    rw [List.mem_singleton.mp hw]
    exact tb_use (tb_warm hWm C.ts) _ w4
  have hR : lev + 1 ≤ (kR κ).frames ∧ 8 + (nL + 11) + 40 * lev ≤ (kR κ).locals := by
    have := C.fr; have := C.lo; omega
  have hcat : 2 * (F0 (km κ) pc arr ((As.reverse ++ .ref b :: rest).map (mv (kad κ)))).monitorRoom + ((rest.map (mv (kad κ))).map fun v => v.category).sum ≤ 8 := lv_room (by rw [mc_sum]; exact hW)
  rcases hl with hl | ⟨host, hl⟩
  · exact va_runV (Ts := tb2) (own := own) (nL := kn κ) (As := As.map (mv (kad κ))) ⟨C.x, C.b, C.ml, C.ow, C.ts⟩ (M (kl κ) (kad κ) (kD κ) (kcs κ)) ⟨⟨rfl, rfl, hR.1, hR.2, hcode, List.mem_singleton.mpr rfl, C.ts _ w4, C.ts _ w3, ⟨n1, n2⟩, mc_len n3, C.ts _ hl⟩, C.ts _ w1, C.ts _ w2⟩ hpre rfl (by rw [List.length_map]; exact hm) hs hstack hcat d ⟨C.cl, C.sl⟩
  · exact va_runVN (Ts := tb2) (own := own) (nL := kn κ) (As := As.map (mv (kad κ))) ⟨C.x, C.b, C.ml, C.ow, C.ts⟩ (M (kl κ) (kad κ) (kD κ) (kcs κ)) ⟨⟨⟨rfl, rfl, hR.1, hR.2, hcode, List.mem_singleton.mpr rfl⟩, C.ts _ w4, C.ts _ w3, ⟨n1, n2⟩, mc_len n3, C.ts _ hl⟩, C.ts _ w1, C.ts _ w2⟩ hpre rfl (by rw [List.length_map]; exact hm) hs hstack hcat d ⟨C.cl, C.sl⟩
theorem run_s (C : Gd κ cc own n) {idx : Nat} {y : MethodName} {bytes : ByteArray} {nL lev m : Nat} {ret : Option FieldType} {As rest : List Value} {res : Hp × Option Value} (V : CS own idx y bytes nL ret m) (hlev : lev + 1 ≤ n) (M : Ct y bytes nL ret lev As h res) (hm : As.length = m) (hW : (rest.map fun v => v.category).sum ≤ 8) (d : decode cc pc = .ok (.invokestatic idx, 3))
    {H : Heap} {locs : List Loc} {arr : Array Slot} (hP : va_P (kD κ) vwCl (wld (kad κ) (kcs κ) h) H) (hS : va_S (kA κ) (ks κ).heap H locs) (hs : arr.size = kn κ) : va_Run (kp κ) (kl κ) (ke κ) (kR κ) (ks κ) (km κ) (ka κ) (kb κ) (kme κ) (kc κ) H locs (kcl κ) (ksl κ) 0 0 (F0 (km κ) pc arr ((As.reverse ++ rest).map (mv (kad κ)))) (rest.map (mv (kad κ))) (qE (kad κ) (kD κ) (kcs κ) (inW (kad κ)) idR res (As.map (mv (kad κ))).toArray) (inW (kad κ)) := by
  obtain ⟨hl, w1, w3, w4, ⟨n1, n2, n3⟩, hnL⟩ := V
  have hstack : ((As.reverse ++ rest).map (mv (kad κ))) = (As.map (mv (kad κ))).reverse ++ rest.map (mv (kad κ)) := by
    rw [List.map_append, List.map_reverse]
  have hpre : PreS (ks κ) H (pcW (kad κ) (kD κ) (kcs κ) As h) (As.map (mv (kad κ))) :=
    ⟨pcW_blind _ _ _ _ _, fun U hU hWm => ⟨rfl, tb_warm hWm C.ts, va_K.moved hWm.alike C.K, C.ij, by rw [hU]; exact hP, by rw [hU]; exact st_use C hS hWm.alike⟩⟩
  have hcode : ∀ w ∈ [Cond.code y bytes nL ret], ∀ (a' : Array Value) (U : State), (ks κ).WarmedH U.vm → w.before a' U = true := by
    intro w hw a' U hWm
    rw [List.mem_singleton.mp hw]
    exact tb_use (tb_warm hWm C.ts) _ w4
  have hR : lev + 1 ≤ (kR κ).frames ∧ 8 + (nL + 11) + 40 * lev ≤ (kR κ).locals := by
    have := C.fr; have := C.lo; omega
  have hcat : 2 * (F0 (km κ) pc arr ((As.reverse ++ rest).map (mv (kad κ)))).monitorRoom + ((rest.map (mv (kad κ))).map fun v => v.category).sum ≤ 8 := lv_room (by rw [mc_sum]; exact hW)
  rcases hl with hl | ⟨host, hl⟩
  · exact va_runS (Ts := tb2) (own := own) (nL := kn κ) (As := As.map (mv (kad κ))) ⟨C.x, C.b, C.ml, C.ow, C.ts⟩ (M (kl κ) (kad κ) (kD κ) (kcs κ)) ⟨⟨rfl, rfl, hR.1, hR.2, hcode, List.mem_singleton.mpr rfl, C.ts _ w4, C.ts _ w3, ⟨n1, n2⟩, mc_len n3, C.ts _ hl⟩, C.ts _ w1⟩ hpre rfl (by rw [List.length_map]; exact hm) hs hstack hcat d ⟨C.cl, C.sl⟩
  · exact va_runSN (Ts := tb2) (own := own) (nL := kn κ) (As := As.map (mv (kad κ))) ⟨C.x, C.b, C.ml, C.ow, C.ts⟩ (M (kl κ) (kad κ) (kD κ) (kcs κ)) ⟨⟨⟨rfl, rfl, hR.1, hR.2, hcode, List.mem_singleton.mpr rfl⟩, C.ts _ w4, C.ts _ w3, ⟨n1, n2⟩, mc_len n3, C.ts _ hl⟩, C.ts _ w1, trivial⟩ hpre rfl (by rw [List.length_map]; exact hm) hs hstack hcat d ⟨C.cl, C.sl⟩
theorem bnd_inv {α β : Type} {o : Option (Hp × α)} {T : Hp → α → Option β} {out : β} (e : bnd o T = some out) : ∃ u, o = some u ∧ T u.1 u.2 = some out := by
  cases o with
  | none => cases e
  | some u => exact ⟨u, rfl, e⟩
theorem bdv_inv {β : Type} {o : Option Hp} {T : Hp → Option β} {out : β} (e : bdv o T = some out) : ∃ u, o = some u ∧ T u = some out := by
  cases o with
  | none => cases e
  | some u => exact ⟨u, rfl, e⟩
theorem bdr_inv {α β : Type} {o : Option α} {T : α → Option β} {out : β} (e : bdr o T = some out) : ∃ u, o = some u ∧ T u = some out := by
  cases o with
  | none => cases e
  | some u => exact ⟨u, rfl, e⟩
theorem x_cvI (q : Nat) (As rest : List Value) (C : Gd κ cc own n) {idx ci : Nat} {y : MethodName} {bytes : ByteArray} {nL m b : Nat} (lev : Nat) {ret : Option FieldType} {stk : List Value} {oc : Option (Hp × Int32)} {T : Hp → Int32 → Option Out} (d : decode cc pc = .ok (.invokevirtual idx, 3)) (V : CV own idx ci y bytes nL ret m) (M : ∀ u, oc = some u → Ct y bytes nL ret lev (.ref b :: As) h (eI u)) (hst : stk = As.reverse ++ .ref b :: rest) (hb : sk b = ci) (hm : As.length = m) (hlev : lev + 1 ≤ n) (hW : (rest.map fun v => v.category).sum ≤ 8) (hq : pc + 3 = q) (k : ∀ h1 r, Xz κ (T h1 r) q ls (.int r :: rest) h1) : Xz κ (bnd oc T) pc ls stk h := by
  subst hst
  exact x_ran eI (T := fun u => T u.1 u.2) (rest := rest) C hq (fun out e => bnd_inv e) (fun u hu H locs arr hP hS hs => ⟨_, run_v C V hlev (M u hu) hb hm hW d hP hS hs⟩) (fun u => k u.1 u.2)
theorem x_csI (q : Nat) (As rest : List Value) (C : Gd κ cc own n) {idx : Nat} {y : MethodName} {bytes : ByteArray} {nL m : Nat} (lev : Nat) {ret : Option FieldType} {stk : List Value} {oc : Option (Hp × Int32)} {T : Hp → Int32 → Option Out} (d : decode cc pc = .ok (.invokestatic idx, 3)) (V : CS own idx y bytes nL ret m) (M : ∀ u, oc = some u → Ct y bytes nL ret lev As h (eI u)) (hst : stk = As.reverse ++ rest) (hm : As.length = m) (hlev : lev + 1 ≤ n) (hW : (rest.map fun v => v.category).sum ≤ 8) (hq : pc + 3 = q) (k : ∀ h1 r, Xz κ (T h1 r) q ls (.int r :: rest) h1) : Xz κ (bnd oc T) pc ls stk h := by
  subst hst
  exact x_ran eI (T := fun u => T u.1 u.2) (rest := rest) C hq (fun out e => bnd_inv e) (fun u hu H locs arr hP hS hs => ⟨_, run_s C V hlev (M u hu) hm hW d hP hS hs⟩) (fun u => k u.1 u.2)
theorem x_cvL (q : Nat) (As rest : List Value) (C : Gd κ cc own n) {idx ci : Nat} {y : MethodName} {bytes : ByteArray} {nL m b : Nat} (lev : Nat) {ret : Option FieldType} {stk : List Value} {oc : Option (Hp × Int64)} {T : Hp → Int64 → Option Out} (d : decode cc pc = .ok (.invokevirtual idx, 3)) (V : CV own idx ci y bytes nL ret m) (M : ∀ u, oc = some u → Ct y bytes nL ret lev (.ref b :: As) h (eL u)) (hst : stk = As.reverse ++ .ref b :: rest) (hb : sk b = ci) (hm : As.length = m) (hlev : lev + 1 ≤ n) (hW : (rest.map fun v => v.category).sum ≤ 8) (hq : pc + 3 = q) (k : ∀ h1 r, Xz κ (T h1 r) q ls (.long r :: rest) h1) : Xz κ (bnd oc T) pc ls stk h := by
  subst hst
  exact x_ran eL (T := fun u => T u.1 u.2) (rest := rest) C hq (fun out e => bnd_inv e) (fun u hu H locs arr hP hS hs => ⟨_, run_v C V hlev (M u hu) hb hm hW d hP hS hs⟩) (fun u => k u.1 u.2)
theorem x_csL (q : Nat) (As rest : List Value) (C : Gd κ cc own n) {idx : Nat} {y : MethodName} {bytes : ByteArray} {nL m : Nat} (lev : Nat) {ret : Option FieldType} {stk : List Value} {oc : Option (Hp × Int64)} {T : Hp → Int64 → Option Out} (d : decode cc pc = .ok (.invokestatic idx, 3)) (V : CS own idx y bytes nL ret m) (M : ∀ u, oc = some u → Ct y bytes nL ret lev As h (eL u)) (hst : stk = As.reverse ++ rest) (hm : As.length = m) (hlev : lev + 1 ≤ n) (hW : (rest.map fun v => v.category).sum ≤ 8) (hq : pc + 3 = q) (k : ∀ h1 r, Xz κ (T h1 r) q ls (.long r :: rest) h1) : Xz κ (bnd oc T) pc ls stk h := by
  subst hst
  exact x_ran eL (T := fun u => T u.1 u.2) (rest := rest) C hq (fun out e => bnd_inv e) (fun u hu H locs arr hP hS hs => ⟨_, run_s C V hlev (M u hu) hm hW d hP hS hs⟩) (fun u => k u.1 u.2)
theorem x_cvR (q : Nat) (As rest : List Value) (C : Gd κ cc own n) {idx ci : Nat} {y : MethodName} {bytes : ByteArray} {nL m b : Nat} (lev : Nat) {ret : Option FieldType} {stk : List Value} {oc : Option (Hp × Nat)} {T : Hp → Nat → Option Out} (d : decode cc pc = .ok (.invokevirtual idx, 3)) (V : CV own idx ci y bytes nL ret m) (M : ∀ u, oc = some u → Ct y bytes nL ret lev (.ref b :: As) h (eR u)) (hst : stk = As.reverse ++ .ref b :: rest) (hb : sk b = ci) (hm : As.length = m) (hlev : lev + 1 ≤ n) (hW : (rest.map fun v => v.category).sum ≤ 8) (hq : pc + 3 = q) (k : ∀ h1 r, Xz κ (T h1 r) q ls (.ref r :: rest) h1) : Xz κ (bnd oc T) pc ls stk h := by
  subst hst
  exact x_ran eR (T := fun u => T u.1 u.2) (rest := rest) C hq (fun out e => bnd_inv e) (fun u hu H locs arr hP hS hs => ⟨_, run_v C V hlev (M u hu) hb hm hW d hP hS hs⟩) (fun u => k u.1 u.2)
theorem x_csR (q : Nat) (As rest : List Value) (C : Gd κ cc own n) {idx : Nat} {y : MethodName} {bytes : ByteArray} {nL m : Nat} (lev : Nat) {ret : Option FieldType} {stk : List Value} {oc : Option (Hp × Nat)} {T : Hp → Nat → Option Out} (d : decode cc pc = .ok (.invokestatic idx, 3)) (V : CS own idx y bytes nL ret m) (M : ∀ u, oc = some u → Ct y bytes nL ret lev As h (eR u)) (hst : stk = As.reverse ++ rest) (hm : As.length = m) (hlev : lev + 1 ≤ n) (hW : (rest.map fun v => v.category).sum ≤ 8) (hq : pc + 3 = q) (k : ∀ h1 r, Xz κ (T h1 r) q ls (.ref r :: rest) h1) : Xz κ (bnd oc T) pc ls stk h := by
  subst hst
  exact x_ran eR (T := fun u => T u.1 u.2) (rest := rest) C hq (fun out e => bnd_inv e) (fun u hu H locs arr hP hS hs => ⟨_, run_s C V hlev (M u hu) hm hW d hP hS hs⟩) (fun u => k u.1 u.2)
theorem x_cvV (q : Nat) (As rest : List Value) (C : Gd κ cc own n) {idx ci : Nat} {y : MethodName} {bytes : ByteArray} {nL m b : Nat} (lev : Nat) {ret : Option FieldType} {stk : List Value} {oc : Option (Hp)} {T : Hp → Option Out} (d : decode cc pc = .ok (.invokevirtual idx, 3)) (V : CV own idx ci y bytes nL ret m) (M : ∀ u, oc = some u → Ct y bytes nL ret lev (.ref b :: As) h (eV u)) (hst : stk = As.reverse ++ .ref b :: rest) (hb : sk b = ci) (hm : As.length = m) (hlev : lev + 1 ≤ n) (hW : (rest.map fun v => v.category).sum ≤ 8) (hq : pc + 3 = q) (k : ∀ h1, Xz κ (T h1) q ls rest h1) : Xz κ (bdv oc T) pc ls stk h := by
  subst hst
  exact x_ran eV (T := T) (rest := rest) C hq (fun out e => bdv_inv e) (fun u hu H locs arr hP hS hs => ⟨_, run_v C V hlev (M u hu) hb hm hW d hP hS hs⟩) (fun u => k u)
theorem x_csV (q : Nat) (As rest : List Value) (C : Gd κ cc own n) {idx : Nat} {y : MethodName} {bytes : ByteArray} {nL m : Nat} (lev : Nat) {ret : Option FieldType} {stk : List Value} {oc : Option (Hp)} {T : Hp → Option Out} (d : decode cc pc = .ok (.invokestatic idx, 3)) (V : CS own idx y bytes nL ret m) (M : ∀ u, oc = some u → Ct y bytes nL ret lev As h (eV u)) (hst : stk = As.reverse ++ rest) (hm : As.length = m) (hlev : lev + 1 ≤ n) (hW : (rest.map fun v => v.category).sum ≤ 8) (hq : pc + 3 = q) (k : ∀ h1, Xz κ (T h1) q ls rest h1) : Xz κ (bdv oc T) pc ls stk h := by
  subst hst
  exact x_ran eV (T := T) (rest := rest) C hq (fun out e => bdv_inv e) (fun u hu H locs arr hP hS hs => ⟨_, run_s C V hlev (M u hu) hm hW d hP hS hs⟩) (fun u => k u)
theorem x_cvi (q : Nat) (As rest : List Value) (C : Gd κ cc own n) {idx ci : Nat} {y : MethodName} {bytes : ByteArray} {nL m b : Nat} (lev : Nat) {ret : Option FieldType} {stk : List Value} {oc : Option (Int32)} {T : Int32 → Option Out} (d : decode cc pc = .ok (.invokevirtual idx, 3)) (V : CV own idx ci y bytes nL ret m) (M : ∀ u, oc = some u → Ct y bytes nL ret lev (.ref b :: As) h ((rI h) u)) (hst : stk = As.reverse ++ .ref b :: rest) (hb : sk b = ci) (hm : As.length = m) (hlev : lev + 1 ≤ n) (hW : (rest.map fun v => v.category).sum ≤ 8) (hq : pc + 3 = q) (k : ∀ r, Xz κ (T r) q ls (.int r :: rest) h) : Xz κ (bdr oc T) pc ls stk h := by
  subst hst
  exact x_ran (rI h) (T := T) (rest := rest) C hq (fun out e => bdr_inv e) (fun u hu H locs arr hP hS hs => ⟨_, run_v C V hlev (M u hu) hb hm hW d hP hS hs⟩) (fun u => k u)
theorem x_csi (q : Nat) (As rest : List Value) (C : Gd κ cc own n) {idx : Nat} {y : MethodName} {bytes : ByteArray} {nL m : Nat} (lev : Nat) {ret : Option FieldType} {stk : List Value} {oc : Option (Int32)} {T : Int32 → Option Out} (d : decode cc pc = .ok (.invokestatic idx, 3)) (V : CS own idx y bytes nL ret m) (M : ∀ u, oc = some u → Ct y bytes nL ret lev As h ((rI h) u)) (hst : stk = As.reverse ++ rest) (hm : As.length = m) (hlev : lev + 1 ≤ n) (hW : (rest.map fun v => v.category).sum ≤ 8) (hq : pc + 3 = q) (k : ∀ r, Xz κ (T r) q ls (.int r :: rest) h) : Xz κ (bdr oc T) pc ls stk h := by
  subst hst
  exact x_ran (rI h) (T := T) (rest := rest) C hq (fun out e => bdr_inv e) (fun u hu H locs arr hP hS hs => ⟨_, run_s C V hlev (M u hu) hm hW d hP hS hs⟩) (fun u => k u)
theorem x_cvl (q : Nat) (As rest : List Value) (C : Gd κ cc own n) {idx ci : Nat} {y : MethodName} {bytes : ByteArray} {nL m b : Nat} (lev : Nat) {ret : Option FieldType} {stk : List Value} {oc : Option (Int64)} {T : Int64 → Option Out} (d : decode cc pc = .ok (.invokevirtual idx, 3)) (V : CV own idx ci y bytes nL ret m) (M : ∀ u, oc = some u → Ct y bytes nL ret lev (.ref b :: As) h ((rL h) u)) (hst : stk = As.reverse ++ .ref b :: rest) (hb : sk b = ci) (hm : As.length = m) (hlev : lev + 1 ≤ n) (hW : (rest.map fun v => v.category).sum ≤ 8) (hq : pc + 3 = q) (k : ∀ r, Xz κ (T r) q ls (.long r :: rest) h) : Xz κ (bdr oc T) pc ls stk h := by
  subst hst
  exact x_ran (rL h) (T := T) (rest := rest) C hq (fun out e => bdr_inv e) (fun u hu H locs arr hP hS hs => ⟨_, run_v C V hlev (M u hu) hb hm hW d hP hS hs⟩) (fun u => k u)
theorem x_csl (q : Nat) (As rest : List Value) (C : Gd κ cc own n) {idx : Nat} {y : MethodName} {bytes : ByteArray} {nL m : Nat} (lev : Nat) {ret : Option FieldType} {stk : List Value} {oc : Option (Int64)} {T : Int64 → Option Out} (d : decode cc pc = .ok (.invokestatic idx, 3)) (V : CS own idx y bytes nL ret m) (M : ∀ u, oc = some u → Ct y bytes nL ret lev As h ((rL h) u)) (hst : stk = As.reverse ++ rest) (hm : As.length = m) (hlev : lev + 1 ≤ n) (hW : (rest.map fun v => v.category).sum ≤ 8) (hq : pc + 3 = q) (k : ∀ r, Xz κ (T r) q ls (.long r :: rest) h) : Xz κ (bdr oc T) pc ls stk h := by
  subst hst
  exact x_ran (rL h) (T := T) (rest := rest) C hq (fun out e => bdr_inv e) (fun u hu H locs arr hP hS hs => ⟨_, run_s C V hlev (M u hu) hm hW d hP hS hs⟩) (fun u => k u)
theorem x_cvr (q : Nat) (As rest : List Value) (C : Gd κ cc own n) {idx ci : Nat} {y : MethodName} {bytes : ByteArray} {nL m b : Nat} (lev : Nat) {ret : Option FieldType} {stk : List Value} {oc : Option (Nat)} {T : Nat → Option Out} (d : decode cc pc = .ok (.invokevirtual idx, 3)) (V : CV own idx ci y bytes nL ret m) (M : ∀ u, oc = some u → Ct y bytes nL ret lev (.ref b :: As) h ((rR h) u)) (hst : stk = As.reverse ++ .ref b :: rest) (hb : sk b = ci) (hm : As.length = m) (hlev : lev + 1 ≤ n) (hW : (rest.map fun v => v.category).sum ≤ 8) (hq : pc + 3 = q) (k : ∀ r, Xz κ (T r) q ls (.ref r :: rest) h) : Xz κ (bdr oc T) pc ls stk h := by
  subst hst
  exact x_ran (rR h) (T := T) (rest := rest) C hq (fun out e => bdr_inv e) (fun u hu H locs arr hP hS hs => ⟨_, run_v C V hlev (M u hu) hb hm hW d hP hS hs⟩) (fun u => k u)
theorem x_csr (q : Nat) (As rest : List Value) (C : Gd κ cc own n) {idx : Nat} {y : MethodName} {bytes : ByteArray} {nL m : Nat} (lev : Nat) {ret : Option FieldType} {stk : List Value} {oc : Option (Nat)} {T : Nat → Option Out} (d : decode cc pc = .ok (.invokestatic idx, 3)) (V : CS own idx y bytes nL ret m) (M : ∀ u, oc = some u → Ct y bytes nL ret lev As h ((rR h) u)) (hst : stk = As.reverse ++ rest) (hm : As.length = m) (hlev : lev + 1 ≤ n) (hW : (rest.map fun v => v.category).sum ≤ 8) (hq : pc + 3 = q) (k : ∀ r, Xz κ (T r) q ls (.ref r :: rest) h) : Xz κ (bdr oc T) pc ls stk h := by
  subst hst
  exact x_ran (rR h) (T := T) (rest := rest) C hq (fun out e => bdr_inv e) (fun u hu H locs arr hP hS hs => ⟨_, run_s C V hlev (M u hu) hm hW d hP hS hs⟩) (fun u => k u)
end CALLS
