def R_law : String := "WireWalkersLaw"
def lw_P (b : Addr) (xs : List Int32) (args : Array Value) (s : State) : Prop := args = #[.ref b] ∧ s.IntsAt b xs ∧ xs.length ≤ 3072 ∧ (Jvm.Cond.and given_1 narrow_1).before args s = true
def lw_Q (_ : Array Value) (s : State) (o : Outcome) (t : State) : Prop := o = .returned (some (.int 1)) ∧ Framed s o t [] 600000 7302250
def lw_Z (below : List Frame) (a : Array Value) (s : State) : State → Prop := fun t => ∃ o, t.status = .running ∧ Ended t below o ∧ lw_Q a s o t
/-- the law's own end, with 1 on the stack, nothing written that was there before, its room as the claim has it -/
theorem lw_ret {p : Program} {l : Launch} {e : Env} {s : State} {m : MethodId} {below : List Frame} {meth : Method} {c : Code} {b : Nat} (hx : p.tables.exec = Jvm.exec) (hb : c.code = code) (hr : meth.sig.returnType = ret) (hlocks : meth.locks = false) {pc : Nat} {H : Heap} {ls : Array Slot} (hdg : decode code pc = .ok (.ireturn, 1)) : W p l e room_1 s m #[Value.ref b] below meth c H [] 600000 7302250 (lw_Z below #[Value.ref b] s) (F0 m pc ls [.int 1]) := by
  intro T hT X
  obtain ⟨fs, hret, hrun, hended, hW, hframe⟩ := X.leave (v := some (.int 1)) (hlocks := hlocks) (fun h => by rw [hr] at h; cases h)
  have hmeth' : T.vm.method? m = some meth := X.method'
  refine ⟨T.setFrames fs, ?_, .returned (some (.int 1)), hrun, hended, rfl, ⟨_, rfl⟩, hW, hframe⟩
  jvm_step X.here [X.here.top, hx, hb, hdg, hmeth', hr, ret, narrow_b1]
  (try refine ⟨rfl, ?_⟩); (try refine ⟨rfl, ?_⟩)
  first | (intro acts; rw [hret _ acts rfl rfl rfl]) | rw [hret _ _ rfl rfl rfl]
  exact Steps.refl _
/-- what holds at the law's entry: the machine, the code, the tables' words (any of lw_tbl by 'hts w (by decide +kernel)'), the script of L ints xs at the cell b, what the Statement gives of the start (any of its parts by flat_of_before) -/
def lw_At (p : Program) (s : State) (m : MethodId) (meth : Method) (c : Code) (b L : Nat) (xs : Nat → Int32) : Prop :=
  p.tables.exec = Jvm.exec ∧ c.code = code ∧ meth.sig.returnType = ret ∧ c.maxLocals = 4 ∧ s.vm.findClass R_law = some m.cls ∧ (∀ w ∈ lw_tbl, w.before #[Value.ref b] s = true) ∧ va_X b L xs s s.heap ∧ b < s.heap.size ∧ meth.locks = false ∧ (Jvm.Cond.and given_1 narrow_1).before #[Value.ref b] s = true
section LAWX
variable {κ : Kx Unit} {o : Option Unit} {cc : ByteArray} {own : String} {n pc q : Nat} {ls : List (Nat × Value)} {st : List Value} {h : Hp} {L : Nat} {xs : Nat → Int32}
def SXp (κ : Kx Unit) (L : Nat) (xs : Nat → Int32) : Prop := va_X (kad κ 93) L xs (ks κ) (ks κ).heap ∧ kad κ 93 < (ks κ).heap.size ∧ ¬ kA κ (kad κ 93)
def LWp (κ : Kx Unit) : Prop := kR κ = room_1 ∧ ka κ = #[Value.ref (kad κ 93)] ∧ kQ κ () = lw_Z (kb κ) #[Value.ref (kad κ 93)] (ks κ) ∧ (∀ q, kA κ q → (ks κ).heap.size ≤ q) ∧ kcl κ ≤ 600000 ∧ ksl κ ≤ 7302250 ∧ (kme κ).sig.returnType = ret
theorem x_none : Xz κ none pc ls st h := fun out ho => by cases ho
theorem x_sld (q : Nat) (C : Gd κ cc own n) (S : SXp κ L xs) {i : Int32} (d : decode cc pc = .ok (.iaload, 1)) (hq : pc + 1 = q) (k : Xz κ o q ls (.int (xs i.toNatClampNeg) :: st) h) : Xz κ (ck i L o) pc ls (.int i :: .ref 93 :: st) h := by
  subst hq
  exact x_ck fun hin out ho H locs arr hP hS hl => va_sld C.x C.b S.1 S.2.1 S.2.2 hS hin d (k out ho H locs arr hP hS hl)
theorem x_slen (q : Nat) (C : Gd κ cc own n) (S : SXp κ L xs) (d : decode cc pc = .ok (.arraylength, 1)) (hq : pc + 1 = q) (k : Xz κ o q ls (.int (nI L) :: st) h) : Xz κ o pc ls (.ref 93 :: st) h := by
  subst hq
  exact fun out ho H locs arr hP hS hl => va_slen C.x C.b S.1 S.2.1 S.2.2 hS d (k out ho H locs arr hP hS hl)
theorem x_law1 (C : Gd κ code own n) (E : LWp κ) (d : decode code pc = .ok (.ireturn, 1)) : Xz κ (some ()) pc ls [.int 1] h := by
  intro out _ H locs arr hP hS hl
  obtain ⟨e1, e2, e3, e4, e5, e6, e7⟩ := E
  have hx := C.x
  have hb := C.b
  have hk := C.lk
  obtain ⟨⟨p, l, e, R, s, m, args, below, meth, c⟩, ad, D, cs, A, nL, cl, sl, Q⟩ := κ
  have e1 : R = room_1 := e1
  have e2 : args = #[Value.ref (ad 93)] := e2
  have e3 : Q () = lw_Z below #[Value.ref (ad 93)] s := e3
  have e4 : ∀ q, A q → s.heap.size ≤ q := e4
  have e5 : cl ≤ 600000 := e5
  have e6 : sl ≤ 7302250 := e6
  have e7 : meth.sig.returnType = ret := e7
  have hx : p.tables.exec = Jvm.exec := hx
  have hb : c.code = code := hb
  have hk : meth.locks = false := hk
  show W p l e R s m args below meth c H locs cl sl (Q ()) (F0 m pc arr [.int 1])
  rw [e1, e2, e3]
  refine va_forget (fun q hq => e4 _ (hS.2.2 q hq)) ?_
  exact W.widen e5 e6 (lw_ret hx hb e7 hk d)
end LAWX
theorem ci_6 : Int32.ofInt (6) = (6 : Int32) := by decide
theorem cb_63 : (Int8.ofInt (63)).toInt32 = (63 : Int32) := by decide
def f_law (L : Nat) (xs : Nat → Int32) (h : Hp) : Option Unit :=
  fx2 FU (fun s1 (h1 : Hp) (x2 : Int32) =>
    if ((nI L) - (6 : Int32)) < x2 then (
      some ())
    else (
      ck x2 L (
        lt1 (fun (h3 : Hp) =>
          nm (x2 + (6 : Int32)) fun x4 =>
          s1 h3 x4) fun k2 =>
        if ((xs x2.toNatClampNeg) &&& (63 : Int32)) = (0 : Int32) then (
          ck (x2 + (1 : Int32)) L (
            ck (x2 + (2 : Int32)) L (
              bnd (f_X7_type h1 (xs (x2 + (1 : Int32)).toNatClampNeg) (xs (x2 + (2 : Int32)).toNatClampNeg)) fun h5 x6 =>
              ck (x2 + (1 : Int32)) L (
                ck (x2 + (2 : Int32)) L (
                  bnd (f_X8_type h5 (xs (x2 + (1 : Int32)).toNatClampNeg) (xs (x2 + (2 : Int32)).toNatClampNeg)) fun h7 x8 =>
                  if x6 = x8 then (
                    k2 h7)
                  else (
                    none))))))
        else (
          if ((xs x2.toNatClampNeg) &&& (63 : Int32)) = (1 : Int32) then (
            ck (x2 + (1 : Int32)) L (
              bnd (f_X7_wipe h1 (xs (x2 + (1 : Int32)).toNatClampNeg)) fun h9 x10 =>
              ck (x2 + (1 : Int32)) L (
                bnd (f_X8_wipe h9 (xs (x2 + (1 : Int32)).toNatClampNeg)) fun h11 x12 =>
                if x10 = x12 then (
                  k2 h11)
                else (
                  none))))
          else (
            if ((xs x2.toNatClampNeg) &&& (63 : Int32)) = (2 : Int32) then (
              ck (x2 + (1 : Int32)) L (
                bnd (f_X7_undo h1 (xs (x2 + (1 : Int32)).toNatClampNeg)) fun h13 x14 =>
                ck (x2 + (1 : Int32)) L (
                  bnd (f_X8_undo h13 (xs (x2 + (1 : Int32)).toNatClampNeg)) fun h15 x16 =>
                  if x14 = x16 then (
                    k2 h15)
                  else (
                    none))))
            else (
              if ((xs x2.toNatClampNeg) &&& (63 : Int32)) = (3 : Int32) then (
                ck (x2 + (1 : Int32)) L (
                  bdr (f_X7_fault h1 (xs (x2 + (1 : Int32)).toNatClampNeg)) fun x17 =>
                  ck (x2 + (1 : Int32)) L (
                    bnd (f_X8_fault h1 (xs (x2 + (1 : Int32)).toNatClampNeg)) fun h18 x19 =>
                    if x17 = x19 then (
                      k2 h18)
                    else (
                      none))))
              else (
                if ((xs x2.toNatClampNeg) &&& (63 : Int32)) = (4 : Int32) then (
                  ck (x2 + (1 : Int32)) L (
                    ck (x2 + (2 : Int32)) L (
                      bdr (f_X7_walker h1 (xs (x2 + (1 : Int32)).toNatClampNeg) (xs (x2 + (2 : Int32)).toNatClampNeg)) fun x20 =>
                      ck (x2 + (1 : Int32)) L (
                        ck (x2 + (2 : Int32)) L (
                          bnd (f_X8_walker h1 (xs (x2 + (1 : Int32)).toNatClampNeg) (xs (x2 + (2 : Int32)).toNatClampNeg)) fun h21 x22 =>
                          if x20 = x22 then (
                            k2 h21)
                          else (
                            none))))))
                else (
                  if ((xs x2.toNatClampNeg) &&& (63 : Int32)) = (5 : Int32) then (
                    ck (x2 + (1 : Int32)) L (
                      bdr (f_X7_routine h1 (xs (x2 + (1 : Int32)).toNatClampNeg)) fun x23 =>
                      ck (x2 + (1 : Int32)) L (
                        bnd (f_X8_routine h1 (xs (x2 + (1 : Int32)).toNatClampNeg)) fun h24 x25 =>
                        if x23 = x25 then (
                          k2 h24)
                        else (
                          none))))
                  else (
                    if ((xs x2.toNatClampNeg) &&& (63 : Int32)) = (6 : Int32) then (
                      ck (x2 + (1 : Int32)) L (
                        ck (x2 + (2 : Int32)) L (
                          bnd (f_X7_wire h1 (xs (x2 + (1 : Int32)).toNatClampNeg) (xs (x2 + (2 : Int32)).toNatClampNeg)) fun h26 x27 =>
                          ck (x2 + (1 : Int32)) L (
                            ck (x2 + (2 : Int32)) L (
                              bnd (f_X8_wire h26 (xs (x2 + (1 : Int32)).toNatClampNeg) (xs (x2 + (2 : Int32)).toNatClampNeg)) fun h28 x29 =>
                              if x27 = x29 then (
                                k2 h28)
                              else (
                                none))))))
                    else (
                      if ((xs x2.toNatClampNeg) &&& (63 : Int32)) = (7 : Int32) then (
                        ck (x2 + (1 : Int32)) L (
                          ck (x2 + (2 : Int32)) L (
                            ck (x2 + (3 : Int32)) L (
                              bnd (f_X7_event h1 (xs (x2 + (1 : Int32)).toNatClampNeg) (xs (x2 + (2 : Int32)).toNatClampNeg) (xs (x2 + (3 : Int32)).toNatClampNeg)) fun h30 x31 =>
                              ck (x2 + (1 : Int32)) L (
                                ck (x2 + (2 : Int32)) L (
                                  ck (x2 + (3 : Int32)) L (
                                    bnd (f_X8_event h30 (xs (x2 + (1 : Int32)).toNatClampNeg) (xs (x2 + (2 : Int32)).toNatClampNeg) (xs (x2 + (3 : Int32)).toNatClampNeg)) fun h32 x33 =>
                                    if x31 = x33 then (
                                      k2 h32)
                                    else (
                                      none))))))))
                      else (
                        if ((xs x2.toNatClampNeg) &&& (63 : Int32)) = (8 : Int32) then (
                          bnd (f_X7_back h1) fun h34 x35 =>
                          bnd (f_X8_back h34) fun h36 x37 =>
                          if x35 = x37 then (
                            k2 h36)
                          else (
                            none))
                        else (
                          if ((xs x2.toNatClampNeg) &&& (63 : Int32)) = (9 : Int32) then (
                            ck (x2 + (1 : Int32)) L (
                              bnd (f_X7_read h1 (xs (x2 + (1 : Int32)).toNatClampNeg)) fun h38 x39 =>
                              ck (x2 + (1 : Int32)) L (
                                bnd (f_X8_read h38 (xs (x2 + (1 : Int32)).toNatClampNeg)) fun h40 x41 =>
                                if x39 = x41 then (
                                  k2 h40)
                                else (
                                  none))))
                          else (
                            if ((xs x2.toNatClampNeg) &&& (63 : Int32)) = (10 : Int32) then (
                              ck (x2 + (1 : Int32)) L (
                                ck (x2 + (2 : Int32)) L (
                                  ck (x2 + (3 : Int32)) L (
                                    bnd (f_X7_at h1 (xs (x2 + (1 : Int32)).toNatClampNeg) (xs (x2 + (2 : Int32)).toNatClampNeg) (xs (x2 + (3 : Int32)).toNatClampNeg)) fun h42 x43 =>
                                    ck (x2 + (1 : Int32)) L (
                                      ck (x2 + (2 : Int32)) L (
                                        ck (x2 + (3 : Int32)) L (
                                          bnd (f_X8_at h42 (xs (x2 + (1 : Int32)).toNatClampNeg) (xs (x2 + (2 : Int32)).toNatClampNeg) (xs (x2 + (3 : Int32)).toNatClampNeg)) fun h44 x45 =>
                                          if x43 = x45 then (
                                            k2 h44)
                                          else (
                                            none))))))))
                            else (
                              if ((xs x2.toNatClampNeg) &&& (63 : Int32)) = (11 : Int32) then (
                                ck (x2 + (1 : Int32)) L (
                                  ck (x2 + (2 : Int32)) L (
                                    bnd (f_X7_lean h1 (xs (x2 + (1 : Int32)).toNatClampNeg) (xs (x2 + (2 : Int32)).toNatClampNeg)) fun h46 x47 =>
                                    ck (x2 + (1 : Int32)) L (
                                      ck (x2 + (2 : Int32)) L (
                                        bnd (f_X8_lean h46 (xs (x2 + (1 : Int32)).toNatClampNeg) (xs (x2 + (2 : Int32)).toNatClampNeg)) fun h48 x49 =>
                                        if x47 = x49 then (
                                          k2 h48)
                                        else (
                                          none))))))
                              else (
                                if ((xs x2.toNatClampNeg) &&& (63 : Int32)) = (12 : Int32) then (
                                  ck (x2 + (1 : Int32)) L (
                                    ck (x2 + (2 : Int32)) L (
                                      bnd (f_X7_sees h1 (xs (x2 + (1 : Int32)).toNatClampNeg) (xs (x2 + (2 : Int32)).toNatClampNeg)) fun h50 x51 =>
                                      ck (x2 + (1 : Int32)) L (
                                        ck (x2 + (2 : Int32)) L (
                                          bnd (f_X8_sees h50 (xs (x2 + (1 : Int32)).toNatClampNeg) (xs (x2 + (2 : Int32)).toNatClampNeg)) fun h52 x53 =>
                                          if x51 = x53 then (
                                            k2 h52)
                                          else (
                                            none))))))
                                else (
                                  if ((xs x2.toNatClampNeg) &&& (63 : Int32)) = (13 : Int32) then (
                                    ck (x2 + (1 : Int32)) L (
                                      bnd (f_X7_sway h1 (xs (x2 + (1 : Int32)).toNatClampNeg)) fun h54 x55 =>
                                      ck (x2 + (1 : Int32)) L (
                                        bnd (f_X8_sway h54 (xs (x2 + (1 : Int32)).toNatClampNeg)) fun h56 x57 =>
                                        if x55 = x57 then (
                                          k2 h56)
                                        else (
                                          none))))
                                  else (
                                    if ((xs x2.toNatClampNeg) &&& (63 : Int32)) = (14 : Int32) then (
                                      ck (x2 + (1 : Int32)) L (
                                        ck (x2 + (2 : Int32)) L (
                                          bnd (f_X7_ends h1 (xs (x2 + (1 : Int32)).toNatClampNeg) (xs (x2 + (2 : Int32)).toNatClampNeg)) fun h58 x59 =>
                                          ck (x2 + (1 : Int32)) L (
                                            ck (x2 + (2 : Int32)) L (
                                              bnd (f_X8_ends h58 (xs (x2 + (1 : Int32)).toNatClampNeg) (xs (x2 + (2 : Int32)).toNatClampNeg)) fun h60 x61 =>
                                              if x59 = x61 then (
                                                k2 h60)
                                              else (
                                                none))))))
                                    else (
                                      if ((xs x2.toNatClampNeg) &&& (63 : Int32)) = (15 : Int32) then (
                                        ck (x2 + (1 : Int32)) L (
                                          bnd (f_X7_sum h1 (xs (x2 + (1 : Int32)).toNatClampNeg)) fun h62 x63 =>
                                          ck (x2 + (1 : Int32)) L (
                                            bnd (f_X8_sum h62 (xs (x2 + (1 : Int32)).toNatClampNeg)) fun h64 x65 =>
                                            if x63 = x65 then (
                                              k2 h64)
                                            else (
                                              none))))
                                      else (
                                        if ((xs x2.toNatClampNeg) &&& (63 : Int32)) = (16 : Int32) then (
                                          ck (x2 + (1 : Int32)) L (
                                            bnd (f_X7_who h1 (xs (x2 + (1 : Int32)).toNatClampNeg)) fun h66 x67 =>
                                            ck (x2 + (1 : Int32)) L (
                                              bnd (f_X8_who h66 (xs (x2 + (1 : Int32)).toNatClampNeg)) fun h68 x69 =>
                                              if x67 = x69 then (
                                                k2 h68)
                                              else (
                                                none))))
                                        else (
                                          if ((xs x2.toNatClampNeg) &&& (63 : Int32)) = (17 : Int32) then (
                                            bnd (f_X7_bare h1) fun h70 x71 =>
                                            bnd (f_X8_bare h70) fun h72 x73 =>
                                            if x71 = x73 then (
                                              k2 h72)
                                            else (
                                              none))
                                          else (
                                            if ((xs x2.toNatClampNeg) &&& (63 : Int32)) = (18 : Int32) then (
                                              ck (x2 + (1 : Int32)) L (
                                                ck (x2 + (2 : Int32)) L (
                                                  bnd (f_X7_start h1 (xs (x2 + (1 : Int32)).toNatClampNeg) (xs (x2 + (2 : Int32)).toNatClampNeg)) fun h74 x75 =>
                                                  ck (x2 + (1 : Int32)) L (
                                                    ck (x2 + (2 : Int32)) L (
                                                      bnd (f_X8_start h74 (xs (x2 + (1 : Int32)).toNatClampNeg) (xs (x2 + (2 : Int32)).toNatClampNeg)) fun h76 x77 =>
                                                      if x75 = x77 then (
                                                        k2 h76)
                                                      else (
                                                        none))))))
                                            else (
                                              if ((xs x2.toNatClampNeg) &&& (63 : Int32)) = (19 : Int32) then (
                                                ck (x2 + (1 : Int32)) L (
                                                  ck (x2 + (2 : Int32)) L (
                                                    bnd (f_X7_hold h1 (xs (x2 + (1 : Int32)).toNatClampNeg) (xs (x2 + (2 : Int32)).toNatClampNeg)) fun h78 x79 =>
                                                    ck (x2 + (1 : Int32)) L (
                                                      ck (x2 + (2 : Int32)) L (
                                                        bnd (f_X8_hold h78 (xs (x2 + (1 : Int32)).toNatClampNeg) (xs (x2 + (2 : Int32)).toNatClampNeg)) fun h80 x81 =>
                                                        if x79 = x81 then (
                                                          k2 h80)
                                                        else (
                                                          none))))))
                                              else (
                                                if ((xs x2.toNatClampNeg) &&& (63 : Int32)) = (20 : Int32) then (
                                                  ck (x2 + (1 : Int32)) L (
                                                    ck (x2 + (2 : Int32)) L (
                                                      bnd (f_X7_act h1 (xs (x2 + (1 : Int32)).toNatClampNeg) (xs (x2 + (2 : Int32)).toNatClampNeg)) fun h82 x83 =>
                                                      ck (x2 + (1 : Int32)) L (
                                                        ck (x2 + (2 : Int32)) L (
                                                          bnd (f_X8_act h82 (xs (x2 + (1 : Int32)).toNatClampNeg) (xs (x2 + (2 : Int32)).toNatClampNeg)) fun h84 x85 =>
                                                          if x83 = x85 then (
                                                            k2 h84)
                                                          else (
                                                            none))))))
                                                else (
                                                  if ((xs x2.toNatClampNeg) &&& (63 : Int32)) = (21 : Int32) then (
                                                    ck (x2 + (1 : Int32)) L (
                                                      bnd (f_X7_spare h1 (xs (x2 + (1 : Int32)).toNatClampNeg)) fun h86 x87 =>
                                                      ck (x2 + (1 : Int32)) L (
                                                        bnd (f_X8_spare h86 (xs (x2 + (1 : Int32)).toNatClampNeg)) fun h88 x89 =>
                                                        if x87 = x89 then (
                                                          k2 h88)
                                                        else (
                                                          none))))
                                                  else (
                                                    if ((xs x2.toNatClampNeg) &&& (63 : Int32)) = (22 : Int32) then (
                                                      ck (x2 + (1 : Int32)) L (
                                                        ck (x2 + (2 : Int32)) L (
                                                          ck (x2 + (3 : Int32)) L (
                                                            bnd (f_X7_seen h1 (xs (x2 + (1 : Int32)).toNatClampNeg) (xs (x2 + (2 : Int32)).toNatClampNeg) (xs (x2 + (3 : Int32)).toNatClampNeg)) fun h90 x91 =>
                                                            ck (x2 + (1 : Int32)) L (
                                                              ck (x2 + (2 : Int32)) L (
                                                                ck (x2 + (3 : Int32)) L (
                                                                  bnd (f_X8_seen h90 (xs (x2 + (1 : Int32)).toNatClampNeg) (xs (x2 + (2 : Int32)).toNatClampNeg) (xs (x2 + (3 : Int32)).toNatClampNeg)) fun h92 x93 =>
                                                                  if x91 = x93 then (
                                                                    k2 h92)
                                                                  else (
                                                                    none))))))))
                                                    else (
                                                      if ((xs x2.toNatClampNeg) &&& (63 : Int32)) = (23 : Int32) then (
                                                        bnd (f_X7_forget h1) fun h94 x95 =>
                                                        bnd (f_X8_forget h94) fun h96 x97 =>
                                                        if x95 = x97 then (
                                                          k2 h96)
                                                        else (
                                                          none))
                                                      else (
                                                        if ((xs x2.toNatClampNeg) &&& (63 : Int32)) = (24 : Int32) then (
                                                          bnd (f_X7_never h1) fun h98 x99 =>
                                                          bnd (f_X8_never h98) fun h100 x101 =>
                                                          if x99 = x101 then (
                                                            k2 h100)
                                                          else (
                                                            none))
                                                        else (
                                                          if ((xs x2.toNatClampNeg) &&& (63 : Int32)) = (25 : Int32) then (
                                                            ck (x2 + (1 : Int32)) L (
                                                              ck (x2 + (2 : Int32)) L (
                                                                bnd (f_X7_was h1 (xs (x2 + (1 : Int32)).toNatClampNeg) (xs (x2 + (2 : Int32)).toNatClampNeg)) fun h102 x103 =>
                                                                ck (x2 + (1 : Int32)) L (
                                                                  ck (x2 + (2 : Int32)) L (
                                                                    bnd (f_X8_was h102 (xs (x2 + (1 : Int32)).toNatClampNeg) (xs (x2 + (2 : Int32)).toNatClampNeg)) fun h104 x105 =>
                                                                    if x103 = x105 then (
                                                                      k2 h104)
                                                                    else (
                                                                      none))))))
                                                          else (
                                                            if ((xs x2.toNatClampNeg) &&& (63 : Int32)) = (26 : Int32) then (
                                                              ck (x2 + (1 : Int32)) L (
                                                                bnd (f_X7_ask h1 (xs (x2 + (1 : Int32)).toNatClampNeg)) fun h106 x107 =>
                                                                ck (x2 + (1 : Int32)) L (
                                                                  bnd (f_X8_ask h106 (xs (x2 + (1 : Int32)).toNatClampNeg)) fun h108 x109 =>
                                                                  if x107 = x109 then (
                                                                    k2 h108)
                                                                  else (
                                                                    none))))
                                                            else (
                                                              if ((xs x2.toNatClampNeg) &&& (63 : Int32)) = (27 : Int32) then (
                                                                ck (x2 + (1 : Int32)) L (
                                                                  ck (x2 + (2 : Int32)) L (
                                                                    ck (x2 + (3 : Int32)) L (
                                                                      bnd (f_X7_chance h1 (xs (x2 + (1 : Int32)).toNatClampNeg) (xs (x2 + (2 : Int32)).toNatClampNeg) (xs (x2 + (3 : Int32)).toNatClampNeg)) fun h110 l111 =>
                                                                      ck (x2 + (1 : Int32)) L (
                                                                        ck (x2 + (2 : Int32)) L (
                                                                          ck (x2 + (3 : Int32)) L (
                                                                            bnd (f_X8_chance h110 (xs (x2 + (1 : Int32)).toNatClampNeg) (xs (x2 + (2 : Int32)).toNatClampNeg) (xs (x2 + (3 : Int32)).toNatClampNeg)) fun h112 l113 =>
                                                                            if (lg_cmp l111 l113) = 0 then (
                                                                              k2 h112)
                                                                            else (
                                                                              none))))))))
                                                              else (
                                                                if ((xs x2.toNatClampNeg) &&& (63 : Int32)) = (28 : Int32) then (
                                                                  ck (x2 + (1 : Int32)) L (
                                                                    ck (x2 + (2 : Int32)) L (
                                                                      ck (x2 + (3 : Int32)) L (
                                                                        bnd (f_X7_shows h1 (xs (x2 + (1 : Int32)).toNatClampNeg) (xs (x2 + (2 : Int32)).toNatClampNeg) (xs (x2 + (3 : Int32)).toNatClampNeg)) fun h114 x115 =>
                                                                        ck (x2 + (1 : Int32)) L (
                                                                          ck (x2 + (2 : Int32)) L (
                                                                            ck (x2 + (3 : Int32)) L (
                                                                              bnd (f_X8_shows h114 (xs (x2 + (1 : Int32)).toNatClampNeg) (xs (x2 + (2 : Int32)).toNatClampNeg) (xs (x2 + (3 : Int32)).toNatClampNeg)) fun h116 x117 =>
                                                                              if x115 = x117 then (
                                                                                k2 h116)
                                                                              else (
                                                                                none))))))))
                                                                else (
                                                                  if ((xs x2.toNatClampNeg) &&& (63 : Int32)) = (29 : Int32) then (
                                                                    ck (x2 + (1 : Int32)) L (
                                                                      ck (x2 + (2 : Int32)) L (
                                                                        ck (x2 + (3 : Int32)) L (
                                                                          bnd (f_X7_sheet h1 (xs (x2 + (1 : Int32)).toNatClampNeg) (xs (x2 + (2 : Int32)).toNatClampNeg) (xs (x2 + (3 : Int32)).toNatClampNeg)) fun h118 x119 =>
                                                                          ck (x2 + (1 : Int32)) L (
                                                                            ck (x2 + (2 : Int32)) L (
                                                                              ck (x2 + (3 : Int32)) L (
                                                                                bnd (f_X8_sheet h118 (xs (x2 + (1 : Int32)).toNatClampNeg) (xs (x2 + (2 : Int32)).toNatClampNeg) (xs (x2 + (3 : Int32)).toNatClampNeg)) fun h120 x121 =>
                                                                                if x119 = x121 then (
                                                                                  k2 h120)
                                                                                else (
                                                                                  none))))))))
                                                                  else (
                                                                    if ((xs x2.toNatClampNeg) &&& (63 : Int32)) = (30 : Int32) then (
                                                                      ck (x2 + (1 : Int32)) L (
                                                                        bnd (f_X7_lose h1 (xs (x2 + (1 : Int32)).toNatClampNeg)) fun h122 x123 =>
                                                                        ck (x2 + (1 : Int32)) L (
                                                                          bnd (f_X8_lose h122 (xs (x2 + (1 : Int32)).toNatClampNeg)) fun h124 x125 =>
                                                                          if x123 = x125 then (
                                                                            k2 h124)
                                                                          else (
                                                                            none))))
                                                                    else (
                                                                      if ((xs x2.toNatClampNeg) &&& (63 : Int32)) = (31 : Int32) then (
                                                                        ck (x2 + (1 : Int32)) L (
                                                                          ck (x2 + (2 : Int32)) L (
                                                                            ck (x2 + (3 : Int32)) L (
                                                                              ck (x2 + (4 : Int32)) L (
                                                                                bnd (f_X7_lay h1 (xs (x2 + (1 : Int32)).toNatClampNeg) (xs (x2 + (2 : Int32)).toNatClampNeg) (xs (x2 + (3 : Int32)).toNatClampNeg) (xs (x2 + (4 : Int32)).toNatClampNeg)) fun h126 x127 =>
                                                                                ck (x2 + (1 : Int32)) L (
                                                                                  ck (x2 + (2 : Int32)) L (
                                                                                    ck (x2 + (3 : Int32)) L (
                                                                                      ck (x2 + (4 : Int32)) L (
                                                                                        bnd (f_X8_lay h126 (xs (x2 + (1 : Int32)).toNatClampNeg) (xs (x2 + (2 : Int32)).toNatClampNeg) (xs (x2 + (3 : Int32)).toNatClampNeg) (xs (x2 + (4 : Int32)).toNatClampNeg)) fun h128 x129 =>
                                                                                        if x127 = x129 then (
                                                                                          k2 h128)
                                                                                        else (
                                                                                          none))))))))))
                                                                      else (
                                                                        if ((xs x2.toNatClampNeg) &&& (63 : Int32)) = (32 : Int32) then (
                                                                          ck (x2 + (1 : Int32)) L (
                                                                            ck (x2 + (2 : Int32)) L (
                                                                              ck (x2 + (3 : Int32)) L (
                                                                                bnd (f_X7_get h1 (xs (x2 + (1 : Int32)).toNatClampNeg) (xs (x2 + (2 : Int32)).toNatClampNeg) (xs (x2 + (3 : Int32)).toNatClampNeg)) fun h130 x131 =>
                                                                                ck (x2 + (1 : Int32)) L (
                                                                                  ck (x2 + (2 : Int32)) L (
                                                                                    ck (x2 + (3 : Int32)) L (
                                                                                      bnd (f_X8_get h130 (xs (x2 + (1 : Int32)).toNatClampNeg) (xs (x2 + (2 : Int32)).toNatClampNeg) (xs (x2 + (3 : Int32)).toNatClampNeg)) fun h132 x133 =>
                                                                                      if x131 = x133 then (
                                                                                        k2 h132)
                                                                                      else (
                                                                                        none))))))))
                                                                        else (
                                                                          if ((xs x2.toNatClampNeg) &&& (63 : Int32)) = (33 : Int32) then (
                                                                            ck (x2 + (1 : Int32)) L (
                                                                              ck (x2 + (2 : Int32)) L (
                                                                                ck (x2 + (3 : Int32)) L (
                                                                                  ck (x2 + (4 : Int32)) L (
                                                                                    ck (x2 + (5 : Int32)) L (
                                                                                      bnd (f_X7_copy h1 (xs (x2 + (1 : Int32)).toNatClampNeg) (xs (x2 + (2 : Int32)).toNatClampNeg) (xs (x2 + (3 : Int32)).toNatClampNeg) (xs (x2 + (4 : Int32)).toNatClampNeg) (xs (x2 + (5 : Int32)).toNatClampNeg)) fun h134 x135 =>
                                                                                      ck (x2 + (1 : Int32)) L (
                                                                                        ck (x2 + (2 : Int32)) L (
                                                                                          ck (x2 + (3 : Int32)) L (
                                                                                            ck (x2 + (4 : Int32)) L (
                                                                                              ck (x2 + (5 : Int32)) L (
                                                                                                bnd (f_X8_copy h134 (xs (x2 + (1 : Int32)).toNatClampNeg) (xs (x2 + (2 : Int32)).toNatClampNeg) (xs (x2 + (3 : Int32)).toNatClampNeg) (xs (x2 + (4 : Int32)).toNatClampNeg) (xs (x2 + (5 : Int32)).toNatClampNeg)) fun h136 x137 =>
                                                                                                if x135 = x137 then (
                                                                                                  k2 h136)
                                                                                                else (
                                                                                                  none))))))))))))
                                                                          else (
                                                                            if ((xs x2.toNatClampNeg) &&& (63 : Int32)) = (34 : Int32) then (
                                                                              ck (x2 + (1 : Int32)) L (
                                                                                ck (x2 + (2 : Int32)) L (
                                                                                  bnd (f_X7_write h1 (xs (x2 + (1 : Int32)).toNatClampNeg) (xs (x2 + (2 : Int32)).toNatClampNeg)) fun h138 x139 =>
                                                                                  ck (x2 + (1 : Int32)) L (
                                                                                    ck (x2 + (2 : Int32)) L (
                                                                                      bnd (f_X8_write h138 (xs (x2 + (1 : Int32)).toNatClampNeg) (xs (x2 + (2 : Int32)).toNatClampNeg)) fun h140 x141 =>
                                                                                      if x139 = x141 then (
                                                                                        k2 h140)
                                                                                      else (
                                                                                        none))))))
                                                                            else (
                                                                              if ((xs x2.toNatClampNeg) &&& (63 : Int32)) = (35 : Int32) then (
                                                                                ck (x2 + (1 : Int32)) L (
                                                                                  bdr (f_X7_count h1 (xs (x2 + (1 : Int32)).toNatClampNeg)) fun x142 =>
                                                                                  ck (x2 + (1 : Int32)) L (
                                                                                    bnd (f_X8_count h1 (xs (x2 + (1 : Int32)).toNatClampNeg)) fun h143 x144 =>
                                                                                    if x142 = x144 then (
                                                                                      k2 h143)
                                                                                    else (
                                                                                      none))))
                                                                              else (
                                                                                if ((xs x2.toNatClampNeg) &&& (63 : Int32)) = (36 : Int32) then (
                                                                                  bnd (f_X7_digest h1) fun h145 l146 =>
                                                                                  bnd (f_X8_digest h145) fun h147 l148 =>
                                                                                  if (lg_cmp l146 l148) = 0 then (
                                                                                    k2 h147)
                                                                                  else (
                                                                                    none))
                                                                                else (
                                                                                  k2 h1)))))))))))))))))))))))))))))))))))))))) h (0 : Int32)
set_option maxRecDepth 20000 in
set_option maxHeartbeats 4000000 in
theorem m_law {L : Nat} {xs : Nat → Int32} {h : Hp} {κ : Kx Unit} (hn : kn κ = 4) (C : Gd κ code RL 13) (SX : SXp κ L xs) (LW : LWp κ) : Xz κ (f_law L xs h) 18 [(3, .int (0 : Int32)), (2, .ref 68), (1, .ref 0), (0, .ref 93)] [] h := by
  have n3 : 3 < kn κ := by rw [hn]; decide
  unfold f_law
  refine x_ls [3, 2, 1, 0] rfl (x_fx2 (ls := fun h1 x2 => [(0, .ref 93), (1, .ref 0), (2, .ref 68), (3, .int x2)]) (st := fun h1 x2 => []) (hh := fun h1 x2 => h1) (fun s1 J1 h1 x2 => ?_))
  refine x_iload_n 19 C dL_law_18 3 rfl rfl rfl ?_
  refine x_aload_n 20 C dL_law_19 0 rfl rfl rfl ?_
  refine x_slen 21 C SX dL_law_20 rfl ?_
  refine x_bipush 23 C dL_law_21 cb_6 rfl ?_
  refine x_isub 24 C dL_law_23 rfl ?_
  refine x_icmp_gt 27 1325 C dL_law_24 (by decide) rfl (fun _ => ?_) (fun _ => ?_)
  · refine x_iconst 1326 C dL_law_1325 ci_1 rfl ?_
    exact x_law1 C LW dL_law_1326
  · refine x_aload_n 28 C dL_law_27 0 rfl rfl rfl ?_
    refine x_iload_n 29 C dL_law_28 3 rfl rfl rfl ?_
    refine x_sld 30 C SX dL_law_29 rfl ?_
    refine x_bipush 32 C dL_law_30 cb_63 rfl ?_
    refine x_iand 33 C dL_law_32 rfl ?_
    refine x_lt1 (q := 1319) (ls := fun h3 => [(0, .ref 93), (1, .ref 0), (2, .ref 68), (3, .int x2)]) (st := fun h3 => []) (hh := fun h3 => h3) (fun h3 => ?_) (fun k2 J2 => ?_)
    · refine x_iinc 1322 (fun x4 => [(3, .int x4), (0, .ref 93), (1, .ref 0), (2, .ref 68)]) C dL_law_1319 3 rfl ci_6 n3 (fun _ => rfl) rfl (fun x4 => ?_)
      refine x_goto 18 C dL_law_1322 (by decide) ?_
      exact x_ls [1, 2, 3, 0] rfl (J1 h3 x4)
    refine x_ite (fun e0 => ?_) (fun e0 => ?_)
    · refine x_tabI (off := 163) 196 C dL_law_33 e0 (by decide) (by decide) (by decide) (by decide) ?_
      refine x_aload_n 197 C dL_law_196 1 rfl rfl rfl ?_
      refine x_aload_n 198 C dL_law_197 0 rfl rfl rfl ?_
      refine x_iload_n 199 C dL_law_198 3 rfl rfl rfl ?_
      refine x_iconst 200 C dL_law_199 ci_1 rfl ?_
      refine x_iadd 201 C dL_law_200 rfl ?_
      refine x_sld 202 C SX dL_law_201 rfl ?_
      refine x_aload_n 203 C dL_law_202 0 rfl rfl rfl ?_
      refine x_iload_n 204 C dL_law_203 3 rfl rfl rfl ?_
      refine x_iconst 205 C dL_law_204 ci_2 rfl ?_
      refine x_iadd 206 C dL_law_205 rfl ?_
      refine x_sld 207 C SX dL_law_206 rfl ?_
      refine x_cvI 210 [.int (xs (x2 + (1 : Int32)).toNatClampNeg), .int (xs (x2 + (2 : Int32)).toNatClampNeg)] [] C 5 dL_law_207 v_L_13 (fun u hu => m_X7_type hu) rfl sk_0 rfl (Nat.le_of_ble_eq_true rfl) (Nat.le_of_ble_eq_true rfl) rfl (fun h5 x6 => ?_)
      refine x_aload_n 211 C dL_law_210 2 rfl rfl rfl ?_
      refine x_aload_n 212 C dL_law_211 0 rfl rfl rfl ?_
      refine x_iload_n 213 C dL_law_212 3 rfl rfl rfl ?_
      refine x_iconst 214 C dL_law_213 ci_1 rfl ?_
      refine x_iadd 215 C dL_law_214 rfl ?_
      refine x_sld 216 C SX dL_law_215 rfl ?_
      refine x_aload_n 217 C dL_law_216 0 rfl rfl rfl ?_
      refine x_iload_n 218 C dL_law_217 3 rfl rfl rfl ?_
      refine x_iconst 219 C dL_law_218 ci_2 rfl ?_
      refine x_iadd 220 C dL_law_219 rfl ?_
      refine x_sld 221 C SX dL_law_220 rfl ?_
      refine x_cvI 224 [.int (xs (x2 + (1 : Int32)).toNatClampNeg), .int (xs (x2 + (2 : Int32)).toNatClampNeg)] [.int x6] C 2 dL_law_221 v_L_17 (fun u hu => m_X8_type hu) rfl sk_68 rfl (Nat.le_of_ble_eq_true rfl) (Nat.le_of_ble_eq_true rfl) rfl (fun h7 x8 => ?_)
      refine x_icmp_eq 227 1319 C dL_law_224 (by decide) rfl (fun _ => ?_) (fun _ => ?_)
      · exact x_ls [0, 1, 2, 3] rfl (J2 h7)
      · refine x_iconst 228 C dL_law_227 ci_0 rfl ?_
        exact x_none
    refine x_ite (fun e1 => ?_) (fun e1 => ?_)
    · refine x_tabI (off := 196) 229 C dL_law_33 e1 (by decide) (by decide) (by decide) (by decide) ?_
      refine x_aload_n 230 C dL_law_229 1 rfl rfl rfl ?_
      refine x_aload_n 231 C dL_law_230 0 rfl rfl rfl ?_
      refine x_iload_n 232 C dL_law_231 3 rfl rfl rfl ?_
      refine x_iconst 233 C dL_law_232 ci_1 rfl ?_
      refine x_iadd 234 C dL_law_233 rfl ?_
      refine x_sld 235 C SX dL_law_234 rfl ?_
      refine x_cvI 238 [.int (xs (x2 + (1 : Int32)).toNatClampNeg)] [] C 5 dL_law_235 v_L_18 (fun u hu => m_X7_wipe hu) rfl sk_0 rfl (Nat.le_of_ble_eq_true rfl) (Nat.le_of_ble_eq_true rfl) rfl (fun h9 x10 => ?_)
      refine x_aload_n 239 C dL_law_238 2 rfl rfl rfl ?_
      refine x_aload_n 240 C dL_law_239 0 rfl rfl rfl ?_
      refine x_iload_n 241 C dL_law_240 3 rfl rfl rfl ?_
      refine x_iconst 242 C dL_law_241 ci_1 rfl ?_
      refine x_iadd 243 C dL_law_242 rfl ?_
      refine x_sld 244 C SX dL_law_243 rfl ?_
      refine x_cvI 247 [.int (xs (x2 + (1 : Int32)).toNatClampNeg)] [.int x10] C 2 dL_law_244 v_L_22 (fun u hu => m_X8_wipe hu) rfl sk_68 rfl (Nat.le_of_ble_eq_true rfl) (Nat.le_of_ble_eq_true rfl) rfl (fun h11 x12 => ?_)
      refine x_icmp_eq 250 1319 C dL_law_247 (by decide) rfl (fun _ => ?_) (fun _ => ?_)
      · exact x_ls [0, 1, 2, 3] rfl (J2 h11)
      · refine x_iconst 251 C dL_law_250 ci_0 rfl ?_
        exact x_none
    refine x_ite (fun e2 => ?_) (fun e2 => ?_)
    · refine x_tabI (off := 219) 252 C dL_law_33 e2 (by decide) (by decide) (by decide) (by decide) ?_
      refine x_aload_n 253 C dL_law_252 1 rfl rfl rfl ?_
      refine x_aload_n 254 C dL_law_253 0 rfl rfl rfl ?_
      refine x_iload_n 255 C dL_law_254 3 rfl rfl rfl ?_
      refine x_iconst 256 C dL_law_255 ci_1 rfl ?_
      refine x_iadd 257 C dL_law_256 rfl ?_
      refine x_sld 258 C SX dL_law_257 rfl ?_
      refine x_cvI 261 [.int (xs (x2 + (1 : Int32)).toNatClampNeg)] [] C 5 dL_law_258 v_L_23 (fun u hu => m_X7_undo hu) rfl sk_0 rfl (Nat.le_of_ble_eq_true rfl) (Nat.le_of_ble_eq_true rfl) rfl (fun h13 x14 => ?_)
      refine x_aload_n 262 C dL_law_261 2 rfl rfl rfl ?_
      refine x_aload_n 263 C dL_law_262 0 rfl rfl rfl ?_
      refine x_iload_n 264 C dL_law_263 3 rfl rfl rfl ?_
      refine x_iconst 265 C dL_law_264 ci_1 rfl ?_
      refine x_iadd 266 C dL_law_265 rfl ?_
      refine x_sld 267 C SX dL_law_266 rfl ?_
      refine x_cvI 270 [.int (xs (x2 + (1 : Int32)).toNatClampNeg)] [.int x14] C 2 dL_law_267 v_L_26 (fun u hu => m_X8_undo hu) rfl sk_68 rfl (Nat.le_of_ble_eq_true rfl) (Nat.le_of_ble_eq_true rfl) rfl (fun h15 x16 => ?_)
      refine x_icmp_eq 273 1319 C dL_law_270 (by decide) rfl (fun _ => ?_) (fun _ => ?_)
      · exact x_ls [0, 1, 2, 3] rfl (J2 h15)
      · refine x_iconst 274 C dL_law_273 ci_0 rfl ?_
        exact x_none
    refine x_ite (fun e3 => ?_) (fun e3 => ?_)
    · refine x_tabI (off := 242) 275 C dL_law_33 e3 (by decide) (by decide) (by decide) (by decide) ?_
      refine x_aload_n 276 C dL_law_275 1 rfl rfl rfl ?_
      refine x_aload_n 277 C dL_law_276 0 rfl rfl rfl ?_
      refine x_iload_n 278 C dL_law_277 3 rfl rfl rfl ?_
      refine x_iconst 279 C dL_law_278 ci_1 rfl ?_
      refine x_iadd 280 C dL_law_279 rfl ?_
      refine x_sld 281 C SX dL_law_280 rfl ?_
      refine x_cvi 284 [.int (xs (x2 + (1 : Int32)).toNatClampNeg)] [] C 3 dL_law_281 v_L_27 (fun u hu => m_X7_fault hu) rfl sk_0 rfl (Nat.le_of_ble_eq_true rfl) (Nat.le_of_ble_eq_true rfl) rfl (fun x17 => ?_)
      refine x_aload_n 285 C dL_law_284 2 rfl rfl rfl ?_
      refine x_aload_n 286 C dL_law_285 0 rfl rfl rfl ?_
      refine x_iload_n 287 C dL_law_286 3 rfl rfl rfl ?_
      refine x_iconst 288 C dL_law_287 ci_1 rfl ?_
      refine x_iadd 289 C dL_law_288 rfl ?_
      refine x_sld 290 C SX dL_law_289 rfl ?_
      refine x_cvI 293 [.int (xs (x2 + (1 : Int32)).toNatClampNeg)] [.int x17] C 4 dL_law_290 v_L_30 (fun u hu => m_X8_fault hu) rfl sk_68 rfl (Nat.le_of_ble_eq_true rfl) (Nat.le_of_ble_eq_true rfl) rfl (fun h18 x19 => ?_)
      refine x_icmp_eq 296 1319 C dL_law_293 (by decide) rfl (fun _ => ?_) (fun _ => ?_)
      · exact x_ls [0, 1, 2, 3] rfl (J2 h18)
      · refine x_iconst 297 C dL_law_296 ci_0 rfl ?_
        exact x_none
    refine x_ite (fun e4 => ?_) (fun e4 => ?_)
    · refine x_tabI (off := 265) 298 C dL_law_33 e4 (by decide) (by decide) (by decide) (by decide) ?_
      refine x_aload_n 299 C dL_law_298 1 rfl rfl rfl ?_
      refine x_aload_n 300 C dL_law_299 0 rfl rfl rfl ?_
      refine x_iload_n 301 C dL_law_300 3 rfl rfl rfl ?_
      refine x_iconst 302 C dL_law_301 ci_1 rfl ?_
      refine x_iadd 303 C dL_law_302 rfl ?_
      refine x_sld 304 C SX dL_law_303 rfl ?_
      refine x_aload_n 305 C dL_law_304 0 rfl rfl rfl ?_
      refine x_iload_n 306 C dL_law_305 3 rfl rfl rfl ?_
      refine x_iconst 307 C dL_law_306 ci_2 rfl ?_
      refine x_iadd 308 C dL_law_307 rfl ?_
      refine x_sld 309 C SX dL_law_308 rfl ?_
      refine x_cvi 312 [.int (xs (x2 + (1 : Int32)).toNatClampNeg), .int (xs (x2 + (2 : Int32)).toNatClampNeg)] [] C 2 dL_law_309 v_L_31 (fun u hu => m_X7_walker hu) rfl sk_0 rfl (Nat.le_of_ble_eq_true rfl) (Nat.le_of_ble_eq_true rfl) rfl (fun x20 => ?_)
      refine x_aload_n 313 C dL_law_312 2 rfl rfl rfl ?_
      refine x_aload_n 314 C dL_law_313 0 rfl rfl rfl ?_
      refine x_iload_n 315 C dL_law_314 3 rfl rfl rfl ?_
      refine x_iconst 316 C dL_law_315 ci_1 rfl ?_
      refine x_iadd 317 C dL_law_316 rfl ?_
      refine x_sld 318 C SX dL_law_317 rfl ?_
      refine x_aload_n 319 C dL_law_318 0 rfl rfl rfl ?_
      refine x_iload_n 320 C dL_law_319 3 rfl rfl rfl ?_
      refine x_iconst 321 C dL_law_320 ci_2 rfl ?_
      refine x_iadd 322 C dL_law_321 rfl ?_
      refine x_sld 323 C SX dL_law_322 rfl ?_
      refine x_cvI 326 [.int (xs (x2 + (1 : Int32)).toNatClampNeg), .int (xs (x2 + (2 : Int32)).toNatClampNeg)] [.int x20] C 3 dL_law_323 v_L_34 (fun u hu => m_X8_walker hu) rfl sk_68 rfl (Nat.le_of_ble_eq_true rfl) (Nat.le_of_ble_eq_true rfl) rfl (fun h21 x22 => ?_)
      refine x_icmp_eq 329 1319 C dL_law_326 (by decide) rfl (fun _ => ?_) (fun _ => ?_)
      · exact x_ls [0, 1, 2, 3] rfl (J2 h21)
      · refine x_iconst 330 C dL_law_329 ci_0 rfl ?_
        exact x_none
    refine x_ite (fun e5 => ?_) (fun e5 => ?_)
    · refine x_tabI (off := 298) 331 C dL_law_33 e5 (by decide) (by decide) (by decide) (by decide) ?_
      refine x_aload_n 332 C dL_law_331 1 rfl rfl rfl ?_
      refine x_aload_n 333 C dL_law_332 0 rfl rfl rfl ?_
      refine x_iload_n 334 C dL_law_333 3 rfl rfl rfl ?_
      refine x_iconst 335 C dL_law_334 ci_1 rfl ?_
      refine x_iadd 336 C dL_law_335 rfl ?_
      refine x_sld 337 C SX dL_law_336 rfl ?_
      refine x_cvi 340 [.int (xs (x2 + (1 : Int32)).toNatClampNeg)] [] C 2 dL_law_337 v_L_35 (fun u hu => m_X7_routine hu) rfl sk_0 rfl (Nat.le_of_ble_eq_true rfl) (Nat.le_of_ble_eq_true rfl) rfl (fun x23 => ?_)
      refine x_aload_n 341 C dL_law_340 2 rfl rfl rfl ?_
      refine x_aload_n 342 C dL_law_341 0 rfl rfl rfl ?_
      refine x_iload_n 343 C dL_law_342 3 rfl rfl rfl ?_
      refine x_iconst 344 C dL_law_343 ci_1 rfl ?_
      refine x_iadd 345 C dL_law_344 rfl ?_
      refine x_sld 346 C SX dL_law_345 rfl ?_
      refine x_cvI 349 [.int (xs (x2 + (1 : Int32)).toNatClampNeg)] [.int x23] C 2 dL_law_346 v_L_38 (fun u hu => m_X8_routine hu) rfl sk_68 rfl (Nat.le_of_ble_eq_true rfl) (Nat.le_of_ble_eq_true rfl) rfl (fun h24 x25 => ?_)
      refine x_icmp_eq 352 1319 C dL_law_349 (by decide) rfl (fun _ => ?_) (fun _ => ?_)
      · exact x_ls [0, 1, 2, 3] rfl (J2 h24)
      · refine x_iconst 353 C dL_law_352 ci_0 rfl ?_
        exact x_none
    refine x_ite (fun e6 => ?_) (fun e6 => ?_)
    · refine x_tabI (off := 321) 354 C dL_law_33 e6 (by decide) (by decide) (by decide) (by decide) ?_
      refine x_aload_n 355 C dL_law_354 1 rfl rfl rfl ?_
      refine x_aload_n 356 C dL_law_355 0 rfl rfl rfl ?_
      refine x_iload_n 357 C dL_law_356 3 rfl rfl rfl ?_
      refine x_iconst 358 C dL_law_357 ci_1 rfl ?_
      refine x_iadd 359 C dL_law_358 rfl ?_
      refine x_sld 360 C SX dL_law_359 rfl ?_
      refine x_aload_n 361 C dL_law_360 0 rfl rfl rfl ?_
      refine x_iload_n 362 C dL_law_361 3 rfl rfl rfl ?_
      refine x_iconst 363 C dL_law_362 ci_2 rfl ?_
      refine x_iadd 364 C dL_law_363 rfl ?_
      refine x_sld 365 C SX dL_law_364 rfl ?_
      refine x_cvI 368 [.int (xs (x2 + (1 : Int32)).toNatClampNeg), .int (xs (x2 + (2 : Int32)).toNatClampNeg)] [] C 1 dL_law_365 v_L_39 (fun u hu => m_X7_wire hu) rfl sk_0 rfl (Nat.le_of_ble_eq_true rfl) (Nat.le_of_ble_eq_true rfl) rfl (fun h26 x27 => ?_)
      refine x_aload_n 369 C dL_law_368 2 rfl rfl rfl ?_
      refine x_aload_n 370 C dL_law_369 0 rfl rfl rfl ?_
      refine x_iload_n 371 C dL_law_370 3 rfl rfl rfl ?_
      refine x_iconst 372 C dL_law_371 ci_1 rfl ?_
      refine x_iadd 373 C dL_law_372 rfl ?_
      refine x_sld 374 C SX dL_law_373 rfl ?_
      refine x_aload_n 375 C dL_law_374 0 rfl rfl rfl ?_
      refine x_iload_n 376 C dL_law_375 3 rfl rfl rfl ?_
      refine x_iconst 377 C dL_law_376 ci_2 rfl ?_
      refine x_iadd 378 C dL_law_377 rfl ?_
      refine x_sld 379 C SX dL_law_378 rfl ?_
      refine x_cvI 382 [.int (xs (x2 + (1 : Int32)).toNatClampNeg), .int (xs (x2 + (2 : Int32)).toNatClampNeg)] [.int x27] C 2 dL_law_379 v_L_42 (fun u hu => m_X8_wire hu) rfl sk_68 rfl (Nat.le_of_ble_eq_true rfl) (Nat.le_of_ble_eq_true rfl) rfl (fun h28 x29 => ?_)
      refine x_icmp_eq 385 1319 C dL_law_382 (by decide) rfl (fun _ => ?_) (fun _ => ?_)
      · exact x_ls [0, 1, 2, 3] rfl (J2 h28)
      · refine x_iconst 386 C dL_law_385 ci_0 rfl ?_
        exact x_none
    refine x_ite (fun e7 => ?_) (fun e7 => ?_)
    · refine x_tabI (off := 354) 387 C dL_law_33 e7 (by decide) (by decide) (by decide) (by decide) ?_
      refine x_aload_n 388 C dL_law_387 1 rfl rfl rfl ?_
      refine x_aload_n 389 C dL_law_388 0 rfl rfl rfl ?_
      refine x_iload_n 390 C dL_law_389 3 rfl rfl rfl ?_
      refine x_iconst 391 C dL_law_390 ci_1 rfl ?_
      refine x_iadd 392 C dL_law_391 rfl ?_
      refine x_sld 393 C SX dL_law_392 rfl ?_
      refine x_aload_n 394 C dL_law_393 0 rfl rfl rfl ?_
      refine x_iload_n 395 C dL_law_394 3 rfl rfl rfl ?_
      refine x_iconst 396 C dL_law_395 ci_2 rfl ?_
      refine x_iadd 397 C dL_law_396 rfl ?_
      refine x_sld 398 C SX dL_law_397 rfl ?_
      refine x_aload_n 399 C dL_law_398 0 rfl rfl rfl ?_
      refine x_iload_n 400 C dL_law_399 3 rfl rfl rfl ?_
      refine x_iconst 401 C dL_law_400 ci_3 rfl ?_
      refine x_iadd 402 C dL_law_401 rfl ?_
      refine x_sld 403 C SX dL_law_402 rfl ?_
      refine x_cvI 406 [.int (xs (x2 + (1 : Int32)).toNatClampNeg), .int (xs (x2 + (2 : Int32)).toNatClampNeg), .int (xs (x2 + (3 : Int32)).toNatClampNeg)] [] C 3 dL_law_403 v_L_43 (fun u hu => m_X7_event hu) rfl sk_0 rfl (Nat.le_of_ble_eq_true rfl) (Nat.le_of_ble_eq_true rfl) rfl (fun h30 x31 => ?_)
      refine x_aload_n 407 C dL_law_406 2 rfl rfl rfl ?_
      refine x_aload_n 408 C dL_law_407 0 rfl rfl rfl ?_
      refine x_iload_n 409 C dL_law_408 3 rfl rfl rfl ?_
      refine x_iconst 410 C dL_law_409 ci_1 rfl ?_
      refine x_iadd 411 C dL_law_410 rfl ?_
      refine x_sld 412 C SX dL_law_411 rfl ?_
      refine x_aload_n 413 C dL_law_412 0 rfl rfl rfl ?_
      refine x_iload_n 414 C dL_law_413 3 rfl rfl rfl ?_
      refine x_iconst 415 C dL_law_414 ci_2 rfl ?_
      refine x_iadd 416 C dL_law_415 rfl ?_
      refine x_sld 417 C SX dL_law_416 rfl ?_
      refine x_aload_n 418 C dL_law_417 0 rfl rfl rfl ?_
      refine x_iload_n 419 C dL_law_418 3 rfl rfl rfl ?_
      refine x_iconst 420 C dL_law_419 ci_3 rfl ?_
      refine x_iadd 421 C dL_law_420 rfl ?_
      refine x_sld 422 C SX dL_law_421 rfl ?_
      refine x_cvI 425 [.int (xs (x2 + (1 : Int32)).toNatClampNeg), .int (xs (x2 + (2 : Int32)).toNatClampNeg), .int (xs (x2 + (3 : Int32)).toNatClampNeg)] [.int x31] C 2 dL_law_422 v_L_47 (fun u hu => m_X8_event hu) rfl sk_68 rfl (Nat.le_of_ble_eq_true rfl) (Nat.le_of_ble_eq_true rfl) rfl (fun h32 x33 => ?_)
      refine x_icmp_eq 428 1319 C dL_law_425 (by decide) rfl (fun _ => ?_) (fun _ => ?_)
      · exact x_ls [0, 1, 2, 3] rfl (J2 h32)
      · refine x_iconst 429 C dL_law_428 ci_0 rfl ?_
        exact x_none
    refine x_ite (fun e8 => ?_) (fun e8 => ?_)
    · refine x_tabI (off := 397) 430 C dL_law_33 e8 (by decide) (by decide) (by decide) (by decide) ?_
      refine x_aload_n 431 C dL_law_430 1 rfl rfl rfl ?_
      refine x_cvI 434 [] [] C 1 dL_law_431 v_L_48 (fun u hu => m_X7_back hu) rfl sk_0 rfl (Nat.le_of_ble_eq_true rfl) (Nat.le_of_ble_eq_true rfl) rfl (fun h34 x35 => ?_)
      refine x_aload_n 435 C dL_law_434 2 rfl rfl rfl ?_
      refine x_cvI 438 [] [.int x35] C 0 dL_law_435 v_L_52 (fun u hu => m_X8_back hu) rfl sk_68 rfl (Nat.le_of_ble_eq_true rfl) (Nat.le_of_ble_eq_true rfl) rfl (fun h36 x37 => ?_)
      refine x_icmp_eq 441 1319 C dL_law_438 (by decide) rfl (fun _ => ?_) (fun _ => ?_)
      · exact x_ls [0, 1, 2, 3] rfl (J2 h36)
      · refine x_iconst 442 C dL_law_441 ci_0 rfl ?_
        exact x_none
    refine x_ite (fun e9 => ?_) (fun e9 => ?_)
    · refine x_tabI (off := 410) 443 C dL_law_33 e9 (by decide) (by decide) (by decide) (by decide) ?_
      refine x_aload_n 444 C dL_law_443 1 rfl rfl rfl ?_
      refine x_aload_n 445 C dL_law_444 0 rfl rfl rfl ?_
      refine x_iload_n 446 C dL_law_445 3 rfl rfl rfl ?_
      refine x_iconst 447 C dL_law_446 ci_1 rfl ?_
      refine x_iadd 448 C dL_law_447 rfl ?_
      refine x_sld 449 C SX dL_law_448 rfl ?_
      refine x_cvI 452 [.int (xs (x2 + (1 : Int32)).toNatClampNeg)] [] C 3 dL_law_449 v_L_53 (fun u hu => m_X7_read hu) rfl sk_0 rfl (Nat.le_of_ble_eq_true rfl) (Nat.le_of_ble_eq_true rfl) rfl (fun h38 x39 => ?_)
      refine x_aload_n 453 C dL_law_452 2 rfl rfl rfl ?_
      refine x_aload_n 454 C dL_law_453 0 rfl rfl rfl ?_
      refine x_iload_n 455 C dL_law_454 3 rfl rfl rfl ?_
      refine x_iconst 456 C dL_law_455 ci_1 rfl ?_
      refine x_iadd 457 C dL_law_456 rfl ?_
      refine x_sld 458 C SX dL_law_457 rfl ?_
      refine x_cvI 461 [.int (xs (x2 + (1 : Int32)).toNatClampNeg)] [.int x39] C 3 dL_law_458 v_L_56 (fun u hu => m_X8_read hu) rfl sk_68 rfl (Nat.le_of_ble_eq_true rfl) (Nat.le_of_ble_eq_true rfl) rfl (fun h40 x41 => ?_)
      refine x_icmp_eq 464 1319 C dL_law_461 (by decide) rfl (fun _ => ?_) (fun _ => ?_)
      · exact x_ls [0, 1, 2, 3] rfl (J2 h40)
      · refine x_iconst 465 C dL_law_464 ci_0 rfl ?_
        exact x_none
    refine x_ite (fun e10 => ?_) (fun e10 => ?_)
    · refine x_tabI (off := 433) 466 C dL_law_33 e10 (by decide) (by decide) (by decide) (by decide) ?_
      refine x_aload_n 467 C dL_law_466 1 rfl rfl rfl ?_
      refine x_aload_n 468 C dL_law_467 0 rfl rfl rfl ?_
      refine x_iload_n 469 C dL_law_468 3 rfl rfl rfl ?_
      refine x_iconst 470 C dL_law_469 ci_1 rfl ?_
      refine x_iadd 471 C dL_law_470 rfl ?_
      refine x_sld 472 C SX dL_law_471 rfl ?_
      refine x_aload_n 473 C dL_law_472 0 rfl rfl rfl ?_
      refine x_iload_n 474 C dL_law_473 3 rfl rfl rfl ?_
      refine x_iconst 475 C dL_law_474 ci_2 rfl ?_
      refine x_iadd 476 C dL_law_475 rfl ?_
      refine x_sld 477 C SX dL_law_476 rfl ?_
      refine x_aload_n 478 C dL_law_477 0 rfl rfl rfl ?_
      refine x_iload_n 479 C dL_law_478 3 rfl rfl rfl ?_
      refine x_iconst 480 C dL_law_479 ci_3 rfl ?_
      refine x_iadd 481 C dL_law_480 rfl ?_
      refine x_sld 482 C SX dL_law_481 rfl ?_
      refine x_cvI 485 [.int (xs (x2 + (1 : Int32)).toNatClampNeg), .int (xs (x2 + (2 : Int32)).toNatClampNeg), .int (xs (x2 + (3 : Int32)).toNatClampNeg)] [] C 5 dL_law_482 v_L_57 (fun u hu => m_X7_at hu) rfl sk_0 rfl (Nat.le_of_ble_eq_true rfl) (Nat.le_of_ble_eq_true rfl) rfl (fun h42 x43 => ?_)
      refine x_aload_n 486 C dL_law_485 2 rfl rfl rfl ?_
      refine x_aload_n 487 C dL_law_486 0 rfl rfl rfl ?_
      refine x_iload_n 488 C dL_law_487 3 rfl rfl rfl ?_
      refine x_iconst 489 C dL_law_488 ci_1 rfl ?_
      refine x_iadd 490 C dL_law_489 rfl ?_
      refine x_sld 491 C SX dL_law_490 rfl ?_
      refine x_aload_n 492 C dL_law_491 0 rfl rfl rfl ?_
      refine x_iload_n 493 C dL_law_492 3 rfl rfl rfl ?_
      refine x_iconst 494 C dL_law_493 ci_2 rfl ?_
      refine x_iadd 495 C dL_law_494 rfl ?_
      refine x_sld 496 C SX dL_law_495 rfl ?_
      refine x_aload_n 497 C dL_law_496 0 rfl rfl rfl ?_
      refine x_iload_n 498 C dL_law_497 3 rfl rfl rfl ?_
      refine x_iconst 499 C dL_law_498 ci_3 rfl ?_
      refine x_iadd 500 C dL_law_499 rfl ?_
      refine x_sld 501 C SX dL_law_500 rfl ?_
      refine x_cvI 504 [.int (xs (x2 + (1 : Int32)).toNatClampNeg), .int (xs (x2 + (2 : Int32)).toNatClampNeg), .int (xs (x2 + (3 : Int32)).toNatClampNeg)] [.int x43] C 7 dL_law_501 v_L_60 (fun u hu => m_X8_at hu) rfl sk_68 rfl (Nat.le_of_ble_eq_true rfl) (Nat.le_of_ble_eq_true rfl) rfl (fun h44 x45 => ?_)
      refine x_icmp_eq 507 1319 C dL_law_504 (by decide) rfl (fun _ => ?_) (fun _ => ?_)
      · exact x_ls [0, 1, 2, 3] rfl (J2 h44)
      · refine x_iconst 508 C dL_law_507 ci_0 rfl ?_
        exact x_none
    refine x_ite (fun e11 => ?_) (fun e11 => ?_)
    · refine x_tabI (off := 476) 509 C dL_law_33 e11 (by decide) (by decide) (by decide) (by decide) ?_
      refine x_aload_n 510 C dL_law_509 1 rfl rfl rfl ?_
      refine x_aload_n 511 C dL_law_510 0 rfl rfl rfl ?_
      refine x_iload_n 512 C dL_law_511 3 rfl rfl rfl ?_
      refine x_iconst 513 C dL_law_512 ci_1 rfl ?_
      refine x_iadd 514 C dL_law_513 rfl ?_
      refine x_sld 515 C SX dL_law_514 rfl ?_
      refine x_aload_n 516 C dL_law_515 0 rfl rfl rfl ?_
      refine x_iload_n 517 C dL_law_516 3 rfl rfl rfl ?_
      refine x_iconst 518 C dL_law_517 ci_2 rfl ?_
      refine x_iadd 519 C dL_law_518 rfl ?_
      refine x_sld 520 C SX dL_law_519 rfl ?_
      refine x_cvI 523 [.int (xs (x2 + (1 : Int32)).toNatClampNeg), .int (xs (x2 + (2 : Int32)).toNatClampNeg)] [] C 5 dL_law_520 v_L_61 (fun u hu => m_X7_lean hu) rfl sk_0 rfl (Nat.le_of_ble_eq_true rfl) (Nat.le_of_ble_eq_true rfl) rfl (fun h46 x47 => ?_)
      refine x_aload_n 524 C dL_law_523 2 rfl rfl rfl ?_
      refine x_aload_n 525 C dL_law_524 0 rfl rfl rfl ?_
      refine x_iload_n 526 C dL_law_525 3 rfl rfl rfl ?_
      refine x_iconst 527 C dL_law_526 ci_1 rfl ?_
      refine x_iadd 528 C dL_law_527 rfl ?_
      refine x_sld 529 C SX dL_law_528 rfl ?_
      refine x_aload_n 530 C dL_law_529 0 rfl rfl rfl ?_
      refine x_iload_n 531 C dL_law_530 3 rfl rfl rfl ?_
      refine x_iconst 532 C dL_law_531 ci_2 rfl ?_
      refine x_iadd 533 C dL_law_532 rfl ?_
      refine x_sld 534 C SX dL_law_533 rfl ?_
      refine x_cvI 537 [.int (xs (x2 + (1 : Int32)).toNatClampNeg), .int (xs (x2 + (2 : Int32)).toNatClampNeg)] [.int x47] C 7 dL_law_534 v_L_64 (fun u hu => m_X8_lean hu) rfl sk_68 rfl (Nat.le_of_ble_eq_true rfl) (Nat.le_of_ble_eq_true rfl) rfl (fun h48 x49 => ?_)
      refine x_icmp_eq 540 1319 C dL_law_537 (by decide) rfl (fun _ => ?_) (fun _ => ?_)
      · exact x_ls [0, 1, 2, 3] rfl (J2 h48)
      · refine x_iconst 541 C dL_law_540 ci_0 rfl ?_
        exact x_none
    refine x_ite (fun e12 => ?_) (fun e12 => ?_)
    · refine x_tabI (off := 509) 542 C dL_law_33 e12 (by decide) (by decide) (by decide) (by decide) ?_
      refine x_aload_n 543 C dL_law_542 1 rfl rfl rfl ?_
      refine x_aload_n 544 C dL_law_543 0 rfl rfl rfl ?_
      refine x_iload_n 545 C dL_law_544 3 rfl rfl rfl ?_
      refine x_iconst 546 C dL_law_545 ci_1 rfl ?_
      refine x_iadd 547 C dL_law_546 rfl ?_
      refine x_sld 548 C SX dL_law_547 rfl ?_
      refine x_aload_n 549 C dL_law_548 0 rfl rfl rfl ?_
      refine x_iload_n 550 C dL_law_549 3 rfl rfl rfl ?_
      refine x_iconst 551 C dL_law_550 ci_2 rfl ?_
      refine x_iadd 552 C dL_law_551 rfl ?_
      refine x_sld 553 C SX dL_law_552 rfl ?_
      refine x_cvI 556 [.int (xs (x2 + (1 : Int32)).toNatClampNeg), .int (xs (x2 + (2 : Int32)).toNatClampNeg)] [] C 5 dL_law_553 v_L_65 (fun u hu => m_X7_sees hu) rfl sk_0 rfl (Nat.le_of_ble_eq_true rfl) (Nat.le_of_ble_eq_true rfl) rfl (fun h50 x51 => ?_)
      refine x_aload_n 557 C dL_law_556 2 rfl rfl rfl ?_
      refine x_aload_n 558 C dL_law_557 0 rfl rfl rfl ?_
      refine x_iload_n 559 C dL_law_558 3 rfl rfl rfl ?_
      refine x_iconst 560 C dL_law_559 ci_1 rfl ?_
      refine x_iadd 561 C dL_law_560 rfl ?_
      refine x_sld 562 C SX dL_law_561 rfl ?_
      refine x_aload_n 563 C dL_law_562 0 rfl rfl rfl ?_
      refine x_iload_n 564 C dL_law_563 3 rfl rfl rfl ?_
      refine x_iconst 565 C dL_law_564 ci_2 rfl ?_
      refine x_iadd 566 C dL_law_565 rfl ?_
      refine x_sld 567 C SX dL_law_566 rfl ?_
      refine x_cvI 570 [.int (xs (x2 + (1 : Int32)).toNatClampNeg), .int (xs (x2 + (2 : Int32)).toNatClampNeg)] [.int x51] C 7 dL_law_567 v_L_68 (fun u hu => m_X8_sees hu) rfl sk_68 rfl (Nat.le_of_ble_eq_true rfl) (Nat.le_of_ble_eq_true rfl) rfl (fun h52 x53 => ?_)
      refine x_icmp_eq 573 1319 C dL_law_570 (by decide) rfl (fun _ => ?_) (fun _ => ?_)
      · exact x_ls [0, 1, 2, 3] rfl (J2 h52)
      · refine x_iconst 574 C dL_law_573 ci_0 rfl ?_
        exact x_none
    refine x_ite (fun e13 => ?_) (fun e13 => ?_)
    · refine x_tabI (off := 542) 575 C dL_law_33 e13 (by decide) (by decide) (by decide) (by decide) ?_
      refine x_aload_n 576 C dL_law_575 1 rfl rfl rfl ?_
      refine x_aload_n 577 C dL_law_576 0 rfl rfl rfl ?_
      refine x_iload_n 578 C dL_law_577 3 rfl rfl rfl ?_
      refine x_iconst 579 C dL_law_578 ci_1 rfl ?_
      refine x_iadd 580 C dL_law_579 rfl ?_
      refine x_sld 581 C SX dL_law_580 rfl ?_
      refine x_cvI 584 [.int (xs (x2 + (1 : Int32)).toNatClampNeg)] [] C 5 dL_law_581 v_L_69 (fun u hu => m_X7_sway hu) rfl sk_0 rfl (Nat.le_of_ble_eq_true rfl) (Nat.le_of_ble_eq_true rfl) rfl (fun h54 x55 => ?_)
      refine x_aload_n 585 C dL_law_584 2 rfl rfl rfl ?_
      refine x_aload_n 586 C dL_law_585 0 rfl rfl rfl ?_
      refine x_iload_n 587 C dL_law_586 3 rfl rfl rfl ?_
      refine x_iconst 588 C dL_law_587 ci_1 rfl ?_
      refine x_iadd 589 C dL_law_588 rfl ?_
      refine x_sld 590 C SX dL_law_589 rfl ?_
      refine x_cvI 593 [.int (xs (x2 + (1 : Int32)).toNatClampNeg)] [.int x55] C 7 dL_law_590 v_L_72 (fun u hu => m_X8_sway hu) rfl sk_68 rfl (Nat.le_of_ble_eq_true rfl) (Nat.le_of_ble_eq_true rfl) rfl (fun h56 x57 => ?_)
      refine x_icmp_eq 596 1319 C dL_law_593 (by decide) rfl (fun _ => ?_) (fun _ => ?_)
      · exact x_ls [0, 1, 2, 3] rfl (J2 h56)
      · refine x_iconst 597 C dL_law_596 ci_0 rfl ?_
        exact x_none
    refine x_ite (fun e14 => ?_) (fun e14 => ?_)
    · refine x_tabI (off := 565) 598 C dL_law_33 e14 (by decide) (by decide) (by decide) (by decide) ?_
      refine x_aload_n 599 C dL_law_598 1 rfl rfl rfl ?_
      refine x_aload_n 600 C dL_law_599 0 rfl rfl rfl ?_
      refine x_iload_n 601 C dL_law_600 3 rfl rfl rfl ?_
      refine x_iconst 602 C dL_law_601 ci_1 rfl ?_
      refine x_iadd 603 C dL_law_602 rfl ?_
      refine x_sld 604 C SX dL_law_603 rfl ?_
      refine x_aload_n 605 C dL_law_604 0 rfl rfl rfl ?_
      refine x_iload_n 606 C dL_law_605 3 rfl rfl rfl ?_
      refine x_iconst 607 C dL_law_606 ci_2 rfl ?_
      refine x_iadd 608 C dL_law_607 rfl ?_
      refine x_sld 609 C SX dL_law_608 rfl ?_
      refine x_cvI 612 [.int (xs (x2 + (1 : Int32)).toNatClampNeg), .int (xs (x2 + (2 : Int32)).toNatClampNeg)] [] C 5 dL_law_609 v_L_73 (fun u hu => m_X7_ends hu) rfl sk_0 rfl (Nat.le_of_ble_eq_true rfl) (Nat.le_of_ble_eq_true rfl) rfl (fun h58 x59 => ?_)
      refine x_aload_n 613 C dL_law_612 2 rfl rfl rfl ?_
      refine x_aload_n 614 C dL_law_613 0 rfl rfl rfl ?_
      refine x_iload_n 615 C dL_law_614 3 rfl rfl rfl ?_
      refine x_iconst 616 C dL_law_615 ci_1 rfl ?_
      refine x_iadd 617 C dL_law_616 rfl ?_
      refine x_sld 618 C SX dL_law_617 rfl ?_
      refine x_aload_n 619 C dL_law_618 0 rfl rfl rfl ?_
      refine x_iload_n 620 C dL_law_619 3 rfl rfl rfl ?_
      refine x_iconst 621 C dL_law_620 ci_2 rfl ?_
      refine x_iadd 622 C dL_law_621 rfl ?_
      refine x_sld 623 C SX dL_law_622 rfl ?_
      refine x_cvI 626 [.int (xs (x2 + (1 : Int32)).toNatClampNeg), .int (xs (x2 + (2 : Int32)).toNatClampNeg)] [.int x59] C 7 dL_law_623 v_L_76 (fun u hu => m_X8_ends hu) rfl sk_68 rfl (Nat.le_of_ble_eq_true rfl) (Nat.le_of_ble_eq_true rfl) rfl (fun h60 x61 => ?_)
      refine x_icmp_eq 629 1319 C dL_law_626 (by decide) rfl (fun _ => ?_) (fun _ => ?_)
      · exact x_ls [0, 1, 2, 3] rfl (J2 h60)
      · refine x_iconst 630 C dL_law_629 ci_0 rfl ?_
        exact x_none
    refine x_ite (fun e15 => ?_) (fun e15 => ?_)
    · refine x_tabI (off := 598) 631 C dL_law_33 e15 (by decide) (by decide) (by decide) (by decide) ?_
      refine x_aload_n 632 C dL_law_631 1 rfl rfl rfl ?_
      refine x_aload_n 633 C dL_law_632 0 rfl rfl rfl ?_
      refine x_iload_n 634 C dL_law_633 3 rfl rfl rfl ?_
      refine x_iconst 635 C dL_law_634 ci_1 rfl ?_
      refine x_iadd 636 C dL_law_635 rfl ?_
      refine x_sld 637 C SX dL_law_636 rfl ?_
      refine x_cvI 640 [.int (xs (x2 + (1 : Int32)).toNatClampNeg)] [] C 5 dL_law_637 v_L_77 (fun u hu => m_X7_sum hu) rfl sk_0 rfl (Nat.le_of_ble_eq_true rfl) (Nat.le_of_ble_eq_true rfl) rfl (fun h62 x63 => ?_)
      refine x_aload_n 641 C dL_law_640 2 rfl rfl rfl ?_
      refine x_aload_n 642 C dL_law_641 0 rfl rfl rfl ?_
      refine x_iload_n 643 C dL_law_642 3 rfl rfl rfl ?_
      refine x_iconst 644 C dL_law_643 ci_1 rfl ?_
      refine x_iadd 645 C dL_law_644 rfl ?_
      refine x_sld 646 C SX dL_law_645 rfl ?_
      refine x_cvI 649 [.int (xs (x2 + (1 : Int32)).toNatClampNeg)] [.int x63] C 7 dL_law_646 v_L_80 (fun u hu => m_X8_sum hu) rfl sk_68 rfl (Nat.le_of_ble_eq_true rfl) (Nat.le_of_ble_eq_true rfl) rfl (fun h64 x65 => ?_)
      refine x_icmp_eq 652 1319 C dL_law_649 (by decide) rfl (fun _ => ?_) (fun _ => ?_)
      · exact x_ls [0, 1, 2, 3] rfl (J2 h64)
      · refine x_iconst 653 C dL_law_652 ci_0 rfl ?_
        exact x_none
    refine x_ite (fun e16 => ?_) (fun e16 => ?_)
    · refine x_tabI (off := 621) 654 C dL_law_33 e16 (by decide) (by decide) (by decide) (by decide) ?_
      refine x_aload_n 655 C dL_law_654 1 rfl rfl rfl ?_
      refine x_aload_n 656 C dL_law_655 0 rfl rfl rfl ?_
      refine x_iload_n 657 C dL_law_656 3 rfl rfl rfl ?_
      refine x_iconst 658 C dL_law_657 ci_1 rfl ?_
      refine x_iadd 659 C dL_law_658 rfl ?_
      refine x_sld 660 C SX dL_law_659 rfl ?_
      refine x_cvI 663 [.int (xs (x2 + (1 : Int32)).toNatClampNeg)] [] C 5 dL_law_660 v_L_81 (fun u hu => m_X7_who hu) rfl sk_0 rfl (Nat.le_of_ble_eq_true rfl) (Nat.le_of_ble_eq_true rfl) rfl (fun h66 x67 => ?_)
      refine x_aload_n 664 C dL_law_663 2 rfl rfl rfl ?_
      refine x_aload_n 665 C dL_law_664 0 rfl rfl rfl ?_
      refine x_iload_n 666 C dL_law_665 3 rfl rfl rfl ?_
      refine x_iconst 667 C dL_law_666 ci_1 rfl ?_
      refine x_iadd 668 C dL_law_667 rfl ?_
      refine x_sld 669 C SX dL_law_668 rfl ?_
      refine x_cvI 672 [.int (xs (x2 + (1 : Int32)).toNatClampNeg)] [.int x67] C 7 dL_law_669 v_L_84 (fun u hu => m_X8_who hu) rfl sk_68 rfl (Nat.le_of_ble_eq_true rfl) (Nat.le_of_ble_eq_true rfl) rfl (fun h68 x69 => ?_)
      refine x_icmp_eq 675 1319 C dL_law_672 (by decide) rfl (fun _ => ?_) (fun _ => ?_)
      · exact x_ls [0, 1, 2, 3] rfl (J2 h68)
      · refine x_iconst 676 C dL_law_675 ci_0 rfl ?_
        exact x_none
    refine x_ite (fun e17 => ?_) (fun e17 => ?_)
    · refine x_tabI (off := 644) 677 C dL_law_33 e17 (by decide) (by decide) (by decide) (by decide) ?_
      refine x_aload_n 678 C dL_law_677 1 rfl rfl rfl ?_
      refine x_cvI 681 [] [] C 5 dL_law_678 v_L_85 (fun u hu => m_X7_bare hu) rfl sk_0 rfl (Nat.le_of_ble_eq_true rfl) (Nat.le_of_ble_eq_true rfl) rfl (fun h70 x71 => ?_)
      refine x_aload_n 682 C dL_law_681 2 rfl rfl rfl ?_
      refine x_cvI 685 [] [.int x71] C 7 dL_law_682 v_L_88 (fun u hu => m_X8_bare hu) rfl sk_68 rfl (Nat.le_of_ble_eq_true rfl) (Nat.le_of_ble_eq_true rfl) rfl (fun h72 x73 => ?_)
      refine x_icmp_eq 688 1319 C dL_law_685 (by decide) rfl (fun _ => ?_) (fun _ => ?_)
      · exact x_ls [0, 1, 2, 3] rfl (J2 h72)
      · refine x_iconst 689 C dL_law_688 ci_0 rfl ?_
        exact x_none
    refine x_ite (fun e18 => ?_) (fun e18 => ?_)
    · refine x_tabI (off := 657) 690 C dL_law_33 e18 (by decide) (by decide) (by decide) (by decide) ?_
      refine x_aload_n 691 C dL_law_690 1 rfl rfl rfl ?_
      refine x_aload_n 692 C dL_law_691 0 rfl rfl rfl ?_
      refine x_iload_n 693 C dL_law_692 3 rfl rfl rfl ?_
      refine x_iconst 694 C dL_law_693 ci_1 rfl ?_
      refine x_iadd 695 C dL_law_694 rfl ?_
      refine x_sld 696 C SX dL_law_695 rfl ?_
      refine x_aload_n 697 C dL_law_696 0 rfl rfl rfl ?_
      refine x_iload_n 698 C dL_law_697 3 rfl rfl rfl ?_
      refine x_iconst 699 C dL_law_698 ci_2 rfl ?_
      refine x_iadd 700 C dL_law_699 rfl ?_
      refine x_sld 701 C SX dL_law_700 rfl ?_
      refine x_cvI 704 [.int (xs (x2 + (1 : Int32)).toNatClampNeg), .int (xs (x2 + (2 : Int32)).toNatClampNeg)] [] C 5 dL_law_701 v_L_89 (fun u hu => m_X7_start hu) rfl sk_0 rfl (Nat.le_of_ble_eq_true rfl) (Nat.le_of_ble_eq_true rfl) rfl (fun h74 x75 => ?_)
      refine x_aload_n 705 C dL_law_704 2 rfl rfl rfl ?_
      refine x_aload_n 706 C dL_law_705 0 rfl rfl rfl ?_
      refine x_iload_n 707 C dL_law_706 3 rfl rfl rfl ?_
      refine x_iconst 708 C dL_law_707 ci_1 rfl ?_
      refine x_iadd 709 C dL_law_708 rfl ?_
      refine x_sld 710 C SX dL_law_709 rfl ?_
      refine x_aload_n 711 C dL_law_710 0 rfl rfl rfl ?_
      refine x_iload_n 712 C dL_law_711 3 rfl rfl rfl ?_
      refine x_iconst 713 C dL_law_712 ci_2 rfl ?_
      refine x_iadd 714 C dL_law_713 rfl ?_
      refine x_sld 715 C SX dL_law_714 rfl ?_
      refine x_cvI 718 [.int (xs (x2 + (1 : Int32)).toNatClampNeg), .int (xs (x2 + (2 : Int32)).toNatClampNeg)] [.int x75] C 7 dL_law_715 v_L_92 (fun u hu => m_X8_start hu) rfl sk_68 rfl (Nat.le_of_ble_eq_true rfl) (Nat.le_of_ble_eq_true rfl) rfl (fun h76 x77 => ?_)
      refine x_icmp_eq 721 1319 C dL_law_718 (by decide) rfl (fun _ => ?_) (fun _ => ?_)
      · exact x_ls [0, 1, 2, 3] rfl (J2 h76)
      · refine x_iconst 722 C dL_law_721 ci_0 rfl ?_
        exact x_none
    refine x_ite (fun e19 => ?_) (fun e19 => ?_)
    · refine x_tabI (off := 690) 723 C dL_law_33 e19 (by decide) (by decide) (by decide) (by decide) ?_
      refine x_aload_n 724 C dL_law_723 1 rfl rfl rfl ?_
      refine x_aload_n 725 C dL_law_724 0 rfl rfl rfl ?_
      refine x_iload_n 726 C dL_law_725 3 rfl rfl rfl ?_
      refine x_iconst 727 C dL_law_726 ci_1 rfl ?_
      refine x_iadd 728 C dL_law_727 rfl ?_
      refine x_sld 729 C SX dL_law_728 rfl ?_
      refine x_aload_n 730 C dL_law_729 0 rfl rfl rfl ?_
      refine x_iload_n 731 C dL_law_730 3 rfl rfl rfl ?_
      refine x_iconst 732 C dL_law_731 ci_2 rfl ?_
      refine x_iadd 733 C dL_law_732 rfl ?_
      refine x_sld 734 C SX dL_law_733 rfl ?_
      refine x_cvI 737 [.int (xs (x2 + (1 : Int32)).toNatClampNeg), .int (xs (x2 + (2 : Int32)).toNatClampNeg)] [] C 5 dL_law_734 v_L_93 (fun u hu => m_X7_hold hu) rfl sk_0 rfl (Nat.le_of_ble_eq_true rfl) (Nat.le_of_ble_eq_true rfl) rfl (fun h78 x79 => ?_)
      refine x_aload_n 738 C dL_law_737 2 rfl rfl rfl ?_
      refine x_aload_n 739 C dL_law_738 0 rfl rfl rfl ?_
      refine x_iload_n 740 C dL_law_739 3 rfl rfl rfl ?_
      refine x_iconst 741 C dL_law_740 ci_1 rfl ?_
      refine x_iadd 742 C dL_law_741 rfl ?_
      refine x_sld 743 C SX dL_law_742 rfl ?_
      refine x_aload_n 744 C dL_law_743 0 rfl rfl rfl ?_
      refine x_iload_n 745 C dL_law_744 3 rfl rfl rfl ?_
      refine x_iconst 746 C dL_law_745 ci_2 rfl ?_
      refine x_iadd 747 C dL_law_746 rfl ?_
      refine x_sld 748 C SX dL_law_747 rfl ?_
      refine x_cvI 751 [.int (xs (x2 + (1 : Int32)).toNatClampNeg), .int (xs (x2 + (2 : Int32)).toNatClampNeg)] [.int x79] C 7 dL_law_748 v_L_96 (fun u hu => m_X8_hold hu) rfl sk_68 rfl (Nat.le_of_ble_eq_true rfl) (Nat.le_of_ble_eq_true rfl) rfl (fun h80 x81 => ?_)
      refine x_icmp_eq 754 1319 C dL_law_751 (by decide) rfl (fun _ => ?_) (fun _ => ?_)
      · exact x_ls [0, 1, 2, 3] rfl (J2 h80)
      · refine x_iconst 755 C dL_law_754 ci_0 rfl ?_
        exact x_none
    refine x_ite (fun e20 => ?_) (fun e20 => ?_)
    · refine x_tabI (off := 723) 756 C dL_law_33 e20 (by decide) (by decide) (by decide) (by decide) ?_
      refine x_aload_n 757 C dL_law_756 1 rfl rfl rfl ?_
      refine x_aload_n 758 C dL_law_757 0 rfl rfl rfl ?_
      refine x_iload_n 759 C dL_law_758 3 rfl rfl rfl ?_
      refine x_iconst 760 C dL_law_759 ci_1 rfl ?_
      refine x_iadd 761 C dL_law_760 rfl ?_
      refine x_sld 762 C SX dL_law_761 rfl ?_
      refine x_aload_n 763 C dL_law_762 0 rfl rfl rfl ?_
      refine x_iload_n 764 C dL_law_763 3 rfl rfl rfl ?_
      refine x_iconst 765 C dL_law_764 ci_2 rfl ?_
      refine x_iadd 766 C dL_law_765 rfl ?_
      refine x_sld 767 C SX dL_law_766 rfl ?_
      refine x_cvI 770 [.int (xs (x2 + (1 : Int32)).toNatClampNeg), .int (xs (x2 + (2 : Int32)).toNatClampNeg)] [] C 5 dL_law_767 v_L_97 (fun u hu => m_X7_act hu) rfl sk_0 rfl (Nat.le_of_ble_eq_true rfl) (Nat.le_of_ble_eq_true rfl) rfl (fun h82 x83 => ?_)
      refine x_aload_n 771 C dL_law_770 2 rfl rfl rfl ?_
      refine x_aload_n 772 C dL_law_771 0 rfl rfl rfl ?_
      refine x_iload_n 773 C dL_law_772 3 rfl rfl rfl ?_
      refine x_iconst 774 C dL_law_773 ci_1 rfl ?_
      refine x_iadd 775 C dL_law_774 rfl ?_
      refine x_sld 776 C SX dL_law_775 rfl ?_
      refine x_aload_n 777 C dL_law_776 0 rfl rfl rfl ?_
      refine x_iload_n 778 C dL_law_777 3 rfl rfl rfl ?_
      refine x_iconst 779 C dL_law_778 ci_2 rfl ?_
      refine x_iadd 780 C dL_law_779 rfl ?_
      refine x_sld 781 C SX dL_law_780 rfl ?_
      refine x_cvI 784 [.int (xs (x2 + (1 : Int32)).toNatClampNeg), .int (xs (x2 + (2 : Int32)).toNatClampNeg)] [.int x83] C 7 dL_law_781 v_L_100 (fun u hu => m_X8_act hu) rfl sk_68 rfl (Nat.le_of_ble_eq_true rfl) (Nat.le_of_ble_eq_true rfl) rfl (fun h84 x85 => ?_)
      refine x_icmp_eq 787 1319 C dL_law_784 (by decide) rfl (fun _ => ?_) (fun _ => ?_)
      · exact x_ls [0, 1, 2, 3] rfl (J2 h84)
      · refine x_iconst 788 C dL_law_787 ci_0 rfl ?_
        exact x_none
    refine x_ite (fun e21 => ?_) (fun e21 => ?_)
    · refine x_tabI (off := 756) 789 C dL_law_33 e21 (by decide) (by decide) (by decide) (by decide) ?_
      refine x_aload_n 790 C dL_law_789 1 rfl rfl rfl ?_
      refine x_aload_n 791 C dL_law_790 0 rfl rfl rfl ?_
      refine x_iload_n 792 C dL_law_791 3 rfl rfl rfl ?_
      refine x_iconst 793 C dL_law_792 ci_1 rfl ?_
      refine x_iadd 794 C dL_law_793 rfl ?_
      refine x_sld 795 C SX dL_law_794 rfl ?_
      refine x_cvI 798 [.int (xs (x2 + (1 : Int32)).toNatClampNeg)] [] C 6 dL_law_795 v_L_101 (fun u hu => m_X7_spare hu) rfl sk_0 rfl (Nat.le_of_ble_eq_true rfl) (Nat.le_of_ble_eq_true rfl) rfl (fun h86 x87 => ?_)
      refine x_aload_n 799 C dL_law_798 2 rfl rfl rfl ?_
      refine x_aload_n 800 C dL_law_799 0 rfl rfl rfl ?_
      refine x_iload_n 801 C dL_law_800 3 rfl rfl rfl ?_
      refine x_iconst 802 C dL_law_801 ci_1 rfl ?_
      refine x_iadd 803 C dL_law_802 rfl ?_
      refine x_sld 804 C SX dL_law_803 rfl ?_
      refine x_cvI 807 [.int (xs (x2 + (1 : Int32)).toNatClampNeg)] [.int x87] C 8 dL_law_804 v_L_104 (fun u hu => m_X8_spare hu) rfl sk_68 rfl (Nat.le_of_ble_eq_true rfl) (Nat.le_of_ble_eq_true rfl) rfl (fun h88 x89 => ?_)
      refine x_icmp_eq 810 1319 C dL_law_807 (by decide) rfl (fun _ => ?_) (fun _ => ?_)
      · exact x_ls [0, 1, 2, 3] rfl (J2 h88)
      · refine x_iconst 811 C dL_law_810 ci_0 rfl ?_
        exact x_none
    refine x_ite (fun e22 => ?_) (fun e22 => ?_)
    · refine x_tabI (off := 779) 812 C dL_law_33 e22 (by decide) (by decide) (by decide) (by decide) ?_
      refine x_aload_n 813 C dL_law_812 1 rfl rfl rfl ?_
      refine x_aload_n 814 C dL_law_813 0 rfl rfl rfl ?_
      refine x_iload_n 815 C dL_law_814 3 rfl rfl rfl ?_
      refine x_iconst 816 C dL_law_815 ci_1 rfl ?_
      refine x_iadd 817 C dL_law_816 rfl ?_
      refine x_sld 818 C SX dL_law_817 rfl ?_
      refine x_aload_n 819 C dL_law_818 0 rfl rfl rfl ?_
      refine x_iload_n 820 C dL_law_819 3 rfl rfl rfl ?_
      refine x_iconst 821 C dL_law_820 ci_2 rfl ?_
      refine x_iadd 822 C dL_law_821 rfl ?_
      refine x_sld 823 C SX dL_law_822 rfl ?_
      refine x_aload_n 824 C dL_law_823 0 rfl rfl rfl ?_
      refine x_iload_n 825 C dL_law_824 3 rfl rfl rfl ?_
      refine x_iconst 826 C dL_law_825 ci_3 rfl ?_
      refine x_iadd 827 C dL_law_826 rfl ?_
      refine x_sld 828 C SX dL_law_827 rfl ?_
      refine x_cvI 831 [.int (xs (x2 + (1 : Int32)).toNatClampNeg), .int (xs (x2 + (2 : Int32)).toNatClampNeg), .int (xs (x2 + (3 : Int32)).toNatClampNeg)] [] C 2 dL_law_828 v_L_105 (fun u hu => m_X7_seen hu) rfl sk_0 rfl (Nat.le_of_ble_eq_true rfl) (Nat.le_of_ble_eq_true rfl) rfl (fun h90 x91 => ?_)
      refine x_aload_n 832 C dL_law_831 2 rfl rfl rfl ?_
      refine x_aload_n 833 C dL_law_832 0 rfl rfl rfl ?_
      refine x_iload_n 834 C dL_law_833 3 rfl rfl rfl ?_
      refine x_iconst 835 C dL_law_834 ci_1 rfl ?_
      refine x_iadd 836 C dL_law_835 rfl ?_
      refine x_sld 837 C SX dL_law_836 rfl ?_
      refine x_aload_n 838 C dL_law_837 0 rfl rfl rfl ?_
      refine x_iload_n 839 C dL_law_838 3 rfl rfl rfl ?_
      refine x_iconst 840 C dL_law_839 ci_2 rfl ?_
      refine x_iadd 841 C dL_law_840 rfl ?_
      refine x_sld 842 C SX dL_law_841 rfl ?_
      refine x_aload_n 843 C dL_law_842 0 rfl rfl rfl ?_
      refine x_iload_n 844 C dL_law_843 3 rfl rfl rfl ?_
      refine x_iconst 845 C dL_law_844 ci_3 rfl ?_
      refine x_iadd 846 C dL_law_845 rfl ?_
      refine x_sld 847 C SX dL_law_846 rfl ?_
      refine x_cvI 850 [.int (xs (x2 + (1 : Int32)).toNatClampNeg), .int (xs (x2 + (2 : Int32)).toNatClampNeg), .int (xs (x2 + (3 : Int32)).toNatClampNeg)] [.int x91] C 2 dL_law_847 v_L_108 (fun u hu => m_X8_seen hu) rfl sk_68 rfl (Nat.le_of_ble_eq_true rfl) (Nat.le_of_ble_eq_true rfl) rfl (fun h92 x93 => ?_)
      refine x_icmp_eq 853 1319 C dL_law_850 (by decide) rfl (fun _ => ?_) (fun _ => ?_)
      · exact x_ls [0, 1, 2, 3] rfl (J2 h92)
      · refine x_iconst 854 C dL_law_853 ci_0 rfl ?_
        exact x_none
    refine x_ite (fun e23 => ?_) (fun e23 => ?_)
    · refine x_tabI (off := 822) 855 C dL_law_33 e23 (by decide) (by decide) (by decide) (by decide) ?_
      refine x_aload_n 856 C dL_law_855 1 rfl rfl rfl ?_
      refine x_cvI 859 [] [] C 0 dL_law_856 v_L_109 (fun u hu => m_X7_forget hu) rfl sk_0 rfl (Nat.le_of_ble_eq_true rfl) (Nat.le_of_ble_eq_true rfl) rfl (fun h94 x95 => ?_)
      refine x_aload_n 860 C dL_law_859 2 rfl rfl rfl ?_
      refine x_cvI 863 [] [.int x95] C 0 dL_law_860 v_L_112 (fun u hu => m_X8_forget hu) rfl sk_68 rfl (Nat.le_of_ble_eq_true rfl) (Nat.le_of_ble_eq_true rfl) rfl (fun h96 x97 => ?_)
      refine x_icmp_eq 866 1319 C dL_law_863 (by decide) rfl (fun _ => ?_) (fun _ => ?_)
      · exact x_ls [0, 1, 2, 3] rfl (J2 h96)
      · refine x_iconst 867 C dL_law_866 ci_0 rfl ?_
        exact x_none
    refine x_ite (fun e24 => ?_) (fun e24 => ?_)
    · refine x_tabI (off := 835) 868 C dL_law_33 e24 (by decide) (by decide) (by decide) (by decide) ?_
      refine x_aload_n 869 C dL_law_868 1 rfl rfl rfl ?_
      refine x_cvI 872 [] [] C 4 dL_law_869 v_L_113 (fun u hu => m_X7_never hu) rfl sk_0 rfl (Nat.le_of_ble_eq_true rfl) (Nat.le_of_ble_eq_true rfl) rfl (fun h98 x99 => ?_)
      refine x_aload_n 873 C dL_law_872 2 rfl rfl rfl ?_
      refine x_cvI 876 [] [.int x99] C 8 dL_law_873 v_L_116 (fun u hu => m_X8_never hu) rfl sk_68 rfl (Nat.le_of_ble_eq_true rfl) (Nat.le_of_ble_eq_true rfl) rfl (fun h100 x101 => ?_)
      refine x_icmp_eq 879 1319 C dL_law_876 (by decide) rfl (fun _ => ?_) (fun _ => ?_)
      · exact x_ls [0, 1, 2, 3] rfl (J2 h100)
      · refine x_iconst 880 C dL_law_879 ci_0 rfl ?_
        exact x_none
    refine x_ite (fun e25 => ?_) (fun e25 => ?_)
    · refine x_tabI (off := 848) 881 C dL_law_33 e25 (by decide) (by decide) (by decide) (by decide) ?_
      refine x_aload_n 882 C dL_law_881 1 rfl rfl rfl ?_
      refine x_aload_n 883 C dL_law_882 0 rfl rfl rfl ?_
      refine x_iload_n 884 C dL_law_883 3 rfl rfl rfl ?_
      refine x_iconst 885 C dL_law_884 ci_1 rfl ?_
      refine x_iadd 886 C dL_law_885 rfl ?_
      refine x_sld 887 C SX dL_law_886 rfl ?_
      refine x_aload_n 888 C dL_law_887 0 rfl rfl rfl ?_
      refine x_iload_n 889 C dL_law_888 3 rfl rfl rfl ?_
      refine x_iconst 890 C dL_law_889 ci_2 rfl ?_
      refine x_iadd 891 C dL_law_890 rfl ?_
      refine x_sld 892 C SX dL_law_891 rfl ?_
      refine x_cvI 895 [.int (xs (x2 + (1 : Int32)).toNatClampNeg), .int (xs (x2 + (2 : Int32)).toNatClampNeg)] [] C 5 dL_law_892 v_L_117 (fun u hu => m_X7_was hu) rfl sk_0 rfl (Nat.le_of_ble_eq_true rfl) (Nat.le_of_ble_eq_true rfl) rfl (fun h102 x103 => ?_)
      refine x_aload_n 896 C dL_law_895 2 rfl rfl rfl ?_
      refine x_aload_n 897 C dL_law_896 0 rfl rfl rfl ?_
      refine x_iload_n 898 C dL_law_897 3 rfl rfl rfl ?_
      refine x_iconst 899 C dL_law_898 ci_1 rfl ?_
      refine x_iadd 900 C dL_law_899 rfl ?_
      refine x_sld 901 C SX dL_law_900 rfl ?_
      refine x_aload_n 902 C dL_law_901 0 rfl rfl rfl ?_
      refine x_iload_n 903 C dL_law_902 3 rfl rfl rfl ?_
      refine x_iconst 904 C dL_law_903 ci_2 rfl ?_
      refine x_iadd 905 C dL_law_904 rfl ?_
      refine x_sld 906 C SX dL_law_905 rfl ?_
      refine x_cvI 909 [.int (xs (x2 + (1 : Int32)).toNatClampNeg), .int (xs (x2 + (2 : Int32)).toNatClampNeg)] [.int x103] C 9 dL_law_906 v_L_120 (fun u hu => m_X8_was hu) rfl sk_68 rfl (Nat.le_of_ble_eq_true rfl) (Nat.le_of_ble_eq_true rfl) rfl (fun h104 x105 => ?_)
      refine x_icmp_eq 912 1319 C dL_law_909 (by decide) rfl (fun _ => ?_) (fun _ => ?_)
      · exact x_ls [0, 1, 2, 3] rfl (J2 h104)
      · refine x_iconst 913 C dL_law_912 ci_0 rfl ?_
        exact x_none
    refine x_ite (fun e26 => ?_) (fun e26 => ?_)
    · refine x_tabI (off := 881) 914 C dL_law_33 e26 (by decide) (by decide) (by decide) (by decide) ?_
      refine x_aload_n 915 C dL_law_914 1 rfl rfl rfl ?_
      refine x_aload_n 916 C dL_law_915 0 rfl rfl rfl ?_
      refine x_iload_n 917 C dL_law_916 3 rfl rfl rfl ?_
      refine x_iconst 918 C dL_law_917 ci_1 rfl ?_
      refine x_iadd 919 C dL_law_918 rfl ?_
      refine x_sld 920 C SX dL_law_919 rfl ?_
      refine x_cvI 923 [.int (xs (x2 + (1 : Int32)).toNatClampNeg)] [] C 5 dL_law_920 v_L_121 (fun u hu => m_X7_ask hu) rfl sk_0 rfl (Nat.le_of_ble_eq_true rfl) (Nat.le_of_ble_eq_true rfl) rfl (fun h106 x107 => ?_)
      refine x_aload_n 924 C dL_law_923 2 rfl rfl rfl ?_
      refine x_aload_n 925 C dL_law_924 0 rfl rfl rfl ?_
      refine x_iload_n 926 C dL_law_925 3 rfl rfl rfl ?_
      refine x_iconst 927 C dL_law_926 ci_1 rfl ?_
      refine x_iadd 928 C dL_law_927 rfl ?_
      refine x_sld 929 C SX dL_law_928 rfl ?_
      refine x_cvI 932 [.int (xs (x2 + (1 : Int32)).toNatClampNeg)] [.int x107] C 9 dL_law_929 v_L_124 (fun u hu => m_X8_ask hu) rfl sk_68 rfl (Nat.le_of_ble_eq_true rfl) (Nat.le_of_ble_eq_true rfl) rfl (fun h108 x109 => ?_)
      refine x_icmp_eq 935 1319 C dL_law_932 (by decide) rfl (fun _ => ?_) (fun _ => ?_)
      · exact x_ls [0, 1, 2, 3] rfl (J2 h108)
      · refine x_iconst 936 C dL_law_935 ci_0 rfl ?_
        exact x_none
    refine x_ite (fun e27 => ?_) (fun e27 => ?_)
    · refine x_tabI (off := 904) 937 C dL_law_33 e27 (by decide) (by decide) (by decide) (by decide) ?_
      refine x_aload_n 938 C dL_law_937 1 rfl rfl rfl ?_
      refine x_aload_n 939 C dL_law_938 0 rfl rfl rfl ?_
      refine x_iload_n 940 C dL_law_939 3 rfl rfl rfl ?_
      refine x_iconst 941 C dL_law_940 ci_1 rfl ?_
      refine x_iadd 942 C dL_law_941 rfl ?_
      refine x_sld 943 C SX dL_law_942 rfl ?_
      refine x_aload_n 944 C dL_law_943 0 rfl rfl rfl ?_
      refine x_iload_n 945 C dL_law_944 3 rfl rfl rfl ?_
      refine x_iconst 946 C dL_law_945 ci_2 rfl ?_
      refine x_iadd 947 C dL_law_946 rfl ?_
      refine x_sld 948 C SX dL_law_947 rfl ?_
      refine x_aload_n 949 C dL_law_948 0 rfl rfl rfl ?_
      refine x_iload_n 950 C dL_law_949 3 rfl rfl rfl ?_
      refine x_iconst 951 C dL_law_950 ci_3 rfl ?_
      refine x_iadd 952 C dL_law_951 rfl ?_
      refine x_sld 953 C SX dL_law_952 rfl ?_
      refine x_cvL 956 [.int (xs (x2 + (1 : Int32)).toNatClampNeg), .int (xs (x2 + (2 : Int32)).toNatClampNeg), .int (xs (x2 + (3 : Int32)).toNatClampNeg)] [] C 5 dL_law_953 v_L_125 (fun u hu => m_X7_chance hu) rfl sk_0 rfl (Nat.le_of_ble_eq_true rfl) (Nat.le_of_ble_eq_true rfl) rfl (fun h110 l111 => ?_)
      refine x_aload_n 957 C dL_law_956 2 rfl rfl rfl ?_
      refine x_aload_n 958 C dL_law_957 0 rfl rfl rfl ?_
      refine x_iload_n 959 C dL_law_958 3 rfl rfl rfl ?_
      refine x_iconst 960 C dL_law_959 ci_1 rfl ?_
      refine x_iadd 961 C dL_law_960 rfl ?_
      refine x_sld 962 C SX dL_law_961 rfl ?_
      refine x_aload_n 963 C dL_law_962 0 rfl rfl rfl ?_
      refine x_iload_n 964 C dL_law_963 3 rfl rfl rfl ?_
      refine x_iconst 965 C dL_law_964 ci_2 rfl ?_
      refine x_iadd 966 C dL_law_965 rfl ?_
      refine x_sld 967 C SX dL_law_966 rfl ?_
      refine x_aload_n 968 C dL_law_967 0 rfl rfl rfl ?_
      refine x_iload_n 969 C dL_law_968 3 rfl rfl rfl ?_
      refine x_iconst 970 C dL_law_969 ci_3 rfl ?_
      refine x_iadd 971 C dL_law_970 rfl ?_
      refine x_sld 972 C SX dL_law_971 rfl ?_
      refine x_cvL 975 [.int (xs (x2 + (1 : Int32)).toNatClampNeg), .int (xs (x2 + (2 : Int32)).toNatClampNeg), .int (xs (x2 + (3 : Int32)).toNatClampNeg)] [.long l111] C 7 dL_law_972 v_L_129 (fun u hu => m_X8_chance hu) rfl sk_68 rfl (Nat.le_of_ble_eq_true rfl) (Nat.le_of_ble_eq_true rfl) rfl (fun h112 l113 => ?_)
      refine x_lcmp 976 C dL_law_975 rfl ?_
      refine x_if_eq 979 1319 C dL_law_976 (by decide) rfl (fun _ => ?_) (fun _ => ?_)
      · exact x_ls [0, 1, 2, 3] rfl (J2 h112)
      · refine x_iconst 980 C dL_law_979 ci_0 rfl ?_
        exact x_none
    refine x_ite (fun e28 => ?_) (fun e28 => ?_)
    · refine x_tabI (off := 948) 981 C dL_law_33 e28 (by decide) (by decide) (by decide) (by decide) ?_
      refine x_aload_n 982 C dL_law_981 1 rfl rfl rfl ?_
      refine x_aload_n 983 C dL_law_982 0 rfl rfl rfl ?_
      refine x_iload_n 984 C dL_law_983 3 rfl rfl rfl ?_
      refine x_iconst 985 C dL_law_984 ci_1 rfl ?_
      refine x_iadd 986 C dL_law_985 rfl ?_
      refine x_sld 987 C SX dL_law_986 rfl ?_
      refine x_aload_n 988 C dL_law_987 0 rfl rfl rfl ?_
      refine x_iload_n 989 C dL_law_988 3 rfl rfl rfl ?_
      refine x_iconst 990 C dL_law_989 ci_2 rfl ?_
      refine x_iadd 991 C dL_law_990 rfl ?_
      refine x_sld 992 C SX dL_law_991 rfl ?_
      refine x_aload_n 993 C dL_law_992 0 rfl rfl rfl ?_
      refine x_iload_n 994 C dL_law_993 3 rfl rfl rfl ?_
      refine x_iconst 995 C dL_law_994 ci_3 rfl ?_
      refine x_iadd 996 C dL_law_995 rfl ?_
      refine x_sld 997 C SX dL_law_996 rfl ?_
      refine x_cvI 1000 [.int (xs (x2 + (1 : Int32)).toNatClampNeg), .int (xs (x2 + (2 : Int32)).toNatClampNeg), .int (xs (x2 + (3 : Int32)).toNatClampNeg)] [] C 4 dL_law_997 v_L_130 (fun u hu => m_X7_shows hu) rfl sk_0 rfl (Nat.le_of_ble_eq_true rfl) (Nat.le_of_ble_eq_true rfl) rfl (fun h114 x115 => ?_)
      refine x_aload_n 1001 C dL_law_1000 2 rfl rfl rfl ?_
      refine x_aload_n 1002 C dL_law_1001 0 rfl rfl rfl ?_
      refine x_iload_n 1003 C dL_law_1002 3 rfl rfl rfl ?_
      refine x_iconst 1004 C dL_law_1003 ci_1 rfl ?_
      refine x_iadd 1005 C dL_law_1004 rfl ?_
      refine x_sld 1006 C SX dL_law_1005 rfl ?_
      refine x_aload_n 1007 C dL_law_1006 0 rfl rfl rfl ?_
      refine x_iload_n 1008 C dL_law_1007 3 rfl rfl rfl ?_
      refine x_iconst 1009 C dL_law_1008 ci_2 rfl ?_
      refine x_iadd 1010 C dL_law_1009 rfl ?_
      refine x_sld 1011 C SX dL_law_1010 rfl ?_
      refine x_aload_n 1012 C dL_law_1011 0 rfl rfl rfl ?_
      refine x_iload_n 1013 C dL_law_1012 3 rfl rfl rfl ?_
      refine x_iconst 1014 C dL_law_1013 ci_3 rfl ?_
      refine x_iadd 1015 C dL_law_1014 rfl ?_
      refine x_sld 1016 C SX dL_law_1015 rfl ?_
      refine x_cvI 1019 [.int (xs (x2 + (1 : Int32)).toNatClampNeg), .int (xs (x2 + (2 : Int32)).toNatClampNeg), .int (xs (x2 + (3 : Int32)).toNatClampNeg)] [.int x115] C 7 dL_law_1016 v_L_133 (fun u hu => m_X8_shows hu) rfl sk_68 rfl (Nat.le_of_ble_eq_true rfl) (Nat.le_of_ble_eq_true rfl) rfl (fun h116 x117 => ?_)
      refine x_icmp_eq 1022 1319 C dL_law_1019 (by decide) rfl (fun _ => ?_) (fun _ => ?_)
      · exact x_ls [0, 1, 2, 3] rfl (J2 h116)
      · refine x_iconst 1023 C dL_law_1022 ci_0 rfl ?_
        exact x_none
    refine x_ite (fun e29 => ?_) (fun e29 => ?_)
    · refine x_tabI (off := 991) 1024 C dL_law_33 e29 (by decide) (by decide) (by decide) (by decide) ?_
      refine x_aload_n 1025 C dL_law_1024 1 rfl rfl rfl ?_
      refine x_aload_n 1026 C dL_law_1025 0 rfl rfl rfl ?_
      refine x_iload_n 1027 C dL_law_1026 3 rfl rfl rfl ?_
      refine x_iconst 1028 C dL_law_1027 ci_1 rfl ?_
      refine x_iadd 1029 C dL_law_1028 rfl ?_
      refine x_sld 1030 C SX dL_law_1029 rfl ?_
      refine x_aload_n 1031 C dL_law_1030 0 rfl rfl rfl ?_
      refine x_iload_n 1032 C dL_law_1031 3 rfl rfl rfl ?_
      refine x_iconst 1033 C dL_law_1032 ci_2 rfl ?_
      refine x_iadd 1034 C dL_law_1033 rfl ?_
      refine x_sld 1035 C SX dL_law_1034 rfl ?_
      refine x_aload_n 1036 C dL_law_1035 0 rfl rfl rfl ?_
      refine x_iload_n 1037 C dL_law_1036 3 rfl rfl rfl ?_
      refine x_iconst 1038 C dL_law_1037 ci_3 rfl ?_
      refine x_iadd 1039 C dL_law_1038 rfl ?_
      refine x_sld 1040 C SX dL_law_1039 rfl ?_
      refine x_cvI 1043 [.int (xs (x2 + (1 : Int32)).toNatClampNeg), .int (xs (x2 + (2 : Int32)).toNatClampNeg), .int (xs (x2 + (3 : Int32)).toNatClampNeg)] [] C 2 dL_law_1040 v_L_134 (fun u hu => m_X7_sheet hu) rfl sk_0 rfl (Nat.le_of_ble_eq_true rfl) (Nat.le_of_ble_eq_true rfl) rfl (fun h118 x119 => ?_)
      refine x_aload_n 1044 C dL_law_1043 2 rfl rfl rfl ?_
      refine x_aload_n 1045 C dL_law_1044 0 rfl rfl rfl ?_
      refine x_iload_n 1046 C dL_law_1045 3 rfl rfl rfl ?_
      refine x_iconst 1047 C dL_law_1046 ci_1 rfl ?_
      refine x_iadd 1048 C dL_law_1047 rfl ?_
      refine x_sld 1049 C SX dL_law_1048 rfl ?_
      refine x_aload_n 1050 C dL_law_1049 0 rfl rfl rfl ?_
      refine x_iload_n 1051 C dL_law_1050 3 rfl rfl rfl ?_
      refine x_iconst 1052 C dL_law_1051 ci_2 rfl ?_
      refine x_iadd 1053 C dL_law_1052 rfl ?_
      refine x_sld 1054 C SX dL_law_1053 rfl ?_
      refine x_aload_n 1055 C dL_law_1054 0 rfl rfl rfl ?_
      refine x_iload_n 1056 C dL_law_1055 3 rfl rfl rfl ?_
      refine x_iconst 1057 C dL_law_1056 ci_3 rfl ?_
      refine x_iadd 1058 C dL_law_1057 rfl ?_
      refine x_sld 1059 C SX dL_law_1058 rfl ?_
      refine x_cvI 1062 [.int (xs (x2 + (1 : Int32)).toNatClampNeg), .int (xs (x2 + (2 : Int32)).toNatClampNeg), .int (xs (x2 + (3 : Int32)).toNatClampNeg)] [.int x119] C 2 dL_law_1059 v_L_137 (fun u hu => m_X8_sheet hu) rfl sk_68 rfl (Nat.le_of_ble_eq_true rfl) (Nat.le_of_ble_eq_true rfl) rfl (fun h120 x121 => ?_)
      refine x_icmp_eq 1065 1319 C dL_law_1062 (by decide) rfl (fun _ => ?_) (fun _ => ?_)
      · exact x_ls [0, 1, 2, 3] rfl (J2 h120)
      · refine x_iconst 1066 C dL_law_1065 ci_0 rfl ?_
        exact x_none
    refine x_ite (fun e30 => ?_) (fun e30 => ?_)
    · refine x_tabI (off := 1034) 1067 C dL_law_33 e30 (by decide) (by decide) (by decide) (by decide) ?_
      refine x_aload_n 1068 C dL_law_1067 1 rfl rfl rfl ?_
      refine x_aload_n 1069 C dL_law_1068 0 rfl rfl rfl ?_
      refine x_iload_n 1070 C dL_law_1069 3 rfl rfl rfl ?_
      refine x_iconst 1071 C dL_law_1070 ci_1 rfl ?_
      refine x_iadd 1072 C dL_law_1071 rfl ?_
      refine x_sld 1073 C SX dL_law_1072 rfl ?_
      refine x_cvI 1076 [.int (xs (x2 + (1 : Int32)).toNatClampNeg)] [] C 2 dL_law_1073 v_L_138 (fun u hu => m_X7_lose hu) rfl sk_0 rfl (Nat.le_of_ble_eq_true rfl) (Nat.le_of_ble_eq_true rfl) rfl (fun h122 x123 => ?_)
      refine x_aload_n 1077 C dL_law_1076 2 rfl rfl rfl ?_
      refine x_aload_n 1078 C dL_law_1077 0 rfl rfl rfl ?_
      refine x_iload_n 1079 C dL_law_1078 3 rfl rfl rfl ?_
      refine x_iconst 1080 C dL_law_1079 ci_1 rfl ?_
      refine x_iadd 1081 C dL_law_1080 rfl ?_
      refine x_sld 1082 C SX dL_law_1081 rfl ?_
      refine x_cvI 1085 [.int (xs (x2 + (1 : Int32)).toNatClampNeg)] [.int x123] C 2 dL_law_1082 v_L_141 (fun u hu => m_X8_lose hu) rfl sk_68 rfl (Nat.le_of_ble_eq_true rfl) (Nat.le_of_ble_eq_true rfl) rfl (fun h124 x125 => ?_)
      refine x_icmp_eq 1088 1319 C dL_law_1085 (by decide) rfl (fun _ => ?_) (fun _ => ?_)
      · exact x_ls [0, 1, 2, 3] rfl (J2 h124)
      · refine x_iconst 1089 C dL_law_1088 ci_0 rfl ?_
        exact x_none
    refine x_ite (fun e31 => ?_) (fun e31 => ?_)
    · refine x_tabI (off := 1057) 1090 C dL_law_33 e31 (by decide) (by decide) (by decide) (by decide) ?_
      refine x_aload_n 1091 C dL_law_1090 1 rfl rfl rfl ?_
      refine x_aload_n 1092 C dL_law_1091 0 rfl rfl rfl ?_
      refine x_iload_n 1093 C dL_law_1092 3 rfl rfl rfl ?_
      refine x_iconst 1094 C dL_law_1093 ci_1 rfl ?_
      refine x_iadd 1095 C dL_law_1094 rfl ?_
      refine x_sld 1096 C SX dL_law_1095 rfl ?_
      refine x_aload_n 1097 C dL_law_1096 0 rfl rfl rfl ?_
      refine x_iload_n 1098 C dL_law_1097 3 rfl rfl rfl ?_
      refine x_iconst 1099 C dL_law_1098 ci_2 rfl ?_
      refine x_iadd 1100 C dL_law_1099 rfl ?_
      refine x_sld 1101 C SX dL_law_1100 rfl ?_
      refine x_aload_n 1102 C dL_law_1101 0 rfl rfl rfl ?_
      refine x_iload_n 1103 C dL_law_1102 3 rfl rfl rfl ?_
      refine x_iconst 1104 C dL_law_1103 ci_3 rfl ?_
      refine x_iadd 1105 C dL_law_1104 rfl ?_
      refine x_sld 1106 C SX dL_law_1105 rfl ?_
      refine x_aload_n 1107 C dL_law_1106 0 rfl rfl rfl ?_
      refine x_iload_n 1108 C dL_law_1107 3 rfl rfl rfl ?_
      refine x_iconst 1109 C dL_law_1108 ci_4 rfl ?_
      refine x_iadd 1110 C dL_law_1109 rfl ?_
      refine x_sld 1111 C SX dL_law_1110 rfl ?_
      refine x_cvI 1114 [.int (xs (x2 + (1 : Int32)).toNatClampNeg), .int (xs (x2 + (2 : Int32)).toNatClampNeg), .int (xs (x2 + (3 : Int32)).toNatClampNeg), .int (xs (x2 + (4 : Int32)).toNatClampNeg)] [] C 2 dL_law_1111 v_L_142 (fun u hu => m_X7_lay hu) rfl sk_0 rfl (Nat.le_of_ble_eq_true rfl) (Nat.le_of_ble_eq_true rfl) rfl (fun h126 x127 => ?_)
      refine x_aload_n 1115 C dL_law_1114 2 rfl rfl rfl ?_
      refine x_aload_n 1116 C dL_law_1115 0 rfl rfl rfl ?_
      refine x_iload_n 1117 C dL_law_1116 3 rfl rfl rfl ?_
      refine x_iconst 1118 C dL_law_1117 ci_1 rfl ?_
      refine x_iadd 1119 C dL_law_1118 rfl ?_
      refine x_sld 1120 C SX dL_law_1119 rfl ?_
      refine x_aload_n 1121 C dL_law_1120 0 rfl rfl rfl ?_
      refine x_iload_n 1122 C dL_law_1121 3 rfl rfl rfl ?_
      refine x_iconst 1123 C dL_law_1122 ci_2 rfl ?_
      refine x_iadd 1124 C dL_law_1123 rfl ?_
      refine x_sld 1125 C SX dL_law_1124 rfl ?_
      refine x_aload_n 1126 C dL_law_1125 0 rfl rfl rfl ?_
      refine x_iload_n 1127 C dL_law_1126 3 rfl rfl rfl ?_
      refine x_iconst 1128 C dL_law_1127 ci_3 rfl ?_
      refine x_iadd 1129 C dL_law_1128 rfl ?_
      refine x_sld 1130 C SX dL_law_1129 rfl ?_
      refine x_aload_n 1131 C dL_law_1130 0 rfl rfl rfl ?_
      refine x_iload_n 1132 C dL_law_1131 3 rfl rfl rfl ?_
      refine x_iconst 1133 C dL_law_1132 ci_4 rfl ?_
      refine x_iadd 1134 C dL_law_1133 rfl ?_
      refine x_sld 1135 C SX dL_law_1134 rfl ?_
      refine x_cvI 1138 [.int (xs (x2 + (1 : Int32)).toNatClampNeg), .int (xs (x2 + (2 : Int32)).toNatClampNeg), .int (xs (x2 + (3 : Int32)).toNatClampNeg), .int (xs (x2 + (4 : Int32)).toNatClampNeg)] [.int x127] C 2 dL_law_1135 v_L_146 (fun u hu => m_X8_lay hu) rfl sk_68 rfl (Nat.le_of_ble_eq_true rfl) (Nat.le_of_ble_eq_true rfl) rfl (fun h128 x129 => ?_)
      refine x_icmp_eq 1141 1319 C dL_law_1138 (by decide) rfl (fun _ => ?_) (fun _ => ?_)
      · exact x_ls [0, 1, 2, 3] rfl (J2 h128)
      · refine x_iconst 1142 C dL_law_1141 ci_0 rfl ?_
        exact x_none
    refine x_ite (fun e32 => ?_) (fun e32 => ?_)
    · refine x_tabI (off := 1110) 1143 C dL_law_33 e32 (by decide) (by decide) (by decide) (by decide) ?_
      refine x_aload_n 1144 C dL_law_1143 1 rfl rfl rfl ?_
      refine x_aload_n 1145 C dL_law_1144 0 rfl rfl rfl ?_
      refine x_iload_n 1146 C dL_law_1145 3 rfl rfl rfl ?_
      refine x_iconst 1147 C dL_law_1146 ci_1 rfl ?_
      refine x_iadd 1148 C dL_law_1147 rfl ?_
      refine x_sld 1149 C SX dL_law_1148 rfl ?_
      refine x_aload_n 1150 C dL_law_1149 0 rfl rfl rfl ?_
      refine x_iload_n 1151 C dL_law_1150 3 rfl rfl rfl ?_
      refine x_iconst 1152 C dL_law_1151 ci_2 rfl ?_
      refine x_iadd 1153 C dL_law_1152 rfl ?_
      refine x_sld 1154 C SX dL_law_1153 rfl ?_
      refine x_aload_n 1155 C dL_law_1154 0 rfl rfl rfl ?_
      refine x_iload_n 1156 C dL_law_1155 3 rfl rfl rfl ?_
      refine x_iconst 1157 C dL_law_1156 ci_3 rfl ?_
      refine x_iadd 1158 C dL_law_1157 rfl ?_
      refine x_sld 1159 C SX dL_law_1158 rfl ?_
      refine x_cvI 1162 [.int (xs (x2 + (1 : Int32)).toNatClampNeg), .int (xs (x2 + (2 : Int32)).toNatClampNeg), .int (xs (x2 + (3 : Int32)).toNatClampNeg)] [] C 2 dL_law_1159 v_L_147 (fun u hu => m_X7_get hu) rfl sk_0 rfl (Nat.le_of_ble_eq_true rfl) (Nat.le_of_ble_eq_true rfl) rfl (fun h130 x131 => ?_)
      refine x_aload_n 1163 C dL_law_1162 2 rfl rfl rfl ?_
      refine x_aload_n 1164 C dL_law_1163 0 rfl rfl rfl ?_
      refine x_iload_n 1165 C dL_law_1164 3 rfl rfl rfl ?_
      refine x_iconst 1166 C dL_law_1165 ci_1 rfl ?_
      refine x_iadd 1167 C dL_law_1166 rfl ?_
      refine x_sld 1168 C SX dL_law_1167 rfl ?_
      refine x_aload_n 1169 C dL_law_1168 0 rfl rfl rfl ?_
      refine x_iload_n 1170 C dL_law_1169 3 rfl rfl rfl ?_
      refine x_iconst 1171 C dL_law_1170 ci_2 rfl ?_
      refine x_iadd 1172 C dL_law_1171 rfl ?_
      refine x_sld 1173 C SX dL_law_1172 rfl ?_
      refine x_aload_n 1174 C dL_law_1173 0 rfl rfl rfl ?_
      refine x_iload_n 1175 C dL_law_1174 3 rfl rfl rfl ?_
      refine x_iconst 1176 C dL_law_1175 ci_3 rfl ?_
      refine x_iadd 1177 C dL_law_1176 rfl ?_
      refine x_sld 1178 C SX dL_law_1177 rfl ?_
      refine x_cvI 1181 [.int (xs (x2 + (1 : Int32)).toNatClampNeg), .int (xs (x2 + (2 : Int32)).toNatClampNeg), .int (xs (x2 + (3 : Int32)).toNatClampNeg)] [.int x131] C 2 dL_law_1178 v_L_150 (fun u hu => m_X8_get hu) rfl sk_68 rfl (Nat.le_of_ble_eq_true rfl) (Nat.le_of_ble_eq_true rfl) rfl (fun h132 x133 => ?_)
      refine x_icmp_eq 1184 1319 C dL_law_1181 (by decide) rfl (fun _ => ?_) (fun _ => ?_)
      · exact x_ls [0, 1, 2, 3] rfl (J2 h132)
      · refine x_iconst 1185 C dL_law_1184 ci_0 rfl ?_
        exact x_none
    refine x_ite (fun e33 => ?_) (fun e33 => ?_)
    · refine x_tabI (off := 1153) 1186 C dL_law_33 e33 (by decide) (by decide) (by decide) (by decide) ?_
      refine x_aload_n 1187 C dL_law_1186 1 rfl rfl rfl ?_
      refine x_aload_n 1188 C dL_law_1187 0 rfl rfl rfl ?_
      refine x_iload_n 1189 C dL_law_1188 3 rfl rfl rfl ?_
      refine x_iconst 1190 C dL_law_1189 ci_1 rfl ?_
      refine x_iadd 1191 C dL_law_1190 rfl ?_
      refine x_sld 1192 C SX dL_law_1191 rfl ?_
      refine x_aload_n 1193 C dL_law_1192 0 rfl rfl rfl ?_
      refine x_iload_n 1194 C dL_law_1193 3 rfl rfl rfl ?_
      refine x_iconst 1195 C dL_law_1194 ci_2 rfl ?_
      refine x_iadd 1196 C dL_law_1195 rfl ?_
      refine x_sld 1197 C SX dL_law_1196 rfl ?_
      refine x_aload_n 1198 C dL_law_1197 0 rfl rfl rfl ?_
      refine x_iload_n 1199 C dL_law_1198 3 rfl rfl rfl ?_
      refine x_iconst 1200 C dL_law_1199 ci_3 rfl ?_
      refine x_iadd 1201 C dL_law_1200 rfl ?_
      refine x_sld 1202 C SX dL_law_1201 rfl ?_
      refine x_aload_n 1203 C dL_law_1202 0 rfl rfl rfl ?_
      refine x_iload_n 1204 C dL_law_1203 3 rfl rfl rfl ?_
      refine x_iconst 1205 C dL_law_1204 ci_4 rfl ?_
      refine x_iadd 1206 C dL_law_1205 rfl ?_
      refine x_sld 1207 C SX dL_law_1206 rfl ?_
      refine x_aload_n 1208 C dL_law_1207 0 rfl rfl rfl ?_
      refine x_iload_n 1209 C dL_law_1208 3 rfl rfl rfl ?_
      refine x_iconst 1210 C dL_law_1209 ci_5 rfl ?_
      refine x_iadd 1211 C dL_law_1210 rfl ?_
      refine x_sld 1212 C SX dL_law_1211 rfl ?_
      refine x_cvI 1215 [.int (xs (x2 + (1 : Int32)).toNatClampNeg), .int (xs (x2 + (2 : Int32)).toNatClampNeg), .int (xs (x2 + (3 : Int32)).toNatClampNeg), .int (xs (x2 + (4 : Int32)).toNatClampNeg), .int (xs (x2 + (5 : Int32)).toNatClampNeg)] [] C 2 dL_law_1212 v_L_151 (fun u hu => m_X7_copy hu) rfl sk_0 rfl (Nat.le_of_ble_eq_true rfl) (Nat.le_of_ble_eq_true rfl) rfl (fun h134 x135 => ?_)
      refine x_aload_n 1216 C dL_law_1215 2 rfl rfl rfl ?_
      refine x_aload_n 1217 C dL_law_1216 0 rfl rfl rfl ?_
      refine x_iload_n 1218 C dL_law_1217 3 rfl rfl rfl ?_
      refine x_iconst 1219 C dL_law_1218 ci_1 rfl ?_
      refine x_iadd 1220 C dL_law_1219 rfl ?_
      refine x_sld 1221 C SX dL_law_1220 rfl ?_
      refine x_aload_n 1222 C dL_law_1221 0 rfl rfl rfl ?_
      refine x_iload_n 1223 C dL_law_1222 3 rfl rfl rfl ?_
      refine x_iconst 1224 C dL_law_1223 ci_2 rfl ?_
      refine x_iadd 1225 C dL_law_1224 rfl ?_
      refine x_sld 1226 C SX dL_law_1225 rfl ?_
      refine x_aload_n 1227 C dL_law_1226 0 rfl rfl rfl ?_
      refine x_iload_n 1228 C dL_law_1227 3 rfl rfl rfl ?_
      refine x_iconst 1229 C dL_law_1228 ci_3 rfl ?_
      refine x_iadd 1230 C dL_law_1229 rfl ?_
      refine x_sld 1231 C SX dL_law_1230 rfl ?_
      refine x_aload_n 1232 C dL_law_1231 0 rfl rfl rfl ?_
      refine x_iload_n 1233 C dL_law_1232 3 rfl rfl rfl ?_
      refine x_iconst 1234 C dL_law_1233 ci_4 rfl ?_
      refine x_iadd 1235 C dL_law_1234 rfl ?_
      refine x_sld 1236 C SX dL_law_1235 rfl ?_
      refine x_aload_n 1237 C dL_law_1236 0 rfl rfl rfl ?_
      refine x_iload_n 1238 C dL_law_1237 3 rfl rfl rfl ?_
      refine x_iconst 1239 C dL_law_1238 ci_5 rfl ?_
      refine x_iadd 1240 C dL_law_1239 rfl ?_
      refine x_sld 1241 C SX dL_law_1240 rfl ?_
      refine x_cvI 1244 [.int (xs (x2 + (1 : Int32)).toNatClampNeg), .int (xs (x2 + (2 : Int32)).toNatClampNeg), .int (xs (x2 + (3 : Int32)).toNatClampNeg), .int (xs (x2 + (4 : Int32)).toNatClampNeg), .int (xs (x2 + (5 : Int32)).toNatClampNeg)] [.int x135] C 2 dL_law_1241 v_L_155 (fun u hu => m_X8_copy hu) rfl sk_68 rfl (Nat.le_of_ble_eq_true rfl) (Nat.le_of_ble_eq_true rfl) rfl (fun h136 x137 => ?_)
      refine x_icmp_eq 1247 1319 C dL_law_1244 (by decide) rfl (fun _ => ?_) (fun _ => ?_)
      · exact x_ls [0, 1, 2, 3] rfl (J2 h136)
      · refine x_iconst 1248 C dL_law_1247 ci_0 rfl ?_
        exact x_none
    refine x_ite (fun e34 => ?_) (fun e34 => ?_)
    · refine x_tabI (off := 1216) 1249 C dL_law_33 e34 (by decide) (by decide) (by decide) (by decide) ?_
      refine x_aload_n 1250 C dL_law_1249 1 rfl rfl rfl ?_
      refine x_aload_n 1251 C dL_law_1250 0 rfl rfl rfl ?_
      refine x_iload_n 1252 C dL_law_1251 3 rfl rfl rfl ?_
      refine x_iconst 1253 C dL_law_1252 ci_1 rfl ?_
      refine x_iadd 1254 C dL_law_1253 rfl ?_
      refine x_sld 1255 C SX dL_law_1254 rfl ?_
      refine x_aload_n 1256 C dL_law_1255 0 rfl rfl rfl ?_
      refine x_iload_n 1257 C dL_law_1256 3 rfl rfl rfl ?_
      refine x_iconst 1258 C dL_law_1257 ci_2 rfl ?_
      refine x_iadd 1259 C dL_law_1258 rfl ?_
      refine x_sld 1260 C SX dL_law_1259 rfl ?_
      refine x_cvI 1263 [.int (xs (x2 + (1 : Int32)).toNatClampNeg), .int (xs (x2 + (2 : Int32)).toNatClampNeg)] [] C 5 dL_law_1260 v_L_156 (fun u hu => m_X7_write hu) rfl sk_0 rfl (Nat.le_of_ble_eq_true rfl) (Nat.le_of_ble_eq_true rfl) rfl (fun h138 x139 => ?_)
      refine x_aload_n 1264 C dL_law_1263 2 rfl rfl rfl ?_
      refine x_aload_n 1265 C dL_law_1264 0 rfl rfl rfl ?_
      refine x_iload_n 1266 C dL_law_1265 3 rfl rfl rfl ?_
      refine x_iconst 1267 C dL_law_1266 ci_1 rfl ?_
      refine x_iadd 1268 C dL_law_1267 rfl ?_
      refine x_sld 1269 C SX dL_law_1268 rfl ?_
      refine x_aload_n 1270 C dL_law_1269 0 rfl rfl rfl ?_
      refine x_iload_n 1271 C dL_law_1270 3 rfl rfl rfl ?_
      refine x_iconst 1272 C dL_law_1271 ci_2 rfl ?_
      refine x_iadd 1273 C dL_law_1272 rfl ?_
      refine x_sld 1274 C SX dL_law_1273 rfl ?_
      refine x_cvI 1277 [.int (xs (x2 + (1 : Int32)).toNatClampNeg), .int (xs (x2 + (2 : Int32)).toNatClampNeg)] [.int x139] C 7 dL_law_1274 v_L_159 (fun u hu => m_X8_write hu) rfl sk_68 rfl (Nat.le_of_ble_eq_true rfl) (Nat.le_of_ble_eq_true rfl) rfl (fun h140 x141 => ?_)
      refine x_icmp_eq 1280 1319 C dL_law_1277 (by decide) rfl (fun _ => ?_) (fun _ => ?_)
      · exact x_ls [0, 1, 2, 3] rfl (J2 h140)
      · refine x_iconst 1281 C dL_law_1280 ci_0 rfl ?_
        exact x_none
    refine x_ite (fun e35 => ?_) (fun e35 => ?_)
    · refine x_tabI (off := 1249) 1282 C dL_law_33 e35 (by decide) (by decide) (by decide) (by decide) ?_
      refine x_aload_n 1283 C dL_law_1282 1 rfl rfl rfl ?_
      refine x_aload_n 1284 C dL_law_1283 0 rfl rfl rfl ?_
      refine x_iload_n 1285 C dL_law_1284 3 rfl rfl rfl ?_
      refine x_iconst 1286 C dL_law_1285 ci_1 rfl ?_
      refine x_iadd 1287 C dL_law_1286 rfl ?_
      refine x_sld 1288 C SX dL_law_1287 rfl ?_
      refine x_cvi 1291 [.int (xs (x2 + (1 : Int32)).toNatClampNeg)] [] C 2 dL_law_1288 v_L_160 (fun u hu => m_X7_count hu) rfl sk_0 rfl (Nat.le_of_ble_eq_true rfl) (Nat.le_of_ble_eq_true rfl) rfl (fun x142 => ?_)
      refine x_aload_n 1292 C dL_law_1291 2 rfl rfl rfl ?_
      refine x_aload_n 1293 C dL_law_1292 0 rfl rfl rfl ?_
      refine x_iload_n 1294 C dL_law_1293 3 rfl rfl rfl ?_
      refine x_iconst 1295 C dL_law_1294 ci_1 rfl ?_
      refine x_iadd 1296 C dL_law_1295 rfl ?_
      refine x_sld 1297 C SX dL_law_1296 rfl ?_
      refine x_cvI 1300 [.int (xs (x2 + (1 : Int32)).toNatClampNeg)] [.int x142] C 7 dL_law_1297 v_L_163 (fun u hu => m_X8_count hu) rfl sk_68 rfl (Nat.le_of_ble_eq_true rfl) (Nat.le_of_ble_eq_true rfl) rfl (fun h143 x144 => ?_)
      refine x_icmp_eq 1303 1319 C dL_law_1300 (by decide) rfl (fun _ => ?_) (fun _ => ?_)
      · exact x_ls [0, 1, 2, 3] rfl (J2 h143)
      · refine x_iconst 1304 C dL_law_1303 ci_0 rfl ?_
        exact x_none
    refine x_ite (fun e36 => ?_) (fun e36 => ?_)
    · refine x_tabI (off := 1272) 1305 C dL_law_33 e36 (by decide) (by decide) (by decide) (by decide) ?_
      refine x_aload_n 1306 C dL_law_1305 1 rfl rfl rfl ?_
      refine x_cvL 1309 [] [] C 7 dL_law_1306 v_L_164 (fun u hu => m_X7_digest hu) rfl sk_0 rfl (Nat.le_of_ble_eq_true rfl) (Nat.le_of_ble_eq_true rfl) rfl (fun h145 l146 => ?_)
      refine x_aload_n 1310 C dL_law_1309 2 rfl rfl rfl ?_
      refine x_cvL 1313 [] [.long l146] C 10 dL_law_1310 v_L_168 (fun u hu => m_X8_digest hu) rfl sk_68 rfl (Nat.le_of_ble_eq_true rfl) (Nat.le_of_ble_eq_true rfl) rfl (fun h147 l148 => ?_)
      refine x_lcmp 1314 C dL_law_1313 rfl ?_
      refine x_if_eq 1317 1319 C dL_law_1314 (by decide) rfl (fun _ => ?_) (fun _ => ?_)
      · exact x_ls [0, 1, 2, 3] rfl (J2 h147)
      · refine x_iconst 1318 C dL_law_1317 ci_0 rfl ?_
        exact x_none
    refine x_tabO 1319 C dL_law_33 (by have := lv_neT e0 (show (0 : Int32).toInt = 0 by decide); have := lv_neT e1 (show (1 : Int32).toInt = 1 by decide); have := lv_neT e2 (show (2 : Int32).toInt = 2 by decide); have := lv_neT e3 (show (3 : Int32).toInt = 3 by decide); have := lv_neT e4 (show (4 : Int32).toInt = 4 by decide); have := lv_neT e5 (show (5 : Int32).toInt = 5 by decide); have := lv_neT e6 (show (6 : Int32).toInt = 6 by decide); have := lv_neT e7 (show (7 : Int32).toInt = 7 by decide); have := lv_neT e8 (show (8 : Int32).toInt = 8 by decide); have := lv_neT e9 (show (9 : Int32).toInt = 9 by decide); have := lv_neT e10 (show (10 : Int32).toInt = 10 by decide); have := lv_neT e11 (show (11 : Int32).toInt = 11 by decide); have := lv_neT e12 (show (12 : Int32).toInt = 12 by decide); have := lv_neT e13 (show (13 : Int32).toInt = 13 by decide); have := lv_neT e14 (show (14 : Int32).toInt = 14 by decide); have := lv_neT e15 (show (15 : Int32).toInt = 15 by decide); have := lv_neT e16 (show (16 : Int32).toInt = 16 by decide); have := lv_neT e17 (show (17 : Int32).toInt = 17 by decide); have := lv_neT e18 (show (18 : Int32).toInt = 18 by decide); have := lv_neT e19 (show (19 : Int32).toInt = 19 by decide); have := lv_neT e20 (show (20 : Int32).toInt = 20 by decide); have := lv_neT e21 (show (21 : Int32).toInt = 21 by decide); have := lv_neT e22 (show (22 : Int32).toInt = 22 by decide); have := lv_neT e23 (show (23 : Int32).toInt = 23 by decide); have := lv_neT e24 (show (24 : Int32).toInt = 24 by decide); have := lv_neT e25 (show (25 : Int32).toInt = 25 by decide); have := lv_neT e26 (show (26 : Int32).toInt = 26 by decide); have := lv_neT e27 (show (27 : Int32).toInt = 27 by decide); have := lv_neT e28 (show (28 : Int32).toInt = 28 by decide); have := lv_neT e29 (show (29 : Int32).toInt = 29 by decide); have := lv_neT e30 (show (30 : Int32).toInt = 30 by decide); have := lv_neT e31 (show (31 : Int32).toInt = 31 by decide); have := lv_neT e32 (show (32 : Int32).toInt = 32 by decide); have := lv_neT e33 (show (33 : Int32).toInt = 33 by decide); have := lv_neT e34 (show (34 : Int32).toInt = 34 by decide); have := lv_neT e35 (show (35 : Int32).toInt = 35 by decide); have := lv_neT e36 (show (36 : Int32).toInt = 36 by decide); omega) (by decide) ?_
    exact x_ls [0, 1, 2, 3] rfl (J2 h1)
