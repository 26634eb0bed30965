def f_J7_fill_53178 (h : Hp) (a1 : Nat) (a2 : Int32) : Option Hp :=
  nm (nI (sl a1)) fun x1 =>
  fx2 FU (fun s1 (h2 : Hp) (x3 : Int32) =>
    if x1 ≤ x3 then (
      some h2)
    else (
      ck x3 (sl a1) (nm (ux h2 a1 x3 a2) fun h4 =>
      nm (x3 + (1 : Int32)) fun x5 =>
      s1 h4 x5))) h (0 : Int32)
theorem dJ7_fill_53178_0 : decode cJ7_fill_53178 0 = .ok (.iconst 0, 1) := by decide +kernel
theorem dJ7_fill_53178_1 : decode cJ7_fill_53178 1 = .ok (.istore_n 2, 1) := by decide +kernel
theorem dJ7_fill_53178_2 : decode cJ7_fill_53178 2 = .ok (.aload_n 0, 1) := by decide +kernel
theorem dJ7_fill_53178_3 : decode cJ7_fill_53178 3 = .ok (.arraylength, 1) := by decide +kernel
theorem dJ7_fill_53178_4 : decode cJ7_fill_53178 4 = .ok (.istore_n 3, 1) := by decide +kernel
theorem dJ7_fill_53178_5 : decode cJ7_fill_53178 5 = .ok (.iload_n 2, 1) := by decide +kernel
theorem dJ7_fill_53178_6 : decode cJ7_fill_53178 6 = .ok (.iload_n 3, 1) := by decide +kernel
theorem dJ7_fill_53178_7 : decode cJ7_fill_53178 7 = .ok (.if_icmp .ge 13, 3) := by decide +kernel
theorem dJ7_fill_53178_10 : decode cJ7_fill_53178 10 = .ok (.aload_n 0, 1) := by decide +kernel
theorem dJ7_fill_53178_11 : decode cJ7_fill_53178 11 = .ok (.iload_n 2, 1) := by decide +kernel
theorem dJ7_fill_53178_12 : decode cJ7_fill_53178 12 = .ok (.iload_n 1, 1) := by decide +kernel
theorem dJ7_fill_53178_13 : decode cJ7_fill_53178 13 = .ok (.iastore, 1) := by decide +kernel
theorem dJ7_fill_53178_14 : decode cJ7_fill_53178 14 = .ok (.iinc 2 1, 3) := by decide +kernel
theorem dJ7_fill_53178_17 : decode cJ7_fill_53178 17 = .ok (.goto (-12), 3) := by decide +kernel
theorem dJ7_fill_53178_20 : decode cJ7_fill_53178 20 = .ok (.return_, 1) := by decide +kernel
set_option maxRecDepth 20000 in
theorem m_J7_fill_53178 {h : Hp} {a1 : Nat} {a2 : Int32} (ha1 : sk a1 = 9) {u : Hp} (hu : f_J7_fill_53178 h a1 a2 = some u) : Ct yJ7_fill_53178 cJ7_fill_53178 4 none 0 [.ref a1, .int a2] h (eV u) := by
  refine ct_of eV hu (by decide) (Nat.le_of_ble_eq_true rfl) (fun κ hn C E => ?_)
  have n2 : 2 < kn κ := by rw [hn]; decide
  have n3 : 3 < kn κ := by rw [hn]; decide
  unfold f_J7_fill_53178
  show Xz κ _ 0 [(0, .ref a1), (1, .int a2)] [] h
  refine x_iconst 1 C dJ7_fill_53178_0 ci_0 rfl ?_
  refine x_istore_n 2 [(2, .int (0 : Int32)), (0, .ref a1), (1, .int a2)] C dJ7_fill_53178_1 n2 rfl rfl rfl ?_
  refine x_aload_n 3 C dJ7_fill_53178_2 1 rfl rfl rfl ?_
  refine x_alen 4 C dJ7_fill_53178_3 ha1 rfl rfl ?_
  refine x_ni (fun x1 => ?_)
  refine x_istore_n 5 [(3, .int x1), (2, .int (0 : Int32)), (0, .ref a1), (1, .int a2)] C dJ7_fill_53178_4 n3 rfl rfl rfl ?_
  refine x_ls [2, 3, 1, 0] rfl (x_fx2 (ls := fun h2 x3 => [(0, .ref a1), (1, .int a2), (2, .int x3), (3, .int x1)]) (st := fun h2 x3 => []) (hh := fun h2 x3 => h2) (fun s1 J1 h2 x3 => ?_))
  refine x_iload_n 6 C dJ7_fill_53178_5 2 rfl rfl rfl ?_
  refine x_iload_n 7 C dJ7_fill_53178_6 3 rfl rfl rfl ?_
  refine x_icmp_ge 10 20 C dJ7_fill_53178_7 (by decide) rfl (fun _ => ?_) (fun _ => ?_)
  · exact x_vret C E dJ7_fill_53178_20 rfl
  · refine x_aload_n 11 C dJ7_fill_53178_10 0 rfl rfl rfl ?_
    refine x_iload_n 12 C dJ7_fill_53178_11 2 rfl rfl rfl ?_
    refine x_iload_n 13 C dJ7_fill_53178_12 1 rfl rfl rfl ?_
    refine x_iast 14 C dJ7_fill_53178_13 ha1 rfl rfl (fun h4 => ?_)
    refine x_iinc 17 (fun x5 => [(2, .int x5), (0, .ref a1), (1, .int a2), (3, .int x1)]) C dJ7_fill_53178_14 2 rfl ci_1 n2 (fun _ => rfl) rfl (fun x5 => ?_)
    refine x_goto 5 C dJ7_fill_53178_17 (by decide) ?_
    exact x_ls [1, 2, 0, 3] rfl (J1 h4 x5)

def f_X0_note (h : Hp) (S : Nat) (a1 : Int32) (a2 : Int32) (a3 : Int32) (a4 : Int32) : Option Hp :=
  if a1 < 0 then (
    some h)
  else (
    if (144 : Int32) ≤ a1 then (
      some h)
    else (
      ck a1 144 (nm (ux h (S + 1) a1 a2) fun h1 =>
      ck a1 144 (nm (ux h1 (S + 2) a1 a3) fun h2 =>
      ck a1 144 (nm (ux h2 (S + 3) a1 a4) fun h3 =>
      some h3)))))
theorem dX0_note_0 : decode cX0_note 0 = .ok (.iload_n 1, 1) := by decide +kernel
theorem dX0_note_1 : decode cX0_note 1 = .ok (.ifCond .lt 32, 3) := by decide +kernel
theorem dX0_note_4 : decode cX0_note 4 = .ok (.iload_n 1, 1) := by decide +kernel
theorem dX0_note_5 : decode cX0_note 5 = .ok (.sipush 144, 3) := by decide +kernel
theorem dX0_note_8 : decode cX0_note 8 = .ok (.if_icmp .ge 25, 3) := by decide +kernel
theorem dX0_note_11 : decode cX0_note 11 = .ok (.aload_n 0, 1) := by decide +kernel
theorem dX0_note_12 : decode cX0_note 12 = .ok (.getfield 11, 3) := by decide +kernel
theorem dX0_note_15 : decode cX0_note 15 = .ok (.iload_n 1, 1) := by decide +kernel
theorem dX0_note_16 : decode cX0_note 16 = .ok (.iload_n 2, 1) := by decide +kernel
theorem dX0_note_17 : decode cX0_note 17 = .ok (.iastore, 1) := by decide +kernel
theorem dX0_note_18 : decode cX0_note 18 = .ok (.aload_n 0, 1) := by decide +kernel
theorem dX0_note_19 : decode cX0_note 19 = .ok (.getfield 15, 3) := by decide +kernel
theorem dX0_note_22 : decode cX0_note 22 = .ok (.iload_n 1, 1) := by decide +kernel
theorem dX0_note_23 : decode cX0_note 23 = .ok (.iload_n 3, 1) := by decide +kernel
theorem dX0_note_24 : decode cX0_note 24 = .ok (.iastore, 1) := by decide +kernel
theorem dX0_note_25 : decode cX0_note 25 = .ok (.aload_n 0, 1) := by decide +kernel
theorem dX0_note_26 : decode cX0_note 26 = .ok (.getfield 18, 3) := by decide +kernel
theorem dX0_note_29 : decode cX0_note 29 = .ok (.iload_n 1, 1) := by decide +kernel
theorem dX0_note_30 : decode cX0_note 30 = .ok (.iload 4, 2) := by decide +kernel
theorem dX0_note_32 : decode cX0_note 32 = .ok (.iastore, 1) := by decide +kernel
theorem dX0_note_33 : decode cX0_note 33 = .ok (.return_, 1) := by decide +kernel
set_option maxRecDepth 20000 in
theorem m_X0_note {h : Hp} {S : Nat} {a1 : Int32} {a2 : Int32} {a3 : Int32} {a4 : Int32} (hS : sk S = 0) {u : Hp} (hu : f_X0_note h S a1 a2 a3 a4 = some u) : Ct yX0_note cX0_note 5 none 0 [.ref S, .int a1, .int a2, .int a3, .int a4] h (eV u) := by
  refine ct_of eV hu (by decide) (Nat.le_of_ble_eq_true rfl) (fun κ hn C E => ?_)
  unfold f_X0_note
  show Xz κ _ 0 [(0, .ref S), (1, .int a1), (2, .int a2), (3, .int a3), (4, .int a4)] [] h
  refine x_iload_n 1 C dX0_note_0 1 rfl rfl rfl ?_
  refine x_if_lt 4 33 C dX0_note_1 (by decide) rfl (fun _ => ?_) (fun _ => ?_)
  · exact x_vret C E dX0_note_33 rfl
  · refine x_iload_n 5 C dX0_note_4 1 rfl rfl rfl ?_
    refine x_sipush 8 C dX0_note_5 cs_144 rfl ?_
    refine x_icmp_ge 11 33 C dX0_note_8 (by decide) rfl (fun _ => ?_) (fun _ => ?_)
    · exact x_vret C E dX0_note_33 rfl
    · refine x_aload_n 12 C dX0_note_11 0 rfl rfl rfl ?_
      refine x_getR (c := (S + 1)) 15 C dX0_note_12 fl_X0_11 hS rfl (of_0_0 hS) rfl ?_
      refine x_iload_n 16 C dX0_note_15 1 rfl rfl rfl ?_
      refine x_iload_n 17 C dX0_note_16 2 rfl rfl rfl ?_
      refine x_iast 18 C dX0_note_17 (ok_0_0 hS) (ol_0_0 hS) rfl (fun h1 => ?_)
      refine x_aload_n 19 C dX0_note_18 0 rfl rfl rfl ?_
      refine x_getR (c := (S + 2)) 22 C dX0_note_19 fl_X0_15 hS rfl (of_0_1 hS) rfl ?_
      refine x_iload_n 23 C dX0_note_22 1 rfl rfl rfl ?_
      refine x_iload_n 24 C dX0_note_23 3 rfl rfl rfl ?_
      refine x_iast 25 C dX0_note_24 (ok_0_1 hS) (ol_0_1 hS) rfl (fun h2 => ?_)
      refine x_aload_n 26 C dX0_note_25 0 rfl rfl rfl ?_
      refine x_getR (c := (S + 3)) 29 C dX0_note_26 fl_X0_18 hS rfl (of_0_2 hS) rfl ?_
      refine x_iload_n 30 C dX0_note_29 1 rfl rfl rfl ?_
      refine x_iload 32 C dX0_note_30 4 rfl rfl ?_
      refine x_iast 33 C dX0_note_32 (ok_0_2 hS) (ol_0_2 hS) rfl (fun h3 => ?_)
      exact x_vret C E dX0_note_33 rfl

def f_X0_noteSway (h : Hp) (S : Nat) (a1 : Int32) (a2 : Int32) : Option Hp :=
  if a1 < 0 then (
    some h)
  else (
    if (24 : Int32) ≤ a1 then (
      some h)
    else (
      ck a1 24 (nm (ux h (S + 4) a1 a2) fun h1 =>
      some h1)))
theorem dX0_noteSway_0 : decode cX0_noteSway 0 = .ok (.iload_n 1, 1) := by decide +kernel
theorem dX0_noteSway_1 : decode cX0_noteSway 1 = .ok (.ifCond .lt 16, 3) := by decide +kernel
theorem dX0_noteSway_4 : decode cX0_noteSway 4 = .ok (.iload_n 1, 1) := by decide +kernel
theorem dX0_noteSway_5 : decode cX0_noteSway 5 = .ok (.bipush 24, 2) := by decide +kernel
theorem dX0_noteSway_7 : decode cX0_noteSway 7 = .ok (.if_icmp .ge 10, 3) := by decide +kernel
theorem dX0_noteSway_10 : decode cX0_noteSway 10 = .ok (.aload_n 0, 1) := by decide +kernel
theorem dX0_noteSway_11 : decode cX0_noteSway 11 = .ok (.getfield 21, 3) := by decide +kernel
theorem dX0_noteSway_14 : decode cX0_noteSway 14 = .ok (.iload_n 1, 1) := by decide +kernel
theorem dX0_noteSway_15 : decode cX0_noteSway 15 = .ok (.iload_n 2, 1) := by decide +kernel
theorem dX0_noteSway_16 : decode cX0_noteSway 16 = .ok (.iastore, 1) := by decide +kernel
theorem dX0_noteSway_17 : decode cX0_noteSway 17 = .ok (.return_, 1) := by decide +kernel
set_option maxRecDepth 20000 in
theorem m_X0_noteSway {h : Hp} {S : Nat} {a1 : Int32} {a2 : Int32} (hS : sk S = 0) {u : Hp} (hu : f_X0_noteSway h S a1 a2 = some u) : Ct yX0_noteSway cX0_noteSway 3 none 0 [.ref S, .int a1, .int a2] h (eV u) := by
  refine ct_of eV hu (by decide) (Nat.le_of_ble_eq_true rfl) (fun κ hn C E => ?_)
  unfold f_X0_noteSway
  show Xz κ _ 0 [(0, .ref S), (1, .int a1), (2, .int a2)] [] h
  refine x_iload_n 1 C dX0_noteSway_0 1 rfl rfl rfl ?_
  refine x_if_lt 4 17 C dX0_noteSway_1 (by decide) rfl (fun _ => ?_) (fun _ => ?_)
  · exact x_vret C E dX0_noteSway_17 rfl
  · refine x_iload_n 5 C dX0_noteSway_4 1 rfl rfl rfl ?_
    refine x_bipush 7 C dX0_noteSway_5 cb_24 rfl ?_
    refine x_icmp_ge 10 17 C dX0_noteSway_7 (by decide) rfl (fun _ => ?_) (fun _ => ?_)
    · exact x_vret C E dX0_noteSway_17 rfl
    · refine x_aload_n 11 C dX0_noteSway_10 0 rfl rfl rfl ?_
      refine x_getR (c := (S + 4)) 14 C dX0_noteSway_11 fl_X0_21 hS rfl (of_0_3 hS) rfl ?_
      refine x_iload_n 15 C dX0_noteSway_14 1 rfl rfl rfl ?_
      refine x_iload_n 16 C dX0_noteSway_15 2 rfl rfl rfl ?_
      refine x_iast 17 C dX0_noteSway_16 (ok_0_3 hS) (ol_0_3 hS) rfl (fun h1 => ?_)
      exact x_vret C E dX0_noteSway_17 rfl

def f_X0_rowOf (a1 : Int32) (a2 : Int32) : Option Int32 :=
  lt1 (fun (x1 : Int32) =>
    if x1 = 0 then (
      some (-1 : Int32))
    else (
      some ((a1 * (6 : Int32)) + a2))) fun k1 =>
  lt1 (fun (u2 : Int32) =>
    k1 (0 : Int32)) fun k2 =>
  if a1 < 0 then (
    k2 (0 : Int32))
  else (
    if (24 : Int32) ≤ a1 then (
      k2 (0 : Int32))
    else (
      if a2 < 0 then (
        k2 (0 : Int32))
      else (
        if (6 : Int32) ≤ a2 then (
          k2 (0 : Int32))
        else (
          k1 (1 : Int32)))))
theorem dX0_rowOf_0 : decode cX0_rowOf 0 = .ok (.iload_n 0, 1) := by decide +kernel
theorem dX0_rowOf_1 : decode cX0_rowOf 1 = .ok (.ifCond .lt 23, 3) := by decide +kernel
theorem dX0_rowOf_4 : decode cX0_rowOf 4 = .ok (.iload_n 0, 1) := by decide +kernel
theorem dX0_rowOf_5 : decode cX0_rowOf 5 = .ok (.bipush 24, 2) := by decide +kernel
theorem dX0_rowOf_7 : decode cX0_rowOf 7 = .ok (.if_icmp .ge 17, 3) := by decide +kernel
theorem dX0_rowOf_10 : decode cX0_rowOf 10 = .ok (.iload_n 1, 1) := by decide +kernel
theorem dX0_rowOf_11 : decode cX0_rowOf 11 = .ok (.ifCond .lt 13, 3) := by decide +kernel
theorem dX0_rowOf_14 : decode cX0_rowOf 14 = .ok (.iload_n 1, 1) := by decide +kernel
theorem dX0_rowOf_15 : decode cX0_rowOf 15 = .ok (.bipush 6, 2) := by decide +kernel
theorem dX0_rowOf_17 : decode cX0_rowOf 17 = .ok (.if_icmp .ge 7, 3) := by decide +kernel
theorem dX0_rowOf_20 : decode cX0_rowOf 20 = .ok (.iconst 1, 1) := by decide +kernel
theorem dX0_rowOf_21 : decode cX0_rowOf 21 = .ok (.goto 4, 3) := by decide +kernel
theorem dX0_rowOf_24 : decode cX0_rowOf 24 = .ok (.iconst 0, 1) := by decide +kernel
theorem dX0_rowOf_25 : decode cX0_rowOf 25 = .ok (.istore_n 2, 1) := by decide +kernel
theorem dX0_rowOf_26 : decode cX0_rowOf 26 = .ok (.iload_n 2, 1) := by decide +kernel
theorem dX0_rowOf_27 : decode cX0_rowOf 27 = .ok (.ifCond .eq 12, 3) := by decide +kernel
theorem dX0_rowOf_30 : decode cX0_rowOf 30 = .ok (.iload_n 0, 1) := by decide +kernel
theorem dX0_rowOf_31 : decode cX0_rowOf 31 = .ok (.bipush 6, 2) := by decide +kernel
theorem dX0_rowOf_33 : decode cX0_rowOf 33 = .ok (.imul, 1) := by decide +kernel
theorem dX0_rowOf_34 : decode cX0_rowOf 34 = .ok (.iload_n 1, 1) := by decide +kernel
theorem dX0_rowOf_35 : decode cX0_rowOf 35 = .ok (.iadd, 1) := by decide +kernel
theorem dX0_rowOf_36 : decode cX0_rowOf 36 = .ok (.goto 4, 3) := by decide +kernel
theorem dX0_rowOf_39 : decode cX0_rowOf 39 = .ok (.iconst (-1), 1) := by decide +kernel
theorem dX0_rowOf_40 : decode cX0_rowOf 40 = .ok (.ireturn, 1) := by decide +kernel
set_option maxRecDepth 20000 in
theorem m_X0_rowOf {h : Hp} {a1 : Int32} {a2 : Int32}  {u : Int32} (hu : f_X0_rowOf a1 a2 = some u) : Ct yX0_rowOf cX0_rowOf 3 (some .int) 0 [.int a1, .int a2] h ((rI h) u) := by
  refine ct_of (rI h) hu (by decide) (Nat.le_of_ble_eq_true rfl) (fun κ hn C E => ?_)
  have n2 : 2 < kn κ := by rw [hn]; decide
  unfold f_X0_rowOf
  show Xz κ _ 0 [(0, .int a1), (1, .int a2)] [] h
  refine x_iload_n 1 C dX0_rowOf_0 0 rfl rfl rfl ?_
  refine x_lt1 (q := 25) (ls := fun x1 => [(0, .int a1), (1, .int a2)]) (st := fun x1 => [.int x1]) (hh := fun x1 => h) (fun x1 => ?_) (fun k1 J1 => ?_)
  · refine x_istore_n 26 [(2, .int x1), (0, .int a1), (1, .int a2)] C dX0_rowOf_25 n2 rfl rfl rfl ?_
    refine x_iload_n 27 C dX0_rowOf_26 0 rfl rfl rfl ?_
    refine x_if_eq 30 39 C dX0_rowOf_27 (by decide) rfl (fun _ => ?_) (fun _ => ?_)
    · refine x_iconst 40 C dX0_rowOf_39 ci_m1 rfl ?_
      exact x_iret C E dX0_rowOf_40 rfl
    · refine x_iload_n 31 C dX0_rowOf_30 1 rfl rfl rfl ?_
      refine x_bipush 33 C dX0_rowOf_31 cb_6 rfl ?_
      refine x_imul 34 C dX0_rowOf_33 rfl ?_
      refine x_iload_n 35 C dX0_rowOf_34 2 rfl rfl rfl ?_
      refine x_iadd 36 C dX0_rowOf_35 rfl ?_
      refine x_goto 40 C dX0_rowOf_36 (by decide) ?_
      exact x_iret C E dX0_rowOf_40 rfl
  refine x_lt1 (q := 24) (ls := fun u2 => [(0, .int a1), (1, .int a2)]) (st := fun u2 => []) (hh := fun u2 => h) (fun u2 => ?_) (fun k2 J2 => ?_)
  · refine x_iconst 25 C dX0_rowOf_24 ci_0 rfl ?_
    exact x_ls [0, 1] rfl (J1 (0 : Int32))
  refine x_if_lt 4 24 C dX0_rowOf_1 (by decide) rfl (fun _ => ?_) (fun _ => ?_)
  · exact x_ls [0, 1] rfl (J2 (0 : Int32))
  · refine x_iload_n 5 C dX0_rowOf_4 0 rfl rfl rfl ?_
    refine x_bipush 7 C dX0_rowOf_5 cb_24 rfl ?_
    refine x_icmp_ge 10 24 C dX0_rowOf_7 (by decide) rfl (fun _ => ?_) (fun _ => ?_)
    · exact x_ls [0, 1] rfl (J2 (0 : Int32))
    · refine x_iload_n 11 C dX0_rowOf_10 1 rfl rfl rfl ?_
      refine x_if_lt 14 24 C dX0_rowOf_11 (by decide) rfl (fun _ => ?_) (fun _ => ?_)
      · exact x_ls [0, 1] rfl (J2 (0 : Int32))
      · refine x_iload_n 15 C dX0_rowOf_14 1 rfl rfl rfl ?_
        refine x_bipush 17 C dX0_rowOf_15 cb_6 rfl ?_
        refine x_icmp_ge 20 24 C dX0_rowOf_17 (by decide) rfl (fun _ => ?_) (fun _ => ?_)
        · exact x_ls [0, 1] rfl (J2 (0 : Int32))
        · refine x_iconst 21 C dX0_rowOf_20 ci_1 rfl ?_
          refine x_goto 25 C dX0_rowOf_21 (by decide) ?_
          exact x_ls [0, 1] rfl (J1 (1 : Int32))

def f_X0_stateBehind (h : Hp) (S : Nat) (a1 : Int32) (a2 : Int32) : Option Int32 :=
  bdr (f_X0_rowOf a1 a2) fun x1 =>
  if x1 = (-1 : Int32) then (
    some (0 : Int32))
  else (
    ck x1 144 (
      some (ia h (S + 1) x1)))
theorem dX0_stateBehind_0 : decode cX0_stateBehind 0 = .ok (.iload_n 1, 1) := by decide +kernel
theorem dX0_stateBehind_1 : decode cX0_stateBehind 1 = .ok (.iload_n 2, 1) := by decide +kernel
theorem dX0_stateBehind_2 : decode cX0_stateBehind 2 = .ok (.invokestatic 24, 3) := by decide +kernel
theorem dX0_stateBehind_5 : decode cX0_stateBehind 5 = .ok (.istore_n 3, 1) := by decide +kernel
theorem dX0_stateBehind_6 : decode cX0_stateBehind 6 = .ok (.iload_n 3, 1) := by decide +kernel
theorem dX0_stateBehind_7 : decode cX0_stateBehind 7 = .ok (.iconst (-1), 1) := by decide +kernel
theorem dX0_stateBehind_8 : decode cX0_stateBehind 8 = .ok (.if_icmp .ne 7, 3) := by decide +kernel
theorem dX0_stateBehind_11 : decode cX0_stateBehind 11 = .ok (.iconst 0, 1) := by decide +kernel
theorem dX0_stateBehind_12 : decode cX0_stateBehind 12 = .ok (.goto 9, 3) := by decide +kernel
theorem dX0_stateBehind_15 : decode cX0_stateBehind 15 = .ok (.aload_n 0, 1) := by decide +kernel
theorem dX0_stateBehind_16 : decode cX0_stateBehind 16 = .ok (.getfield 11, 3) := by decide +kernel
theorem dX0_stateBehind_19 : decode cX0_stateBehind 19 = .ok (.iload_n 3, 1) := by decide +kernel
theorem dX0_stateBehind_20 : decode cX0_stateBehind 20 = .ok (.iaload, 1) := by decide +kernel
theorem dX0_stateBehind_21 : decode cX0_stateBehind 21 = .ok (.ireturn, 1) := by decide +kernel
set_option maxRecDepth 20000 in
theorem m_X0_stateBehind {h : Hp} {S : Nat} {a1 : Int32} {a2 : Int32} (hS : sk S = 0) {u : Int32} (hu : f_X0_stateBehind h S a1 a2 = some u) : Ct yX0_stateBehind cX0_stateBehind 4 (some .int) 1 [.ref S, .int a1, .int a2] h ((rI h) u) := by
  refine ct_of (rI h) hu (by decide) (Nat.le_of_ble_eq_true rfl) (fun κ hn C E => ?_)
  have n3 : 3 < kn κ := by rw [hn]; decide
  unfold f_X0_stateBehind
  show Xz κ _ 0 [(0, .ref S), (1, .int a1), (2, .int a2)] [] h
  refine x_iload_n 1 C dX0_stateBehind_0 1 rfl rfl rfl ?_
  refine x_iload_n 2 C dX0_stateBehind_1 2 rfl rfl rfl ?_
  refine x_csi 5 [.int a1, .int a2] [] C 0 dX0_stateBehind_2 s_X0_24 (fun u hu => m_X0_rowOf hu) rfl rfl (Nat.le_of_ble_eq_true rfl) (Nat.le_of_ble_eq_true rfl) rfl (fun x1 => ?_)
  refine x_istore_n 6 [(3, .int x1), (0, .ref S), (1, .int a1), (2, .int a2)] C dX0_stateBehind_5 n3 rfl rfl rfl ?_
  refine x_iload_n 7 C dX0_stateBehind_6 0 rfl rfl rfl ?_
  refine x_iconst 8 C dX0_stateBehind_7 ci_m1 rfl ?_
  refine x_icmp_ne 11 15 C dX0_stateBehind_8 (by decide) rfl (fun _ => ?_) (fun _ => ?_)
  · refine x_aload_n 16 C dX0_stateBehind_15 1 rfl rfl rfl ?_
    refine x_getR (c := (S + 1)) 19 C dX0_stateBehind_16 fl_X0_11 hS rfl (of_0_0 hS) rfl ?_
    refine x_iload_n 20 C dX0_stateBehind_19 0 rfl rfl rfl ?_
    refine x_iald 21 C dX0_stateBehind_20 (ok_0_0 hS) (ol_0_0 hS) rfl ?_
    exact x_iret C E dX0_stateBehind_21 rfl
  · refine x_iconst 12 C dX0_stateBehind_11 ci_0 rfl ?_
    refine x_goto 21 C dX0_stateBehind_12 (by decide) ?_
    exact x_iret C E dX0_stateBehind_21 rfl

def f_X0_placeBehind (h : Hp) (S : Nat) (a1 : Int32) (a2 : Int32) : Option Int32 :=
  bdr (f_X0_rowOf a1 a2) fun x1 =>
  if x1 = (-1 : Int32) then (
    some (-1 : Int32))
  else (
    ck x1 144 (
      some (ia h (S + 2) x1)))
theorem dX0_placeBehind_0 : decode cX0_placeBehind 0 = .ok (.iload_n 1, 1) := by decide +kernel
theorem dX0_placeBehind_1 : decode cX0_placeBehind 1 = .ok (.iload_n 2, 1) := by decide +kernel
theorem dX0_placeBehind_2 : decode cX0_placeBehind 2 = .ok (.invokestatic 24, 3) := by decide +kernel
theorem dX0_placeBehind_5 : decode cX0_placeBehind 5 = .ok (.istore_n 3, 1) := by decide +kernel
theorem dX0_placeBehind_6 : decode cX0_placeBehind 6 = .ok (.iload_n 3, 1) := by decide +kernel
theorem dX0_placeBehind_7 : decode cX0_placeBehind 7 = .ok (.iconst (-1), 1) := by decide +kernel
theorem dX0_placeBehind_8 : decode cX0_placeBehind 8 = .ok (.if_icmp .ne 7, 3) := by decide +kernel
theorem dX0_placeBehind_11 : decode cX0_placeBehind 11 = .ok (.iconst (-1), 1) := by decide +kernel
theorem dX0_placeBehind_12 : decode cX0_placeBehind 12 = .ok (.goto 9, 3) := by decide +kernel
theorem dX0_placeBehind_15 : decode cX0_placeBehind 15 = .ok (.aload_n 0, 1) := by decide +kernel
theorem dX0_placeBehind_16 : decode cX0_placeBehind 16 = .ok (.getfield 15, 3) := by decide +kernel
theorem dX0_placeBehind_19 : decode cX0_placeBehind 19 = .ok (.iload_n 3, 1) := by decide +kernel
theorem dX0_placeBehind_20 : decode cX0_placeBehind 20 = .ok (.iaload, 1) := by decide +kernel
theorem dX0_placeBehind_21 : decode cX0_placeBehind 21 = .ok (.ireturn, 1) := by decide +kernel
set_option maxRecDepth 20000 in
theorem m_X0_placeBehind {h : Hp} {S : Nat} {a1 : Int32} {a2 : Int32} (hS : sk S = 0) {u : Int32} (hu : f_X0_placeBehind h S a1 a2 = some u) : Ct yX0_placeBehind cX0_placeBehind 4 (some .int) 1 [.ref S, .int a1, .int a2] h ((rI h) u) := by
  refine ct_of (rI h) hu (by decide) (Nat.le_of_ble_eq_true rfl) (fun κ hn C E => ?_)
  have n3 : 3 < kn κ := by rw [hn]; decide
  unfold f_X0_placeBehind
  show Xz κ _ 0 [(0, .ref S), (1, .int a1), (2, .int a2)] [] h
  refine x_iload_n 1 C dX0_placeBehind_0 1 rfl rfl rfl ?_
  refine x_iload_n 2 C dX0_placeBehind_1 2 rfl rfl rfl ?_
  refine x_csi 5 [.int a1, .int a2] [] C 0 dX0_placeBehind_2 s_X0_24 (fun u hu => m_X0_rowOf hu) rfl rfl (Nat.le_of_ble_eq_true rfl) (Nat.le_of_ble_eq_true rfl) rfl (fun x1 => ?_)
  refine x_istore_n 6 [(3, .int x1), (0, .ref S), (1, .int a1), (2, .int a2)] C dX0_placeBehind_5 n3 rfl rfl rfl ?_
  refine x_iload_n 7 C dX0_placeBehind_6 0 rfl rfl rfl ?_
  refine x_iconst 8 C dX0_placeBehind_7 ci_m1 rfl ?_
  refine x_icmp_ne 11 15 C dX0_placeBehind_8 (by decide) rfl (fun _ => ?_) (fun _ => ?_)
  · refine x_aload_n 16 C dX0_placeBehind_15 1 rfl rfl rfl ?_
    refine x_getR (c := (S + 2)) 19 C dX0_placeBehind_16 fl_X0_15 hS rfl (of_0_1 hS) rfl ?_
    refine x_iload_n 20 C dX0_placeBehind_19 0 rfl rfl rfl ?_
    refine x_iald 21 C dX0_placeBehind_20 (ok_0_1 hS) (ol_0_1 hS) rfl ?_
    exact x_iret C E dX0_placeBehind_21 rfl
  · refine x_iconst 12 C dX0_placeBehind_11 ci_m1 rfl ?_
    refine x_goto 21 C dX0_placeBehind_12 (by decide) ?_
    exact x_iret C E dX0_placeBehind_21 rfl

def f_X0_leanBehind (h : Hp) (S : Nat) (a1 : Int32) (a2 : Int32) : Option Int32 :=
  bdr (f_X0_rowOf a1 a2) fun x1 =>
  if x1 = (-1 : Int32) then (
    some (0 : Int32))
  else (
    ck x1 144 (
      some (ia h (S + 3) x1)))
theorem dX0_leanBehind_0 : decode cX0_leanBehind 0 = .ok (.iload_n 1, 1) := by decide +kernel
theorem dX0_leanBehind_1 : decode cX0_leanBehind 1 = .ok (.iload_n 2, 1) := by decide +kernel
theorem dX0_leanBehind_2 : decode cX0_leanBehind 2 = .ok (.invokestatic 24, 3) := by decide +kernel
theorem dX0_leanBehind_5 : decode cX0_leanBehind 5 = .ok (.istore_n 3, 1) := by decide +kernel
theorem dX0_leanBehind_6 : decode cX0_leanBehind 6 = .ok (.iload_n 3, 1) := by decide +kernel
theorem dX0_leanBehind_7 : decode cX0_leanBehind 7 = .ok (.iconst (-1), 1) := by decide +kernel
theorem dX0_leanBehind_8 : decode cX0_leanBehind 8 = .ok (.if_icmp .ne 7, 3) := by decide +kernel
theorem dX0_leanBehind_11 : decode cX0_leanBehind 11 = .ok (.iconst 0, 1) := by decide +kernel
theorem dX0_leanBehind_12 : decode cX0_leanBehind 12 = .ok (.goto 9, 3) := by decide +kernel
theorem dX0_leanBehind_15 : decode cX0_leanBehind 15 = .ok (.aload_n 0, 1) := by decide +kernel
theorem dX0_leanBehind_16 : decode cX0_leanBehind 16 = .ok (.getfield 18, 3) := by decide +kernel
theorem dX0_leanBehind_19 : decode cX0_leanBehind 19 = .ok (.iload_n 3, 1) := by decide +kernel
theorem dX0_leanBehind_20 : decode cX0_leanBehind 20 = .ok (.iaload, 1) := by decide +kernel
theorem dX0_leanBehind_21 : decode cX0_leanBehind 21 = .ok (.ireturn, 1) := by decide +kernel
set_option maxRecDepth 20000 in
theorem m_X0_leanBehind {h : Hp} {S : Nat} {a1 : Int32} {a2 : Int32} (hS : sk S = 0) {u : Int32} (hu : f_X0_leanBehind h S a1 a2 = some u) : Ct yX0_leanBehind cX0_leanBehind 4 (some .int) 1 [.ref S, .int a1, .int a2] h ((rI h) u) := by
  refine ct_of (rI h) hu (by decide) (Nat.le_of_ble_eq_true rfl) (fun κ hn C E => ?_)
  have n3 : 3 < kn κ := by rw [hn]; decide
  unfold f_X0_leanBehind
  show Xz κ _ 0 [(0, .ref S), (1, .int a1), (2, .int a2)] [] h
  refine x_iload_n 1 C dX0_leanBehind_0 1 rfl rfl rfl ?_
  refine x_iload_n 2 C dX0_leanBehind_1 2 rfl rfl rfl ?_
  refine x_csi 5 [.int a1, .int a2] [] C 0 dX0_leanBehind_2 s_X0_24 (fun u hu => m_X0_rowOf hu) rfl rfl (Nat.le_of_ble_eq_true rfl) (Nat.le_of_ble_eq_true rfl) rfl (fun x1 => ?_)
  refine x_istore_n 6 [(3, .int x1), (0, .ref S), (1, .int a1), (2, .int a2)] C dX0_leanBehind_5 n3 rfl rfl rfl ?_
  refine x_iload_n 7 C dX0_leanBehind_6 0 rfl rfl rfl ?_
  refine x_iconst 8 C dX0_leanBehind_7 ci_m1 rfl ?_
  refine x_icmp_ne 11 15 C dX0_leanBehind_8 (by decide) rfl (fun _ => ?_) (fun _ => ?_)
  · refine x_aload_n 16 C dX0_leanBehind_15 1 rfl rfl rfl ?_
    refine x_getR (c := (S + 3)) 19 C dX0_leanBehind_16 fl_X0_18 hS rfl (of_0_2 hS) rfl ?_
    refine x_iload_n 20 C dX0_leanBehind_19 0 rfl rfl rfl ?_
    refine x_iald 21 C dX0_leanBehind_20 (ok_0_2 hS) (ol_0_2 hS) rfl ?_
    exact x_iret C E dX0_leanBehind_21 rfl
  · refine x_iconst 12 C dX0_leanBehind_11 ci_0 rfl ?_
    refine x_goto 21 C dX0_leanBehind_12 (by decide) ?_
    exact x_iret C E dX0_leanBehind_21 rfl

def f_X0_markOfPlaces (h : Hp) (S : Nat) (a1 : Int32) (a2 : Int32) : Option Int64 :=
  fx2 FU (fun s1 (l1 : Int64) (x2 : Int32) =>
    if a2 ≤ x2 then (
      some l1)
    else (
      bdr (f_X0_rowOf a1 x2) fun x3 =>
      lt1 (fun (x4 : Int32) =>
        nm ((l1 <<< ((6 : Int32).toInt64 &&& 63)) ||| (x4.toInt64)) fun l5 =>
        nm (x2 + (1 : Int32)) fun x6 =>
        s1 l5 x6) fun k2 =>
      if x3 = (-1 : Int32) then (
        k2 (0 : Int32))
      else (
        ck x3 144 (
          k2 ((ia h (S + 2) x3) + (1 : Int32)))))) (0 : Int64) (0 : Int32)
theorem dX0_markOfPlaces_0 : decode cX0_markOfPlaces 0 = .ok (.lconst 0, 1) := by decide +kernel
theorem dX0_markOfPlaces_1 : decode cX0_markOfPlaces 1 = .ok (.lstore_n 3, 1) := by decide +kernel
theorem dX0_markOfPlaces_2 : decode cX0_markOfPlaces 2 = .ok (.iconst 0, 1) := by decide +kernel
theorem dX0_markOfPlaces_3 : decode cX0_markOfPlaces 3 = .ok (.istore 5, 2) := by decide +kernel
theorem dX0_markOfPlaces_5 : decode cX0_markOfPlaces 5 = .ok (.iload 5, 2) := by decide +kernel
theorem dX0_markOfPlaces_7 : decode cX0_markOfPlaces 7 = .ok (.iload_n 2, 1) := by decide +kernel
theorem dX0_markOfPlaces_8 : decode cX0_markOfPlaces 8 = .ok (.if_icmp .ge 43, 3) := by decide +kernel
theorem dX0_markOfPlaces_11 : decode cX0_markOfPlaces 11 = .ok (.iload_n 1, 1) := by decide +kernel
theorem dX0_markOfPlaces_12 : decode cX0_markOfPlaces 12 = .ok (.iload 5, 2) := by decide +kernel
theorem dX0_markOfPlaces_14 : decode cX0_markOfPlaces 14 = .ok (.invokestatic 24, 3) := by decide +kernel
theorem dX0_markOfPlaces_17 : decode cX0_markOfPlaces 17 = .ok (.istore 6, 2) := by decide +kernel
theorem dX0_markOfPlaces_19 : decode cX0_markOfPlaces 19 = .ok (.lload_n 3, 1) := by decide +kernel
theorem dX0_markOfPlaces_20 : decode cX0_markOfPlaces 20 = .ok (.bipush 6, 2) := by decide +kernel
theorem dX0_markOfPlaces_22 : decode cX0_markOfPlaces 22 = .ok (.lshl, 1) := by decide +kernel
theorem dX0_markOfPlaces_23 : decode cX0_markOfPlaces 23 = .ok (.iload 6, 2) := by decide +kernel
theorem dX0_markOfPlaces_25 : decode cX0_markOfPlaces 25 = .ok (.iconst (-1), 1) := by decide +kernel
theorem dX0_markOfPlaces_26 : decode cX0_markOfPlaces 26 = .ok (.if_icmp .ne 7, 3) := by decide +kernel
theorem dX0_markOfPlaces_29 : decode cX0_markOfPlaces 29 = .ok (.iconst 0, 1) := by decide +kernel
theorem dX0_markOfPlaces_30 : decode cX0_markOfPlaces 30 = .ok (.goto 12, 3) := by decide +kernel
theorem dX0_markOfPlaces_33 : decode cX0_markOfPlaces 33 = .ok (.aload_n 0, 1) := by decide +kernel
theorem dX0_markOfPlaces_34 : decode cX0_markOfPlaces 34 = .ok (.getfield 15, 3) := by decide +kernel
theorem dX0_markOfPlaces_37 : decode cX0_markOfPlaces 37 = .ok (.iload 6, 2) := by decide +kernel
theorem dX0_markOfPlaces_39 : decode cX0_markOfPlaces 39 = .ok (.iaload, 1) := by decide +kernel
theorem dX0_markOfPlaces_40 : decode cX0_markOfPlaces 40 = .ok (.iconst 1, 1) := by decide +kernel
theorem dX0_markOfPlaces_41 : decode cX0_markOfPlaces 41 = .ok (.iadd, 1) := by decide +kernel
theorem dX0_markOfPlaces_42 : decode cX0_markOfPlaces 42 = .ok (.i2l, 1) := by decide +kernel
theorem dX0_markOfPlaces_43 : decode cX0_markOfPlaces 43 = .ok (.lor, 1) := by decide +kernel
theorem dX0_markOfPlaces_44 : decode cX0_markOfPlaces 44 = .ok (.lstore_n 3, 1) := by decide +kernel
theorem dX0_markOfPlaces_45 : decode cX0_markOfPlaces 45 = .ok (.iinc 5 1, 3) := by decide +kernel
theorem dX0_markOfPlaces_48 : decode cX0_markOfPlaces 48 = .ok (.goto (-43), 3) := by decide +kernel
theorem dX0_markOfPlaces_51 : decode cX0_markOfPlaces 51 = .ok (.lload_n 3, 1) := by decide +kernel
theorem dX0_markOfPlaces_52 : decode cX0_markOfPlaces 52 = .ok (.lreturn, 1) := by decide +kernel
set_option maxRecDepth 20000 in
theorem m_X0_markOfPlaces {h : Hp} {S : Nat} {a1 : Int32} {a2 : Int32} (hS : sk S = 0) {u : Int64} (hu : f_X0_markOfPlaces h S a1 a2 = some u) : Ct yX0_markOfPlaces cX0_markOfPlaces 7 (some .long) 1 [.ref S, .int a1, .int a2] h ((rL h) u) := by
  refine ct_of (rL h) hu (by decide) (Nat.le_of_ble_eq_true rfl) (fun κ hn C E => ?_)
  have n4 : 4 < kn κ := by rw [hn]; decide
  have n5 : 5 < kn κ := by rw [hn]; decide
  have n6 : 6 < kn κ := by rw [hn]; decide
  unfold f_X0_markOfPlaces
  show Xz κ _ 0 [(0, .ref S), (1, .int a1), (2, .int a2)] [] h
  refine x_lconst 1 C dX0_markOfPlaces_0 cl_0 rfl ?_
  refine x_lstore_n 2 [(3, .long (0 : Int64)), (0, .ref S), (1, .int a1), (2, .int a2)] C dX0_markOfPlaces_1 n4 rfl rfl rfl ?_
  refine x_iconst 3 C dX0_markOfPlaces_2 ci_0 rfl ?_
  refine x_istore 5 [(5, .int (0 : Int32)), (3, .long (0 : Int64)), (0, .ref S), (1, .int a1), (2, .int a2)] C dX0_markOfPlaces_3 n5 rfl rfl ?_
  refine x_ls [2, 3, 4, 1, 0] rfl (x_fx2 (ls := fun l1 x2 => [(0, .ref S), (1, .int a1), (2, .int a2), (3, .long l1), (5, .int x2)]) (st := fun l1 x2 => []) (hh := fun l1 x2 => h) (fun s1 J1 l1 x2 => ?_))
  refine x_iload 7 C dX0_markOfPlaces_5 4 rfl rfl ?_
  refine x_iload_n 8 C dX0_markOfPlaces_7 2 rfl rfl rfl ?_
  refine x_icmp_ge 11 51 C dX0_markOfPlaces_8 (by decide) rfl (fun _ => ?_) (fun _ => ?_)
  · refine x_lload_n 52 C dX0_markOfPlaces_51 3 rfl rfl rfl ?_
    exact x_lret C E dX0_markOfPlaces_52 rfl
  · refine x_iload_n 12 C dX0_markOfPlaces_11 1 rfl rfl rfl ?_
    refine x_iload 14 C dX0_markOfPlaces_12 4 rfl rfl ?_
    refine x_csi 17 [.int a1, .int x2] [] C 0 dX0_markOfPlaces_14 s_X0_24 (fun u hu => m_X0_rowOf hu) rfl rfl (Nat.le_of_ble_eq_true rfl) (Nat.le_of_ble_eq_true rfl) rfl (fun x3 => ?_)
    refine x_istore 19 [(6, .int x3), (0, .ref S), (1, .int a1), (2, .int a2), (3, .long l1), (5, .int x2)] C dX0_markOfPlaces_17 n6 rfl rfl ?_
    refine x_lload_n 20 C dX0_markOfPlaces_19 4 rfl rfl rfl ?_
    refine x_bipush 22 C dX0_markOfPlaces_20 cb_6 rfl ?_
    refine x_lshl 23 C dX0_markOfPlaces_22 rfl ?_
    refine x_iload 25 C dX0_markOfPlaces_23 0 rfl rfl ?_
    refine x_iconst 26 C dX0_markOfPlaces_25 ci_m1 rfl ?_
    refine x_lt1 (q := 42) (ls := fun x4 => [(0, .ref S), (1, .int a1), (2, .int a2), (5, .int x2)]) (st := fun x4 => [.int x4, .long (l1 <<< ((6 : Int32).toInt64 &&& 63))]) (hh := fun x4 => h) (fun x4 => ?_) (fun k2 J2 => ?_)
    · refine x_i2l 43 C dX0_markOfPlaces_42 rfl ?_
      refine x_lor 44 C dX0_markOfPlaces_43 rfl ?_
      refine x_nl (fun l5 => ?_)
      refine x_lstore_n 45 [(3, .long l5), (0, .ref S), (1, .int a1), (2, .int a2), (5, .int x2)] C dX0_markOfPlaces_44 n4 rfl rfl rfl ?_
      refine x_iinc 48 (fun x6 => [(5, .int x6), (3, .long l5), (0, .ref S), (1, .int a1), (2, .int a2)]) C dX0_markOfPlaces_45 4 rfl ci_1 n5 (fun _ => rfl) rfl (fun x6 => ?_)
      refine x_goto 5 C dX0_markOfPlaces_48 (by decide) ?_
      exact x_ls [2, 3, 4, 1, 0] rfl (J1 l5 x6)
    refine x_icmp_ne 29 33 C dX0_markOfPlaces_26 (by decide) rfl (fun _ => ?_) (fun _ => ?_)
    · refine x_aload_n 34 C dX0_markOfPlaces_33 1 rfl rfl rfl ?_
      refine x_getR (c := (S + 2)) 37 C dX0_markOfPlaces_34 fl_X0_15 hS rfl (of_0_1 hS) rfl ?_
      refine x_iload 39 C dX0_markOfPlaces_37 0 rfl rfl ?_
      refine x_iald 40 C dX0_markOfPlaces_39 (ok_0_1 hS) (ol_0_1 hS) rfl ?_
      refine x_iconst 41 C dX0_markOfPlaces_40 ci_1 rfl ?_
      refine x_iadd 42 C dX0_markOfPlaces_41 rfl ?_
      exact x_ls [1, 2, 3, 5] rfl (J2 ((ia h (S + 2) x3) + (1 : Int32)))
    · refine x_iconst 30 C dX0_markOfPlaces_29 ci_0 rfl ?_
      refine x_goto 42 C dX0_markOfPlaces_30 (by decide) ?_
      exact x_ls [1, 2, 3, 5] rfl (J2 (0 : Int32))

def f_X1_makeNew (h : Hp) (S : Nat) (a1 : Int32) (a2 : Int32) : Option Hp :=
  bdv (f_J7_fill_53178 h (S + 1) (0 : Int32)) fun h1 =>
  nm (uf h1 S 1 (0 : Int32)) fun h2 =>
  nm (uf h2 S 2 a1) fun h3 =>
  nm (uf h3 S 3 (jmax (0 : Int32) (jmin a2 (60 : Int32)))) fun h4 =>
  some h4
theorem dX1_makeNew_0 : decode cX1_makeNew 0 = .ok (.aload_n 0, 1) := by decide +kernel
theorem dX1_makeNew_1 : decode cX1_makeNew 1 = .ok (.getfield 9, 3) := by decide +kernel
theorem dX1_makeNew_4 : decode cX1_makeNew 4 = .ok (.iconst 0, 1) := by decide +kernel
theorem dX1_makeNew_5 : decode cX1_makeNew 5 = .ok (.invokestatic 26, 3) := by decide +kernel
theorem dX1_makeNew_8 : decode cX1_makeNew 8 = .ok (.aload_n 0, 1) := by decide +kernel
theorem dX1_makeNew_9 : decode cX1_makeNew 9 = .ok (.iconst 0, 1) := by decide +kernel
theorem dX1_makeNew_10 : decode cX1_makeNew 10 = .ok (.putfield 15, 3) := by decide +kernel
theorem dX1_makeNew_13 : decode cX1_makeNew 13 = .ok (.aload_n 0, 1) := by decide +kernel
theorem dX1_makeNew_14 : decode cX1_makeNew 14 = .ok (.iload_n 1, 1) := by decide +kernel
theorem dX1_makeNew_15 : decode cX1_makeNew 15 = .ok (.putfield 19, 3) := by decide +kernel
theorem dX1_makeNew_18 : decode cX1_makeNew 18 = .ok (.aload_n 0, 1) := by decide +kernel
theorem dX1_makeNew_19 : decode cX1_makeNew 19 = .ok (.iconst 0, 1) := by decide +kernel
theorem dX1_makeNew_20 : decode cX1_makeNew 20 = .ok (.iload_n 2, 1) := by decide +kernel
theorem dX1_makeNew_21 : decode cX1_makeNew 21 = .ok (.bipush 60, 2) := by decide +kernel
theorem dX1_makeNew_23 : decode cX1_makeNew 23 = .ok (.invokestatic 32, 3) := by decide +kernel
theorem dX1_makeNew_26 : decode cX1_makeNew 26 = .ok (.invokestatic 38, 3) := by decide +kernel
theorem dX1_makeNew_29 : decode cX1_makeNew 29 = .ok (.putfield 23, 3) := by decide +kernel
theorem dX1_makeNew_32 : decode cX1_makeNew 32 = .ok (.return_, 1) := by decide +kernel
set_option maxRecDepth 20000 in
theorem m_X1_makeNew {h : Hp} {S : Nat} {a1 : Int32} {a2 : Int32} (hS : sk S = 1) {u : Hp} (hu : f_X1_makeNew h S a1 a2 = some u) : Ct yX1_makeNew cX1_makeNew 3 none 1 [.ref S, .int a1, .int a2] h (eV u) := by
  refine ct_of eV hu (by decide) (Nat.le_of_ble_eq_true rfl) (fun κ hn C E => ?_)
  unfold f_X1_makeNew
  show Xz κ _ 0 [(0, .ref S), (1, .int a1), (2, .int a2)] [] h
  refine x_aload_n 1 C dX1_makeNew_0 0 rfl rfl rfl ?_
  refine x_getR (c := (S + 1)) 4 C dX1_makeNew_1 fl_X1_9 hS rfl (of_1_0 hS) rfl ?_
  refine x_iconst 5 C dX1_makeNew_4 ci_0 rfl ?_
  refine x_csV 8 [.ref (S + 1), .int (0 : Int32)] [] C 0 dX1_makeNew_5 s_X1_26 (fun u hu => m_J7_fill_53178 (ok_1_0 hS) hu) rfl rfl (Nat.le_of_ble_eq_true rfl) (Nat.le_of_ble_eq_true rfl) rfl (fun h1 => ?_)
  refine x_aload_n 9 C dX1_makeNew_8 0 rfl rfl rfl ?_
  refine x_iconst 10 C dX1_makeNew_9 ci_0 rfl ?_
  refine x_put 13 C dX1_makeNew_10 fp_X1_15 hS rfl rfl rfl rfl (fun h2 => ?_)
  refine x_aload_n 14 C dX1_makeNew_13 0 rfl rfl rfl ?_
  refine x_iload_n 15 C dX1_makeNew_14 1 rfl rfl rfl ?_
  refine x_put 18 C dX1_makeNew_15 fp_X1_19 hS rfl rfl rfl rfl (fun h3 => ?_)
  refine x_aload_n 19 C dX1_makeNew_18 0 rfl rfl rfl ?_
  refine x_iconst 20 C dX1_makeNew_19 ci_0 rfl ?_
  refine x_iload_n 21 C dX1_makeNew_20 2 rfl rfl rfl ?_
  refine x_bipush 23 C dX1_makeNew_21 cb_60 rfl ?_
  refine x_mmin 26 C dX1_makeNew_23 mw_X1_32 w_st_min w_in_Math w_co_min (Nat.le_of_ble_eq_true rfl) (Nat.le_of_ble_eq_true rfl) rfl ?_
  refine x_mmax 29 C dX1_makeNew_26 mw_X1_38 w_st_max w_in_Math w_co_max (Nat.le_of_ble_eq_true rfl) (Nat.le_of_ble_eq_true rfl) rfl ?_
  refine x_put 32 C dX1_makeNew_29 fp_X1_23 hS rfl rfl rfl rfl (fun h4 => ?_)
  exact x_vret C E dX1_makeNew_32 rfl

def f_X1_fitted (h : Hp) (S : Nat) (a1 : Int32) : Option Int32 :=
  if (h.1 S 2) = 0 then (
    some (a1.toInt8.toInt32))
  else (
    if (h.1 S 2) = (1 : Int32) then (
      some (a1.toInt16.toInt32))
    else (
      some a1))
theorem dX1_fitted_0 : decode cX1_fitted 0 = .ok (.aload_n 0, 1) := by decide +kernel
theorem dX1_fitted_1 : decode cX1_fitted 1 = .ok (.getfield 19, 3) := by decide +kernel
theorem dX1_fitted_4 : decode cX1_fitted 4 = .ok (.ifCond .ne 6, 3) := by decide +kernel
theorem dX1_fitted_7 : decode cX1_fitted 7 = .ok (.iload_n 1, 1) := by decide +kernel
theorem dX1_fitted_8 : decode cX1_fitted 8 = .ok (.i2b, 1) := by decide +kernel
theorem dX1_fitted_9 : decode cX1_fitted 9 = .ok (.ireturn, 1) := by decide +kernel
theorem dX1_fitted_10 : decode cX1_fitted 10 = .ok (.aload_n 0, 1) := by decide +kernel
theorem dX1_fitted_11 : decode cX1_fitted 11 = .ok (.getfield 19, 3) := by decide +kernel
theorem dX1_fitted_14 : decode cX1_fitted 14 = .ok (.iconst 1, 1) := by decide +kernel
theorem dX1_fitted_15 : decode cX1_fitted 15 = .ok (.if_icmp .ne 8, 3) := by decide +kernel
theorem dX1_fitted_18 : decode cX1_fitted 18 = .ok (.iload_n 1, 1) := by decide +kernel
theorem dX1_fitted_19 : decode cX1_fitted 19 = .ok (.i2s, 1) := by decide +kernel
theorem dX1_fitted_20 : decode cX1_fitted 20 = .ok (.goto 4, 3) := by decide +kernel
theorem dX1_fitted_23 : decode cX1_fitted 23 = .ok (.iload_n 1, 1) := by decide +kernel
theorem dX1_fitted_24 : decode cX1_fitted 24 = .ok (.ireturn, 1) := by decide +kernel
set_option maxRecDepth 20000 in
theorem m_X1_fitted {h : Hp} {S : Nat} {a1 : Int32} (hS : sk S = 1) {u : Int32} (hu : f_X1_fitted h S a1 = some u) : Ct yX1_fitted cX1_fitted 2 (some .int) 0 [.ref S, .int a1] h ((rI h) u) := by
  refine ct_of (rI h) hu (by decide) (Nat.le_of_ble_eq_true rfl) (fun κ hn C E => ?_)
  unfold f_X1_fitted
  show Xz κ _ 0 [(0, .ref S), (1, .int a1)] [] h
  refine x_aload_n 1 C dX1_fitted_0 0 rfl rfl rfl ?_
  refine x_getI 4 C dX1_fitted_1 fl_X1_19 hS rfl rfl ?_
  refine x_if_ne 7 10 C dX1_fitted_4 (by decide) rfl (fun _ => ?_) (fun _ => ?_)
  · refine x_aload_n 11 C dX1_fitted_10 0 rfl rfl rfl ?_
    refine x_getI 14 C dX1_fitted_11 fl_X1_19 hS rfl rfl ?_
    refine x_iconst 15 C dX1_fitted_14 ci_1 rfl ?_
    refine x_icmp_ne 18 23 C dX1_fitted_15 (by decide) rfl (fun _ => ?_) (fun _ => ?_)
    · refine x_iload_n 24 C dX1_fitted_23 1 rfl rfl rfl ?_
      exact x_iret C E dX1_fitted_24 rfl
    · refine x_iload_n 19 C dX1_fitted_18 1 rfl rfl rfl ?_
      refine x_i2s 20 C dX1_fitted_19 rfl ?_
      refine x_goto 24 C dX1_fitted_20 (by decide) ?_
      exact x_iret C E dX1_fitted_24 rfl
  · refine x_iload_n 8 C dX1_fitted_7 1 rfl rfl rfl ?_
    refine x_i2b 9 C dX1_fitted_8 rfl ?_
    exact x_iret C E dX1_fitted_9 rfl

def f_X1_put (h : Hp) (S : Nat) (a1 : Int32) (a2 : Int32) : Option Hp :=
  if a1 < 0 then (
    some h)
  else (
    if (h.1 S 3) ≤ a1 then (
      some h)
    else (
      if (60 : Int32) ≤ a1 then (
        some h)
      else (
        bdr (f_X1_fitted h S a2) fun x1 =>
        ck a1 60 (nm (ux h (S + 1) a1 x1) fun h2 =>
        some h2))))
theorem dX1_put_0 : decode cX1_put 0 = .ok (.iload_n 1, 1) := by decide +kernel
theorem dX1_put_1 : decode cX1_put 1 = .ok (.ifCond .lt 28, 3) := by decide +kernel
theorem dX1_put_4 : decode cX1_put 4 = .ok (.iload_n 1, 1) := by decide +kernel
theorem dX1_put_5 : decode cX1_put 5 = .ok (.aload_n 0, 1) := by decide +kernel
theorem dX1_put_6 : decode cX1_put 6 = .ok (.getfield 23, 3) := by decide +kernel
theorem dX1_put_9 : decode cX1_put 9 = .ok (.if_icmp .ge 20, 3) := by decide +kernel
theorem dX1_put_12 : decode cX1_put 12 = .ok (.iload_n 1, 1) := by decide +kernel
theorem dX1_put_13 : decode cX1_put 13 = .ok (.bipush 60, 2) := by decide +kernel
theorem dX1_put_15 : decode cX1_put 15 = .ok (.if_icmp .ge 14, 3) := by decide +kernel
theorem dX1_put_18 : decode cX1_put 18 = .ok (.aload_n 0, 1) := by decide +kernel
theorem dX1_put_19 : decode cX1_put 19 = .ok (.getfield 9, 3) := by decide +kernel
theorem dX1_put_22 : decode cX1_put 22 = .ok (.iload_n 1, 1) := by decide +kernel
theorem dX1_put_23 : decode cX1_put 23 = .ok (.aload_n 0, 1) := by decide +kernel
theorem dX1_put_24 : decode cX1_put 24 = .ok (.iload_n 2, 1) := by decide +kernel
theorem dX1_put_25 : decode cX1_put 25 = .ok (.invokevirtual 41, 3) := by decide +kernel
theorem dX1_put_28 : decode cX1_put 28 = .ok (.iastore, 1) := by decide +kernel
theorem dX1_put_29 : decode cX1_put 29 = .ok (.return_, 1) := by decide +kernel
set_option maxRecDepth 20000 in
theorem m_X1_put {h : Hp} {S : Nat} {a1 : Int32} {a2 : Int32} (hS : sk S = 1) {u : Hp} (hu : f_X1_put h S a1 a2 = some u) : Ct yX1_put cX1_put 3 none 1 [.ref S, .int a1, .int a2] h (eV u) := by
  refine ct_of eV hu (by decide) (Nat.le_of_ble_eq_true rfl) (fun κ hn C E => ?_)
  unfold f_X1_put
  show Xz κ _ 0 [(0, .ref S), (1, .int a1), (2, .int a2)] [] h
  refine x_iload_n 1 C dX1_put_0 1 rfl rfl rfl ?_
  refine x_if_lt 4 29 C dX1_put_1 (by decide) rfl (fun _ => ?_) (fun _ => ?_)
  · exact x_vret C E dX1_put_29 rfl
  · refine x_iload_n 5 C dX1_put_4 1 rfl rfl rfl ?_
    refine x_aload_n 6 C dX1_put_5 0 rfl rfl rfl ?_
    refine x_getI 9 C dX1_put_6 fl_X1_23 hS rfl rfl ?_
    refine x_icmp_ge 12 29 C dX1_put_9 (by decide) rfl (fun _ => ?_) (fun _ => ?_)
    · exact x_vret C E dX1_put_29 rfl
    · refine x_iload_n 13 C dX1_put_12 1 rfl rfl rfl ?_
      refine x_bipush 15 C dX1_put_13 cb_60 rfl ?_
      refine x_icmp_ge 18 29 C dX1_put_15 (by decide) rfl (fun _ => ?_) (fun _ => ?_)
      · exact x_vret C E dX1_put_29 rfl
      · refine x_aload_n 19 C dX1_put_18 0 rfl rfl rfl ?_
        refine x_getR (c := (S + 1)) 22 C dX1_put_19 fl_X1_9 hS rfl (of_1_0 hS) rfl ?_
        refine x_iload_n 23 C dX1_put_22 1 rfl rfl rfl ?_
        refine x_aload_n 24 C dX1_put_23 0 rfl rfl rfl ?_
        refine x_iload_n 25 C dX1_put_24 2 rfl rfl rfl ?_
        refine x_cvi 28 [.int a2] [.int a1, .ref (S + 1)] C 0 dX1_put_25 v_X1_41 (fun u hu => m_X1_fitted hS hu) rfl hS rfl (Nat.le_of_ble_eq_true rfl) (Nat.le_of_ble_eq_true rfl) rfl (fun x1 => ?_)
        refine x_iast 29 C dX1_put_28 (ok_1_0 hS) (ol_1_0 hS) rfl (fun h2 => ?_)
        exact x_vret C E dX1_put_29 rfl

def f_X1_hasRun (h : Hp) (S : Nat) (a1 : Int32) (a2 : Int32) : Option Int32 :=
  if a1 < 0 then (
    some (0 : Int32))
  else (
    if a2 < 0 then (
      some (0 : Int32))
    else (
      if (h.1 S 3) < a2 then (
        some (0 : Int32))
      else (
        if ((h.1 S 3) - a2) < a1 then (
          some (0 : Int32))
        else (
          some (1 : Int32)))))
theorem dX1_hasRun_0 : decode cX1_hasRun 0 = .ok (.iload_n 1, 1) := by decide +kernel
theorem dX1_hasRun_1 : decode cX1_hasRun 1 = .ok (.ifCond .lt 29, 3) := by decide +kernel
theorem dX1_hasRun_4 : decode cX1_hasRun 4 = .ok (.iload_n 2, 1) := by decide +kernel
theorem dX1_hasRun_5 : decode cX1_hasRun 5 = .ok (.ifCond .lt 25, 3) := by decide +kernel
theorem dX1_hasRun_8 : decode cX1_hasRun 8 = .ok (.iload_n 2, 1) := by decide +kernel
theorem dX1_hasRun_9 : decode cX1_hasRun 9 = .ok (.aload_n 0, 1) := by decide +kernel
theorem dX1_hasRun_10 : decode cX1_hasRun 10 = .ok (.getfield 23, 3) := by decide +kernel
theorem dX1_hasRun_13 : decode cX1_hasRun 13 = .ok (.if_icmp .gt 17, 3) := by decide +kernel
theorem dX1_hasRun_16 : decode cX1_hasRun 16 = .ok (.iload_n 1, 1) := by decide +kernel
theorem dX1_hasRun_17 : decode cX1_hasRun 17 = .ok (.aload_n 0, 1) := by decide +kernel
theorem dX1_hasRun_18 : decode cX1_hasRun 18 = .ok (.getfield 23, 3) := by decide +kernel
theorem dX1_hasRun_21 : decode cX1_hasRun 21 = .ok (.iload_n 2, 1) := by decide +kernel
theorem dX1_hasRun_22 : decode cX1_hasRun 22 = .ok (.isub, 1) := by decide +kernel
theorem dX1_hasRun_23 : decode cX1_hasRun 23 = .ok (.if_icmp .gt 7, 3) := by decide +kernel
theorem dX1_hasRun_26 : decode cX1_hasRun 26 = .ok (.iconst 1, 1) := by decide +kernel
theorem dX1_hasRun_27 : decode cX1_hasRun 27 = .ok (.goto 4, 3) := by decide +kernel
theorem dX1_hasRun_30 : decode cX1_hasRun 30 = .ok (.iconst 0, 1) := by decide +kernel
theorem dX1_hasRun_31 : decode cX1_hasRun 31 = .ok (.ireturn, 1) := by decide +kernel
set_option maxRecDepth 20000 in
theorem m_X1_hasRun {h : Hp} {S : Nat} {a1 : Int32} {a2 : Int32} (hS : sk S = 1) {u : Int32} (hu : f_X1_hasRun h S a1 a2 = some u) : Ct yX1_hasRun cX1_hasRun 3 (some .boolean) 0 [.ref S, .int a1, .int a2] h ((rI h) u) := by
  refine ct_of (rI h) hu (by decide) (Nat.le_of_ble_eq_true rfl) (fun κ hn C E => ?_)
  unfold f_X1_hasRun
  show Xz κ _ 0 [(0, .ref S), (1, .int a1), (2, .int a2)] [] h
  refine x_iload_n 1 C dX1_hasRun_0 1 rfl rfl rfl ?_
  refine x_if_lt 4 30 C dX1_hasRun_1 (by decide) rfl (fun _ => ?_) (fun _ => ?_)
  · refine x_iconst 31 C dX1_hasRun_30 ci_0 rfl ?_
    exact x_zret C E dX1_hasRun_31 (Or.inl rfl) rfl
  · refine x_iload_n 5 C dX1_hasRun_4 2 rfl rfl rfl ?_
    refine x_if_lt 8 30 C dX1_hasRun_5 (by decide) rfl (fun _ => ?_) (fun _ => ?_)
    · refine x_iconst 31 C dX1_hasRun_30 ci_0 rfl ?_
      exact x_zret C E dX1_hasRun_31 (Or.inl rfl) rfl
    · refine x_iload_n 9 C dX1_hasRun_8 2 rfl rfl rfl ?_
      refine x_aload_n 10 C dX1_hasRun_9 0 rfl rfl rfl ?_
      refine x_getI 13 C dX1_hasRun_10 fl_X1_23 hS rfl rfl ?_
      refine x_icmp_gt 16 30 C dX1_hasRun_13 (by decide) rfl (fun _ => ?_) (fun _ => ?_)
      · refine x_iconst 31 C dX1_hasRun_30 ci_0 rfl ?_
        exact x_zret C E dX1_hasRun_31 (Or.inl rfl) rfl
      · refine x_iload_n 17 C dX1_hasRun_16 1 rfl rfl rfl ?_
        refine x_aload_n 18 C dX1_hasRun_17 0 rfl rfl rfl ?_
        refine x_getI 21 C dX1_hasRun_18 fl_X1_23 hS rfl rfl ?_
        refine x_iload_n 22 C dX1_hasRun_21 2 rfl rfl rfl ?_
        refine x_isub 23 C dX1_hasRun_22 rfl ?_
        refine x_icmp_gt 26 30 C dX1_hasRun_23 (by decide) rfl (fun _ => ?_) (fun _ => ?_)
        · refine x_iconst 31 C dX1_hasRun_30 ci_0 rfl ?_
          exact x_zret C E dX1_hasRun_31 (Or.inl rfl) rfl
        · refine x_iconst 27 C dX1_hasRun_26 ci_1 rfl ?_
          refine x_goto 31 C dX1_hasRun_27 (by decide) ?_
          exact x_zret C E dX1_hasRun_31 (Or.inr rfl) rfl

def f_X2_noteBeat (h : Hp) (S : Nat) (a1 : Int32) (a2 : Int32) (a3 : Int32) : Option Hp :=
  bdv (f_X0_noteSway h (S + 5) a1 a2) fun h1 =>
  fx2 FU (fun s1 (h2 : Hp) (x3 : Int32) =>
    if a3 ≤ x3 then (
      some h2)
    else (
      if (6 : Int32) ≤ x3 then (
        some h2)
      else (
        ck x3 6 (
          ck x3 6 (
            ck x3 6 (
              bdv (f_X0_note h2 (S + 5) ((a1 * (6 : Int32)) + x3) (ia h2 (S + 10) x3) (ia h2 (S + 11) x3) (ia h2 (S + 12) x3)) fun h4 =>
              nm (x3 + (1 : Int32)) fun x5 =>
              s1 h4 x5)))))) h1 (0 : Int32)
theorem dX2_noteBeat_0 : decode cX2_noteBeat 0 = .ok (.aload_n 0, 1) := by decide +kernel
theorem dX2_noteBeat_1 : decode cX2_noteBeat 1 = .ok (.getfield 21, 3) := by decide +kernel
theorem dX2_noteBeat_4 : decode cX2_noteBeat 4 = .ok (.iload_n 1, 1) := by decide +kernel
theorem dX2_noteBeat_5 : decode cX2_noteBeat 5 = .ok (.iload_n 2, 1) := by decide +kernel
theorem dX2_noteBeat_6 : decode cX2_noteBeat 6 = .ok (.invokevirtual 141, 3) := by decide +kernel
theorem dX2_noteBeat_9 : decode cX2_noteBeat 9 = .ok (.iconst 0, 1) := by decide +kernel
theorem dX2_noteBeat_10 : decode cX2_noteBeat 10 = .ok (.istore 4, 2) := by decide +kernel
theorem dX2_noteBeat_12 : decode cX2_noteBeat 12 = .ok (.iload 4, 2) := by decide +kernel
theorem dX2_noteBeat_14 : decode cX2_noteBeat 14 = .ok (.iload_n 3, 1) := by decide +kernel
theorem dX2_noteBeat_15 : decode cX2_noteBeat 15 = .ok (.if_icmp .ge 51, 3) := by decide +kernel
theorem dX2_noteBeat_18 : decode cX2_noteBeat 18 = .ok (.iload 4, 2) := by decide +kernel
theorem dX2_noteBeat_20 : decode cX2_noteBeat 20 = .ok (.bipush 6, 2) := by decide +kernel
theorem dX2_noteBeat_22 : decode cX2_noteBeat 22 = .ok (.if_icmp .ge 44, 3) := by decide +kernel
theorem dX2_noteBeat_25 : decode cX2_noteBeat 25 = .ok (.aload_n 0, 1) := by decide +kernel
theorem dX2_noteBeat_26 : decode cX2_noteBeat 26 = .ok (.getfield 21, 3) := by decide +kernel
theorem dX2_noteBeat_29 : decode cX2_noteBeat 29 = .ok (.iload_n 1, 1) := by decide +kernel
theorem dX2_noteBeat_30 : decode cX2_noteBeat 30 = .ok (.bipush 6, 2) := by decide +kernel
theorem dX2_noteBeat_32 : decode cX2_noteBeat 32 = .ok (.imul, 1) := by decide +kernel
theorem dX2_noteBeat_33 : decode cX2_noteBeat 33 = .ok (.iload 4, 2) := by decide +kernel
theorem dX2_noteBeat_35 : decode cX2_noteBeat 35 = .ok (.iadd, 1) := by decide +kernel
theorem dX2_noteBeat_36 : decode cX2_noteBeat 36 = .ok (.aload_n 0, 1) := by decide +kernel
theorem dX2_noteBeat_37 : decode cX2_noteBeat 37 = .ok (.getfield 25, 3) := by decide +kernel
theorem dX2_noteBeat_40 : decode cX2_noteBeat 40 = .ok (.iload 4, 2) := by decide +kernel
theorem dX2_noteBeat_42 : decode cX2_noteBeat 42 = .ok (.iaload, 1) := by decide +kernel
theorem dX2_noteBeat_43 : decode cX2_noteBeat 43 = .ok (.aload_n 0, 1) := by decide +kernel
theorem dX2_noteBeat_44 : decode cX2_noteBeat 44 = .ok (.getfield 29, 3) := by decide +kernel
theorem dX2_noteBeat_47 : decode cX2_noteBeat 47 = .ok (.iload 4, 2) := by decide +kernel
theorem dX2_noteBeat_49 : decode cX2_noteBeat 49 = .ok (.iaload, 1) := by decide +kernel
theorem dX2_noteBeat_50 : decode cX2_noteBeat 50 = .ok (.aload_n 0, 1) := by decide +kernel
theorem dX2_noteBeat_51 : decode cX2_noteBeat 51 = .ok (.getfield 32, 3) := by decide +kernel
theorem dX2_noteBeat_54 : decode cX2_noteBeat 54 = .ok (.iload 4, 2) := by decide +kernel
theorem dX2_noteBeat_56 : decode cX2_noteBeat 56 = .ok (.iaload, 1) := by decide +kernel
theorem dX2_noteBeat_57 : decode cX2_noteBeat 57 = .ok (.invokevirtual 145, 3) := by decide +kernel
theorem dX2_noteBeat_60 : decode cX2_noteBeat 60 = .ok (.iinc 4 1, 3) := by decide +kernel
theorem dX2_noteBeat_63 : decode cX2_noteBeat 63 = .ok (.goto (-51), 3) := by decide +kernel
theorem dX2_noteBeat_66 : decode cX2_noteBeat 66 = .ok (.return_, 1) := by decide +kernel
set_option maxRecDepth 20000 in
theorem m_X2_noteBeat {h : Hp} {S : Nat} {a1 : Int32} {a2 : Int32} {a3 : Int32} (hS : sk S = 2) {u : Hp} (hu : f_X2_noteBeat h S a1 a2 a3 = some u) : Ct yX2_noteBeat cX2_noteBeat 5 none 1 [.ref S, .int a1, .int a2, .int a3] h (eV u) := by
  refine ct_of eV hu (by decide) (Nat.le_of_ble_eq_true rfl) (fun κ hn C E => ?_)
  have n4 : 4 < kn κ := by rw [hn]; decide
  unfold f_X2_noteBeat
  show Xz κ _ 0 [(0, .ref S), (1, .int a1), (2, .int a2), (3, .int a3)] [] h
  refine x_aload_n 1 C dX2_noteBeat_0 0 rfl rfl rfl ?_
  refine x_getR (c := (S + 5)) 4 C dX2_noteBeat_1 fl_X2_21 hS rfl (of_2_1 hS) rfl ?_
  refine x_iload_n 5 C dX2_noteBeat_4 1 rfl rfl rfl ?_
  refine x_iload_n 6 C dX2_noteBeat_5 2 rfl rfl rfl ?_
  refine x_cvV 9 [.int a1, .int a2] [] C 0 dX2_noteBeat_6 v_X2_141 (fun u hu => m_X0_noteSway (ok_2_1 hS) hu) rfl (ok_2_1 hS) rfl (Nat.le_of_ble_eq_true rfl) (Nat.le_of_ble_eq_true rfl) rfl (fun h1 => ?_)
  refine x_iconst 10 C dX2_noteBeat_9 ci_0 rfl ?_
  refine x_istore 12 [(4, .int (0 : Int32)), (0, .ref S), (1, .int a1), (2, .int a2), (3, .int a3)] C dX2_noteBeat_10 n4 rfl rfl ?_
  refine x_ls [1, 2, 4, 0] rfl (x_fx2 (ls := fun h2 x3 => [(0, .ref S), (1, .int a1), (3, .int a3), (4, .int x3)]) (st := fun h2 x3 => []) (hh := fun h2 x3 => h2) (fun s1 J1 h2 x3 => ?_))
  refine x_iload 14 C dX2_noteBeat_12 3 rfl rfl ?_
  refine x_iload_n 15 C dX2_noteBeat_14 2 rfl rfl rfl ?_
  refine x_icmp_ge 18 66 C dX2_noteBeat_15 (by decide) rfl (fun _ => ?_) (fun _ => ?_)
  · exact x_vret C E dX2_noteBeat_66 rfl
  · refine x_iload 20 C dX2_noteBeat_18 3 rfl rfl ?_
    refine x_bipush 22 C dX2_noteBeat_20 cb_6 rfl ?_
    refine x_icmp_ge 25 66 C dX2_noteBeat_22 (by decide) rfl (fun _ => ?_) (fun _ => ?_)
    · exact x_vret C E dX2_noteBeat_66 rfl
    · refine x_aload_n 26 C dX2_noteBeat_25 0 rfl rfl rfl ?_
      refine x_getR (c := (S + 5)) 29 C dX2_noteBeat_26 fl_X2_21 hS rfl (of_2_1 hS) rfl ?_
      refine x_iload_n 30 C dX2_noteBeat_29 1 rfl rfl rfl ?_
      refine x_bipush 32 C dX2_noteBeat_30 cb_6 rfl ?_
      refine x_imul 33 C dX2_noteBeat_32 rfl ?_
      refine x_iload 35 C dX2_noteBeat_33 3 rfl rfl ?_
      refine x_iadd 36 C dX2_noteBeat_35 rfl ?_
      refine x_aload_n 37 C dX2_noteBeat_36 0 rfl rfl rfl ?_
      refine x_getR (c := (S + 10)) 40 C dX2_noteBeat_37 fl_X2_25 hS rfl (of_2_2 hS) rfl ?_
      refine x_iload 42 C dX2_noteBeat_40 3 rfl rfl ?_
      refine x_iald 43 C dX2_noteBeat_42 (ok_2_2 hS) (ol_2_2 hS) rfl ?_
      refine x_aload_n 44 C dX2_noteBeat_43 0 rfl rfl rfl ?_
      refine x_getR (c := (S + 11)) 47 C dX2_noteBeat_44 fl_X2_29 hS rfl (of_2_3 hS) rfl ?_
      refine x_iload 49 C dX2_noteBeat_47 3 rfl rfl ?_
      refine x_iald 50 C dX2_noteBeat_49 (ok_2_3 hS) (ol_2_3 hS) rfl ?_
      refine x_aload_n 51 C dX2_noteBeat_50 0 rfl rfl rfl ?_
      refine x_getR (c := (S + 12)) 54 C dX2_noteBeat_51 fl_X2_32 hS rfl (of_2_4 hS) rfl ?_
      refine x_iload 56 C dX2_noteBeat_54 3 rfl rfl ?_
      refine x_iald 57 C dX2_noteBeat_56 (ok_2_4 hS) (ol_2_4 hS) rfl ?_
      refine x_cvV 60 [.int ((a1 * (6 : Int32)) + x3), .int (ia h2 (S + 10) x3), .int (ia h2 (S + 11) x3), .int (ia h2 (S + 12) x3)] [] C 0 dX2_noteBeat_57 v_X2_145 (fun u hu => m_X0_note (ok_2_1 hS) hu) rfl (ok_2_1 hS) rfl (Nat.le_of_ble_eq_true rfl) (Nat.le_of_ble_eq_true rfl) rfl (fun h4 => ?_)
      refine x_iinc 63 (fun x5 => [(4, .int x5), (0, .ref S), (1, .int a1), (3, .int a3)]) C dX2_noteBeat_60 3 rfl ci_1 n4 (fun _ => rfl) rfl (fun x5 => ?_)
      refine x_goto 12 C dX2_noteBeat_63 (by decide) ?_
      exact x_ls [1, 2, 3, 0] rfl (J1 h4 x5)

def f_X2_dropPoles (h : Hp) (S : Nat) (a1 : Int32) : Option Hp :=
  fx2 FU (fun s1 (h1 : Hp) (x2 : Int32) =>
    if (6 : Int32) ≤ x2 then (
      some h1)
    else (
      lt1 (fun (h3 : Hp) =>
        nm (x2 + (1 : Int32)) fun x4 =>
        s1 h3 x4) fun k2 =>
      if ((a1 >>> (x2 &&& 31)) &&& (1 : Int32)) = (1 : Int32) then (
        ck x2 6 (nm (ux h1 (S + 13) x2 (0 : Int32)) fun h5 =>
        k2 h5))
      else (
        k2 h1))) h (0 : Int32)
theorem dX2_dropPoles_0 : decode cX2_dropPoles 0 = .ok (.iconst 0, 1) := by decide +kernel
theorem dX2_dropPoles_1 : decode cX2_dropPoles 1 = .ok (.istore_n 2, 1) := by decide +kernel
theorem dX2_dropPoles_2 : decode cX2_dropPoles 2 = .ok (.iload_n 2, 1) := by decide +kernel
theorem dX2_dropPoles_3 : decode cX2_dropPoles 3 = .ok (.bipush 6, 2) := by decide +kernel
theorem dX2_dropPoles_5 : decode cX2_dropPoles 5 = .ok (.if_icmp .ge 25, 3) := by decide +kernel
theorem dX2_dropPoles_8 : decode cX2_dropPoles 8 = .ok (.iload_n 1, 1) := by decide +kernel
theorem dX2_dropPoles_9 : decode cX2_dropPoles 9 = .ok (.iload_n 2, 1) := by decide +kernel
theorem dX2_dropPoles_10 : decode cX2_dropPoles 10 = .ok (.ishr, 1) := by decide +kernel
theorem dX2_dropPoles_11 : decode cX2_dropPoles 11 = .ok (.iconst 1, 1) := by decide +kernel
theorem dX2_dropPoles_12 : decode cX2_dropPoles 12 = .ok (.iand, 1) := by decide +kernel
theorem dX2_dropPoles_13 : decode cX2_dropPoles 13 = .ok (.iconst 1, 1) := by decide +kernel
theorem dX2_dropPoles_14 : decode cX2_dropPoles 14 = .ok (.if_icmp .ne 10, 3) := by decide +kernel
theorem dX2_dropPoles_17 : decode cX2_dropPoles 17 = .ok (.aload_n 0, 1) := by decide +kernel
theorem dX2_dropPoles_18 : decode cX2_dropPoles 18 = .ok (.getfield 35, 3) := by decide +kernel
theorem dX2_dropPoles_21 : decode cX2_dropPoles 21 = .ok (.iload_n 2, 1) := by decide +kernel
theorem dX2_dropPoles_22 : decode cX2_dropPoles 22 = .ok (.iconst 0, 1) := by decide +kernel
theorem dX2_dropPoles_23 : decode cX2_dropPoles 23 = .ok (.iastore, 1) := by decide +kernel
theorem dX2_dropPoles_24 : decode cX2_dropPoles 24 = .ok (.iinc 2 1, 3) := by decide +kernel
theorem dX2_dropPoles_27 : decode cX2_dropPoles 27 = .ok (.goto (-25), 3) := by decide +kernel
theorem dX2_dropPoles_30 : decode cX2_dropPoles 30 = .ok (.return_, 1) := by decide +kernel
set_option maxRecDepth 20000 in
theorem m_X2_dropPoles {h : Hp} {S : Nat} {a1 : Int32} (hS : sk S = 2) {u : Hp} (hu : f_X2_dropPoles h S a1 = some u) : Ct yX2_dropPoles cX2_dropPoles 3 none 0 [.ref S, .int a1] h (eV u) := by
  refine ct_of eV hu (by decide) (Nat.le_of_ble_eq_true rfl) (fun κ hn C E => ?_)
  have n2 : 2 < kn κ := by rw [hn]; decide
  unfold f_X2_dropPoles
  show Xz κ _ 0 [(0, .ref S), (1, .int a1)] [] h
  refine x_iconst 1 C dX2_dropPoles_0 ci_0 rfl ?_
  refine x_istore_n 2 [(2, .int (0 : Int32)), (0, .ref S), (1, .int a1)] C dX2_dropPoles_1 n2 rfl rfl rfl ?_
  refine x_ls [1, 2, 0] rfl (x_fx2 (ls := fun h1 x2 => [(0, .ref S), (1, .int a1), (2, .int x2)]) (st := fun h1 x2 => []) (hh := fun h1 x2 => h1) (fun s1 J1 h1 x2 => ?_))
  refine x_iload_n 3 C dX2_dropPoles_2 2 rfl rfl rfl ?_
  refine x_bipush 5 C dX2_dropPoles_3 cb_6 rfl ?_
  refine x_icmp_ge 8 30 C dX2_dropPoles_5 (by decide) rfl (fun _ => ?_) (fun _ => ?_)
  · exact x_vret C E dX2_dropPoles_30 rfl
  · refine x_iload_n 9 C dX2_dropPoles_8 1 rfl rfl rfl ?_
    refine x_iload_n 10 C dX2_dropPoles_9 2 rfl rfl rfl ?_
    refine x_ishr 11 C dX2_dropPoles_10 rfl ?_
    refine x_iconst 12 C dX2_dropPoles_11 ci_1 rfl ?_
    refine x_iand 13 C dX2_dropPoles_12 rfl ?_
    refine x_iconst 14 C dX2_dropPoles_13 ci_1 rfl ?_
    refine x_lt1 (q := 24) (ls := fun h3 => [(0, .ref S), (1, .int a1), (2, .int x2)]) (st := fun h3 => []) (hh := fun h3 => h3) (fun h3 => ?_) (fun k2 J2 => ?_)
    · refine x_iinc 27 (fun x4 => [(2, .int x4), (0, .ref S), (1, .int a1)]) C dX2_dropPoles_24 2 rfl ci_1 n2 (fun _ => rfl) rfl (fun x4 => ?_)
      refine x_goto 2 C dX2_dropPoles_27 (by decide) ?_
      exact x_ls [1, 2, 0] rfl (J1 h3 x4)
    refine x_icmp_ne 17 24 C dX2_dropPoles_14 (by decide) rfl (fun _ => ?_) (fun _ => ?_)
    · exact x_ls [0, 1, 2] rfl (J2 h1)
    · refine x_aload_n 18 C dX2_dropPoles_17 0 rfl rfl rfl ?_
      refine x_getR (c := (S + 13)) 21 C dX2_dropPoles_18 fl_X2_35 hS rfl (of_2_5 hS) rfl ?_
      refine x_iload_n 22 C dX2_dropPoles_21 2 rfl rfl rfl ?_
      refine x_iconst 23 C dX2_dropPoles_22 ci_0 rfl ?_
      refine x_iast 24 C dX2_dropPoles_23 (ok_2_5 hS) (ol_2_5 hS) rfl (fun h5 => ?_)
      exact x_ls [0, 1, 2] rfl (J2 h5)
