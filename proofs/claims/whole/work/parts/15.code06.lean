def f_X7_walker (h : Hp) (a1 : Int32) (a2 : Int32) : Option Int32 :=
  bdr (f_X7_isWalker h a1) fun x1 =>
  if x1 = 0 then (
    some (-2 : Int32))
  else (
    bdr (f_X7_within a2 (0 : Int32) (2 : Int32)) fun x2 =>
    if x2 = 0 then (
      some (-2 : Int32))
    else (
      if a2 = 0 then (
        ck a1 6 (
          some (ia h 6 a1)))
      else (
        if a2 = (1 : Int32) then (
          ck a1 6 (
            some (ia h 7 a1)))
        else (
          ck a1 6 (
            some (ia h 8 a1))))))
theorem dX7_walker_0 : decode cX7_walker 0 = .ok (.aload_n 0, 1) := by decide +kernel
theorem dX7_walker_1 : decode cX7_walker 1 = .ok (.iload_n 1, 1) := by decide +kernel
theorem dX7_walker_2 : decode cX7_walker 2 = .ok (.invokevirtual 113, 3) := by decide +kernel
theorem dX7_walker_5 : decode cX7_walker 5 = .ok (.ifCond .eq 12, 3) := by decide +kernel
theorem dX7_walker_8 : decode cX7_walker 8 = .ok (.iload_n 2, 1) := by decide +kernel
theorem dX7_walker_9 : decode cX7_walker 9 = .ok (.iconst 0, 1) := by decide +kernel
theorem dX7_walker_10 : decode cX7_walker 10 = .ok (.iconst 2, 1) := by decide +kernel
theorem dX7_walker_11 : decode cX7_walker 11 = .ok (.invokestatic 85, 3) := by decide +kernel
theorem dX7_walker_14 : decode cX7_walker 14 = .ok (.ifCond .ne 6, 3) := by decide +kernel
theorem dX7_walker_17 : decode cX7_walker 17 = .ok (.bipush (-2), 2) := by decide +kernel
theorem dX7_walker_19 : decode cX7_walker 19 = .ok (.ireturn, 1) := by decide +kernel
theorem dX7_walker_20 : decode cX7_walker 20 = .ok (.iload_n 2, 1) := by decide +kernel
theorem dX7_walker_21 : decode cX7_walker 21 = .ok (.ifCond .ne 13, 3) := by decide +kernel
theorem dX7_walker_24 : decode cX7_walker 24 = .ok (.aload_n 0, 1) := by decide +kernel
theorem dX7_walker_25 : decode cX7_walker 25 = .ok (.getfield 26, 3) := by decide +kernel
theorem dX7_walker_28 : decode cX7_walker 28 = .ok (.getfield 117, 3) := by decide +kernel
theorem dX7_walker_31 : decode cX7_walker 31 = .ok (.iload_n 1, 1) := by decide +kernel
theorem dX7_walker_32 : decode cX7_walker 32 = .ok (.iaload, 1) := by decide +kernel
theorem dX7_walker_33 : decode cX7_walker 33 = .ok (.ireturn, 1) := by decide +kernel
theorem dX7_walker_34 : decode cX7_walker 34 = .ok (.iload_n 2, 1) := by decide +kernel
theorem dX7_walker_35 : decode cX7_walker 35 = .ok (.iconst 1, 1) := by decide +kernel
theorem dX7_walker_36 : decode cX7_walker 36 = .ok (.if_icmp .ne 15, 3) := by decide +kernel
theorem dX7_walker_39 : decode cX7_walker 39 = .ok (.aload_n 0, 1) := by decide +kernel
theorem dX7_walker_40 : decode cX7_walker 40 = .ok (.getfield 26, 3) := by decide +kernel
theorem dX7_walker_43 : decode cX7_walker 43 = .ok (.getfield 120, 3) := by decide +kernel
theorem dX7_walker_46 : decode cX7_walker 46 = .ok (.iload_n 1, 1) := by decide +kernel
theorem dX7_walker_47 : decode cX7_walker 47 = .ok (.iaload, 1) := by decide +kernel
theorem dX7_walker_48 : decode cX7_walker 48 = .ok (.goto 12, 3) := by decide +kernel
theorem dX7_walker_51 : decode cX7_walker 51 = .ok (.aload_n 0, 1) := by decide +kernel
theorem dX7_walker_52 : decode cX7_walker 52 = .ok (.getfield 26, 3) := by decide +kernel
theorem dX7_walker_55 : decode cX7_walker 55 = .ok (.getfield 123, 3) := by decide +kernel
theorem dX7_walker_58 : decode cX7_walker 58 = .ok (.iload_n 1, 1) := by decide +kernel
theorem dX7_walker_59 : decode cX7_walker 59 = .ok (.iaload, 1) := by decide +kernel
theorem dX7_walker_60 : decode cX7_walker 60 = .ok (.ireturn, 1) := by decide +kernel
set_option maxRecDepth 20000 in
theorem m_X7_walker {h : Hp} {a1 : Int32} {a2 : Int32}  {u : Int32} (hu : f_X7_walker h a1 a2 = some u) : Ct yX7_walker cX7_walker 3 (some .int) 2 [.ref 0, .int a1, .int a2] h ((rI h) u) := by
  refine ct_of (rI h) hu (by decide) (Nat.le_of_ble_eq_true rfl) (fun κ hn C E => ?_)
  unfold f_X7_walker
  show Xz κ _ 0 [(0, .ref 0), (1, .int a1), (2, .int a2)] [] h
  refine x_aload_n 1 C dX7_walker_0 0 rfl rfl rfl ?_
  refine x_iload_n 2 C dX7_walker_1 1 rfl rfl rfl ?_
  refine x_cvi 5 [.int a1] [] C 1 dX7_walker_2 v_X7_113 (fun u hu => m_X7_isWalker hu) rfl sk_0 rfl (Nat.le_of_ble_eq_true rfl) (Nat.le_of_ble_eq_true rfl) rfl (fun x1 => ?_)
  refine x_if_eq 8 17 C dX7_walker_5 (by decide) rfl (fun _ => ?_) (fun _ => ?_)
  · refine x_bipush 19 C dX7_walker_17 cb_m2 rfl ?_
    exact x_iret C E dX7_walker_19 rfl
  · refine x_iload_n 9 C dX7_walker_8 2 rfl rfl rfl ?_
    refine x_iconst 10 C dX7_walker_9 ci_0 rfl ?_
    refine x_iconst 11 C dX7_walker_10 ci_2 rfl ?_
    refine x_csi 14 [.int a2, .int (0 : Int32), .int (2 : Int32)] [] C 0 dX7_walker_11 s_X7_85 (fun u hu => m_X7_within hu) rfl rfl (Nat.le_of_ble_eq_true rfl) (Nat.le_of_ble_eq_true rfl) rfl (fun x2 => ?_)
    refine x_if_ne 17 20 C dX7_walker_14 (by decide) rfl (fun _ => ?_) (fun _ => ?_)
    · refine x_iload_n 21 C dX7_walker_20 2 rfl rfl rfl ?_
      refine x_if_ne 24 34 C dX7_walker_21 (by decide) rfl (fun _ => ?_) (fun _ => ?_)
      · refine x_iload_n 35 C dX7_walker_34 2 rfl rfl rfl ?_
        refine x_iconst 36 C dX7_walker_35 ci_1 rfl ?_
        refine x_icmp_ne 39 51 C dX7_walker_36 (by decide) rfl (fun _ => ?_) (fun _ => ?_)
        · refine x_aload_n 52 C dX7_walker_51 0 rfl rfl rfl ?_
          refine x_getR (c := 5) 55 C dX7_walker_52 fl_X7_26 sk_0 rfl sr_0_2 rfl ?_
          refine x_getR (c := 8) 58 C dX7_walker_55 fl_X7_123 sk_5 rfl sr_5_2 rfl ?_
          refine x_iload_n 59 C dX7_walker_58 1 rfl rfl rfl ?_
          refine x_iald 60 C dX7_walker_59 sk_8 sl_8 rfl ?_
          exact x_iret C E dX7_walker_60 rfl
        · refine x_aload_n 40 C dX7_walker_39 0 rfl rfl rfl ?_
          refine x_getR (c := 5) 43 C dX7_walker_40 fl_X7_26 sk_0 rfl sr_0_2 rfl ?_
          refine x_getR (c := 7) 46 C dX7_walker_43 fl_X7_120 sk_5 rfl sr_5_1 rfl ?_
          refine x_iload_n 47 C dX7_walker_46 1 rfl rfl rfl ?_
          refine x_iald 48 C dX7_walker_47 sk_7 sl_7 rfl ?_
          refine x_goto 60 C dX7_walker_48 (by decide) ?_
          exact x_iret C E dX7_walker_60 rfl
      · refine x_aload_n 25 C dX7_walker_24 0 rfl rfl rfl ?_
        refine x_getR (c := 5) 28 C dX7_walker_25 fl_X7_26 sk_0 rfl sr_0_2 rfl ?_
        refine x_getR (c := 6) 31 C dX7_walker_28 fl_X7_117 sk_5 rfl sr_5_0 rfl ?_
        refine x_iload_n 32 C dX7_walker_31 1 rfl rfl rfl ?_
        refine x_iald 33 C dX7_walker_32 sk_6 sl_6 rfl ?_
        exact x_iret C E dX7_walker_33 rfl
    · refine x_bipush 19 C dX7_walker_17 cb_m2 rfl ?_
      exact x_iret C E dX7_walker_19 rfl

def f_X7_routine (h : Hp) (a1 : Int32) : Option Int32 :=
  bdr (f_X7_isBeat a1) fun x1 =>
  if x1 = 0 then (
    some (-2 : Int32))
  else (
    ck a1 24 (
      some (ia h 9 a1)))
theorem dX7_routine_0 : decode cX7_routine 0 = .ok (.iload_n 1, 1) := by decide +kernel
theorem dX7_routine_1 : decode cX7_routine 1 = .ok (.invokestatic 126, 3) := by decide +kernel
theorem dX7_routine_4 : decode cX7_routine 4 = .ok (.ifCond .eq 15, 3) := by decide +kernel
theorem dX7_routine_7 : decode cX7_routine 7 = .ok (.aload_n 0, 1) := by decide +kernel
theorem dX7_routine_8 : decode cX7_routine 8 = .ok (.getfield 26, 3) := by decide +kernel
theorem dX7_routine_11 : decode cX7_routine 11 = .ok (.getfield 129, 3) := by decide +kernel
theorem dX7_routine_14 : decode cX7_routine 14 = .ok (.iload_n 1, 1) := by decide +kernel
theorem dX7_routine_15 : decode cX7_routine 15 = .ok (.iaload, 1) := by decide +kernel
theorem dX7_routine_16 : decode cX7_routine 16 = .ok (.goto 5, 3) := by decide +kernel
theorem dX7_routine_19 : decode cX7_routine 19 = .ok (.bipush (-2), 2) := by decide +kernel
theorem dX7_routine_21 : decode cX7_routine 21 = .ok (.ireturn, 1) := by decide +kernel
set_option maxRecDepth 20000 in
theorem m_X7_routine {h : Hp} {a1 : Int32}  {u : Int32} (hu : f_X7_routine h a1 = some u) : Ct yX7_routine cX7_routine 2 (some .int) 2 [.ref 0, .int a1] h ((rI h) u) := by
  refine ct_of (rI h) hu (by decide) (Nat.le_of_ble_eq_true rfl) (fun κ hn C E => ?_)
  unfold f_X7_routine
  show Xz κ _ 0 [(0, .ref 0), (1, .int a1)] [] h
  refine x_iload_n 1 C dX7_routine_0 1 rfl rfl rfl ?_
  refine x_csi 4 [.int a1] [] C 1 dX7_routine_1 s_X7_126 (fun u hu => m_X7_isBeat hu) rfl rfl (Nat.le_of_ble_eq_true rfl) (Nat.le_of_ble_eq_true rfl) rfl (fun x1 => ?_)
  refine x_if_eq 7 19 C dX7_routine_4 (by decide) rfl (fun _ => ?_) (fun _ => ?_)
  · refine x_bipush 21 C dX7_routine_19 cb_m2 rfl ?_
    exact x_iret C E dX7_routine_21 rfl
  · refine x_aload_n 8 C dX7_routine_7 0 rfl rfl rfl ?_
    refine x_getR (c := 5) 11 C dX7_routine_8 fl_X7_26 sk_0 rfl sr_0_2 rfl ?_
    refine x_getR (c := 9) 14 C dX7_routine_11 fl_X7_129 sk_5 rfl sr_5_3 rfl ?_
    refine x_iload_n 15 C dX7_routine_14 1 rfl rfl rfl ?_
    refine x_iald 16 C dX7_routine_15 sk_9 sl_9 rfl ?_
    refine x_goto 21 C dX7_routine_16 (by decide) ?_
    exact x_iret C E dX7_routine_21 rfl

def f_X7_wire (h : Hp) (a1 : Int32) (a2 : Int32) : Option (Hp × Int32) :=
  lt1 (fun (u1 : Int32) =>
    lt1 (fun (u2 : Int32) =>
      if a1 = (2 : Int32) then (
        bdr (f_X7_within a2 (3 : Int32) (20 : Int32)) fun x3 =>
        if x3 = 0 then (
          some (h, (-2 : Int32)))
        else (
          nm (h.1 5 11) fun x4 =>
          nm (uf h 5 11 a2) fun h5 =>
          bdv (f_X7_forgetShows h5) fun h6 =>
          some (h6, x4)))
      else (
        some (h, (-2 : Int32)))) fun k2 =>
    if a1 = (1 : Int32) then (
      bdr (f_X7_within a2 (0 : Int32) (9 : Int32)) fun x7 =>
      if x7 = 0 then (
        k2 (0 : Int32))
      else (
        nm (h.1 5 10) fun x8 =>
        nm (uf h 5 10 a2) fun h9 =>
        bdv (f_X7_forgetShows h9) fun h10 =>
        some (h10, x8)))
    else (
      k2 (0 : Int32))) fun k1 =>
  if a1 = 0 then (
    bdr (f_X7_within a2 (5 : Int32) (40 : Int32)) fun x11 =>
    if x11 = 0 then (
      k1 (0 : Int32))
    else (
      nm (h.1 5 9) fun x12 =>
      nm (uf h 5 9 a2) fun h13 =>
      bdv (f_X7_forgetShows h13) fun h14 =>
      some (h14, x12)))
  else (
    k1 (0 : Int32))
theorem dX7_wire_0 : decode cX7_wire 0 = .ok (.iload_n 1, 1) := by decide +kernel
theorem dX7_wire_1 : decode cX7_wire 1 = .ok (.ifCond .ne 35, 3) := by decide +kernel
theorem dX7_wire_4 : decode cX7_wire 4 = .ok (.iload_n 2, 1) := by decide +kernel
theorem dX7_wire_5 : decode cX7_wire 5 = .ok (.iconst 5, 1) := by decide +kernel
theorem dX7_wire_6 : decode cX7_wire 6 = .ok (.bipush 40, 2) := by decide +kernel
theorem dX7_wire_8 : decode cX7_wire 8 = .ok (.invokestatic 85, 3) := by decide +kernel
theorem dX7_wire_11 : decode cX7_wire 11 = .ok (.ifCond .eq 25, 3) := by decide +kernel
theorem dX7_wire_14 : decode cX7_wire 14 = .ok (.aload_n 0, 1) := by decide +kernel
theorem dX7_wire_15 : decode cX7_wire 15 = .ok (.getfield 26, 3) := by decide +kernel
theorem dX7_wire_18 : decode cX7_wire 18 = .ok (.getfield 132, 3) := by decide +kernel
theorem dX7_wire_21 : decode cX7_wire 21 = .ok (.istore_n 3, 1) := by decide +kernel
theorem dX7_wire_22 : decode cX7_wire 22 = .ok (.aload_n 0, 1) := by decide +kernel
theorem dX7_wire_23 : decode cX7_wire 23 = .ok (.getfield 26, 3) := by decide +kernel
theorem dX7_wire_26 : decode cX7_wire 26 = .ok (.iload_n 2, 1) := by decide +kernel
theorem dX7_wire_27 : decode cX7_wire 27 = .ok (.putfield 132, 3) := by decide +kernel
theorem dX7_wire_30 : decode cX7_wire 30 = .ok (.aload_n 0, 1) := by decide +kernel
theorem dX7_wire_31 : decode cX7_wire 31 = .ok (.invokevirtual 135, 3) := by decide +kernel
theorem dX7_wire_34 : decode cX7_wire 34 = .ok (.iload_n 3, 1) := by decide +kernel
theorem dX7_wire_35 : decode cX7_wire 35 = .ok (.ireturn, 1) := by decide +kernel
theorem dX7_wire_36 : decode cX7_wire 36 = .ok (.iload_n 1, 1) := by decide +kernel
theorem dX7_wire_37 : decode cX7_wire 37 = .ok (.iconst 1, 1) := by decide +kernel
theorem dX7_wire_38 : decode cX7_wire 38 = .ok (.if_icmp .ne 35, 3) := by decide +kernel
theorem dX7_wire_41 : decode cX7_wire 41 = .ok (.iload_n 2, 1) := by decide +kernel
theorem dX7_wire_42 : decode cX7_wire 42 = .ok (.iconst 0, 1) := by decide +kernel
theorem dX7_wire_43 : decode cX7_wire 43 = .ok (.bipush 9, 2) := by decide +kernel
theorem dX7_wire_45 : decode cX7_wire 45 = .ok (.invokestatic 85, 3) := by decide +kernel
theorem dX7_wire_48 : decode cX7_wire 48 = .ok (.ifCond .eq 25, 3) := by decide +kernel
theorem dX7_wire_51 : decode cX7_wire 51 = .ok (.aload_n 0, 1) := by decide +kernel
theorem dX7_wire_52 : decode cX7_wire 52 = .ok (.getfield 26, 3) := by decide +kernel
theorem dX7_wire_55 : decode cX7_wire 55 = .ok (.getfield 138, 3) := by decide +kernel
theorem dX7_wire_58 : decode cX7_wire 58 = .ok (.istore_n 3, 1) := by decide +kernel
theorem dX7_wire_59 : decode cX7_wire 59 = .ok (.aload_n 0, 1) := by decide +kernel
theorem dX7_wire_60 : decode cX7_wire 60 = .ok (.getfield 26, 3) := by decide +kernel
theorem dX7_wire_63 : decode cX7_wire 63 = .ok (.iload_n 2, 1) := by decide +kernel
theorem dX7_wire_64 : decode cX7_wire 64 = .ok (.putfield 138, 3) := by decide +kernel
theorem dX7_wire_67 : decode cX7_wire 67 = .ok (.aload_n 0, 1) := by decide +kernel
theorem dX7_wire_68 : decode cX7_wire 68 = .ok (.invokevirtual 135, 3) := by decide +kernel
theorem dX7_wire_71 : decode cX7_wire 71 = .ok (.iload_n 3, 1) := by decide +kernel
theorem dX7_wire_72 : decode cX7_wire 72 = .ok (.ireturn, 1) := by decide +kernel
theorem dX7_wire_73 : decode cX7_wire 73 = .ok (.iload_n 1, 1) := by decide +kernel
theorem dX7_wire_74 : decode cX7_wire 74 = .ok (.iconst 2, 1) := by decide +kernel
theorem dX7_wire_75 : decode cX7_wire 75 = .ok (.if_icmp .ne 35, 3) := by decide +kernel
theorem dX7_wire_78 : decode cX7_wire 78 = .ok (.iload_n 2, 1) := by decide +kernel
theorem dX7_wire_79 : decode cX7_wire 79 = .ok (.iconst 3, 1) := by decide +kernel
theorem dX7_wire_80 : decode cX7_wire 80 = .ok (.bipush 20, 2) := by decide +kernel
theorem dX7_wire_82 : decode cX7_wire 82 = .ok (.invokestatic 85, 3) := by decide +kernel
theorem dX7_wire_85 : decode cX7_wire 85 = .ok (.ifCond .eq 25, 3) := by decide +kernel
theorem dX7_wire_88 : decode cX7_wire 88 = .ok (.aload_n 0, 1) := by decide +kernel
theorem dX7_wire_89 : decode cX7_wire 89 = .ok (.getfield 26, 3) := by decide +kernel
theorem dX7_wire_92 : decode cX7_wire 92 = .ok (.getfield 141, 3) := by decide +kernel
theorem dX7_wire_95 : decode cX7_wire 95 = .ok (.istore_n 3, 1) := by decide +kernel
theorem dX7_wire_96 : decode cX7_wire 96 = .ok (.aload_n 0, 1) := by decide +kernel
theorem dX7_wire_97 : decode cX7_wire 97 = .ok (.getfield 26, 3) := by decide +kernel
theorem dX7_wire_100 : decode cX7_wire 100 = .ok (.iload_n 2, 1) := by decide +kernel
theorem dX7_wire_101 : decode cX7_wire 101 = .ok (.putfield 141, 3) := by decide +kernel
theorem dX7_wire_104 : decode cX7_wire 104 = .ok (.aload_n 0, 1) := by decide +kernel
theorem dX7_wire_105 : decode cX7_wire 105 = .ok (.invokevirtual 135, 3) := by decide +kernel
theorem dX7_wire_108 : decode cX7_wire 108 = .ok (.iload_n 3, 1) := by decide +kernel
theorem dX7_wire_109 : decode cX7_wire 109 = .ok (.ireturn, 1) := by decide +kernel
theorem dX7_wire_110 : decode cX7_wire 110 = .ok (.bipush (-2), 2) := by decide +kernel
theorem dX7_wire_112 : decode cX7_wire 112 = .ok (.ireturn, 1) := by decide +kernel
set_option maxRecDepth 20000 in
theorem m_X7_wire {h : Hp} {a1 : Int32} {a2 : Int32}  {u : (Hp × Int32)} (hu : f_X7_wire h a1 a2 = some u) : Ct yX7_wire cX7_wire 4 (some .int) 1 [.ref 0, .int a1, .int a2] h (eI u) := by
  refine ct_of eI hu (by decide) (Nat.le_of_ble_eq_true rfl) (fun κ hn C E => ?_)
  have n3 : 3 < kn κ := by rw [hn]; decide
  unfold f_X7_wire
  show Xz κ _ 0 [(0, .ref 0), (1, .int a1), (2, .int a2)] [] h
  refine x_iload_n 1 C dX7_wire_0 1 rfl rfl rfl ?_
  refine x_lt1 (q := 36) (ls := fun u1 => [(0, .ref 0), (1, .int a1), (2, .int a2)]) (st := fun u1 => []) (hh := fun u1 => h) (fun u1 => ?_) (fun k1 J1 => ?_)
  · refine x_iload_n 37 C dX7_wire_36 1 rfl rfl rfl ?_
    refine x_iconst 38 C dX7_wire_37 ci_1 rfl ?_
    refine x_lt1 (q := 73) (ls := fun u2 => [(0, .ref 0), (1, .int a1), (2, .int a2)]) (st := fun u2 => []) (hh := fun u2 => h) (fun u2 => ?_) (fun k2 J2 => ?_)
    · refine x_iload_n 74 C dX7_wire_73 1 rfl rfl rfl ?_
      refine x_iconst 75 C dX7_wire_74 ci_2 rfl ?_
      refine x_icmp_ne 78 110 C dX7_wire_75 (by decide) rfl (fun _ => ?_) (fun _ => ?_)
      · refine x_bipush 112 C dX7_wire_110 cb_m2 rfl ?_
        exact x_iret C E dX7_wire_112 rfl
      · refine x_iload_n 79 C dX7_wire_78 2 rfl rfl rfl ?_
        refine x_iconst 80 C dX7_wire_79 ci_3 rfl ?_
        refine x_bipush 82 C dX7_wire_80 cb_20 rfl ?_
        refine x_csi 85 [.int a2, .int (3 : Int32), .int (20 : Int32)] [] C 0 dX7_wire_82 s_X7_85 (fun u hu => m_X7_within hu) rfl rfl (Nat.le_of_ble_eq_true rfl) (Nat.le_of_ble_eq_true rfl) rfl (fun x3 => ?_)
        refine x_if_eq 88 110 C dX7_wire_85 (by decide) rfl (fun _ => ?_) (fun _ => ?_)
        · refine x_bipush 112 C dX7_wire_110 cb_m2 rfl ?_
          exact x_iret C E dX7_wire_112 rfl
        · refine x_aload_n 89 C dX7_wire_88 0 rfl rfl rfl ?_
          refine x_getR (c := 5) 92 C dX7_wire_89 fl_X7_26 sk_0 rfl sr_0_2 rfl ?_
          refine x_getI 95 C dX7_wire_92 fl_X7_141 sk_5 rfl rfl ?_
          refine x_ni (fun x4 => ?_)
          refine x_istore_n 96 [(3, .int x4), (0, .ref 0), (1, .int a1), (2, .int a2)] C dX7_wire_95 n3 rfl rfl rfl ?_
          refine x_aload_n 97 C dX7_wire_96 1 rfl rfl rfl ?_
          refine x_getR (c := 5) 100 C dX7_wire_97 fl_X7_26 sk_0 rfl sr_0_2 rfl ?_
          refine x_iload_n 101 C dX7_wire_100 3 rfl rfl rfl ?_
          refine x_put 104 C dX7_wire_101 fp_X7_141 sk_5 rfl rfl rfl rfl (fun h5 => ?_)
          refine x_aload_n 105 C dX7_wire_104 1 rfl rfl rfl ?_
          refine x_cvV 108 [] [] C 0 dX7_wire_105 v_X7_135 (fun u hu => m_X7_forgetShows hu) rfl sk_0 rfl (Nat.le_of_ble_eq_true rfl) (Nat.le_of_ble_eq_true rfl) rfl (fun h6 => ?_)
          refine x_iload_n 109 C dX7_wire_108 0 rfl rfl rfl ?_
          exact x_iret C E dX7_wire_109 rfl
    refine x_icmp_ne 41 73 C dX7_wire_38 (by decide) rfl (fun _ => ?_) (fun _ => ?_)
    · exact x_ls [0, 1, 2] rfl (J2 (0 : Int32))
    · refine x_iload_n 42 C dX7_wire_41 2 rfl rfl rfl ?_
      refine x_iconst 43 C dX7_wire_42 ci_0 rfl ?_
      refine x_bipush 45 C dX7_wire_43 cb_9 rfl ?_
      refine x_csi 48 [.int a2, .int (0 : Int32), .int (9 : Int32)] [] C 0 dX7_wire_45 s_X7_85 (fun u hu => m_X7_within hu) rfl rfl (Nat.le_of_ble_eq_true rfl) (Nat.le_of_ble_eq_true rfl) rfl (fun x7 => ?_)
      refine x_if_eq 51 73 C dX7_wire_48 (by decide) rfl (fun _ => ?_) (fun _ => ?_)
      · exact x_ls [0, 1, 2] rfl (J2 (0 : Int32))
      · refine x_aload_n 52 C dX7_wire_51 0 rfl rfl rfl ?_
        refine x_getR (c := 5) 55 C dX7_wire_52 fl_X7_26 sk_0 rfl sr_0_2 rfl ?_
        refine x_getI 58 C dX7_wire_55 fl_X7_138 sk_5 rfl rfl ?_
        refine x_ni (fun x8 => ?_)
        refine x_istore_n 59 [(3, .int x8), (0, .ref 0), (1, .int a1), (2, .int a2)] C dX7_wire_58 n3 rfl rfl rfl ?_
        refine x_aload_n 60 C dX7_wire_59 1 rfl rfl rfl ?_
        refine x_getR (c := 5) 63 C dX7_wire_60 fl_X7_26 sk_0 rfl sr_0_2 rfl ?_
        refine x_iload_n 64 C dX7_wire_63 3 rfl rfl rfl ?_
        refine x_put 67 C dX7_wire_64 fp_X7_138 sk_5 rfl rfl rfl rfl (fun h9 => ?_)
        refine x_aload_n 68 C dX7_wire_67 1 rfl rfl rfl ?_
        refine x_cvV 71 [] [] C 0 dX7_wire_68 v_X7_135 (fun u hu => m_X7_forgetShows hu) rfl sk_0 rfl (Nat.le_of_ble_eq_true rfl) (Nat.le_of_ble_eq_true rfl) rfl (fun h10 => ?_)
        refine x_iload_n 72 C dX7_wire_71 0 rfl rfl rfl ?_
        exact x_iret C E dX7_wire_72 rfl
  refine x_if_ne 4 36 C dX7_wire_1 (by decide) rfl (fun _ => ?_) (fun _ => ?_)
  · exact x_ls [0, 1, 2] rfl (J1 (0 : Int32))
  · refine x_iload_n 5 C dX7_wire_4 2 rfl rfl rfl ?_
    refine x_iconst 6 C dX7_wire_5 ci_5 rfl ?_
    refine x_bipush 8 C dX7_wire_6 cb_40 rfl ?_
    refine x_csi 11 [.int a2, .int (5 : Int32), .int (40 : Int32)] [] C 0 dX7_wire_8 s_X7_85 (fun u hu => m_X7_within hu) rfl rfl (Nat.le_of_ble_eq_true rfl) (Nat.le_of_ble_eq_true rfl) rfl (fun x11 => ?_)
    refine x_if_eq 14 36 C dX7_wire_11 (by decide) rfl (fun _ => ?_) (fun _ => ?_)
    · exact x_ls [0, 1, 2] rfl (J1 (0 : Int32))
    · refine x_aload_n 15 C dX7_wire_14 0 rfl rfl rfl ?_
      refine x_getR (c := 5) 18 C dX7_wire_15 fl_X7_26 sk_0 rfl sr_0_2 rfl ?_
      refine x_getI 21 C dX7_wire_18 fl_X7_132 sk_5 rfl rfl ?_
      refine x_ni (fun x12 => ?_)
      refine x_istore_n 22 [(3, .int x12), (0, .ref 0), (1, .int a1), (2, .int a2)] C dX7_wire_21 n3 rfl rfl rfl ?_
      refine x_aload_n 23 C dX7_wire_22 1 rfl rfl rfl ?_
      refine x_getR (c := 5) 26 C dX7_wire_23 fl_X7_26 sk_0 rfl sr_0_2 rfl ?_
      refine x_iload_n 27 C dX7_wire_26 3 rfl rfl rfl ?_
      refine x_put 30 C dX7_wire_27 fp_X7_132 sk_5 rfl rfl rfl rfl (fun h13 => ?_)
      refine x_aload_n 31 C dX7_wire_30 1 rfl rfl rfl ?_
      refine x_cvV 34 [] [] C 0 dX7_wire_31 v_X7_135 (fun u hu => m_X7_forgetShows hu) rfl sk_0 rfl (Nat.le_of_ble_eq_true rfl) (Nat.le_of_ble_eq_true rfl) rfl (fun h14 => ?_)
      refine x_iload_n 35 C dX7_wire_34 0 rfl rfl rfl ?_
      exact x_iret C E dX7_wire_35 rfl

def f_X7_event (h : Hp) (a1 : Int32) (a2 : Int32) (a3 : Int32) : Option (Hp × Int32) :=
  bdr (f_X5_mayBeEvent a1 a2 a3) fun x1 =>
  if x1 = 0 then (
    some (h, (-2 : Int32)))
  else (
    bdr (f_X5_hasRoomForEvent h) fun x2 =>
    if x2 = 0 then (
      some (h, (-4 : Int32)))
    else (
      bdv (f_X5_addEvent h a1 a2 a3) fun h3 =>
      bdv (f_X7_forgetShows h3) fun h4 =>
      some (h4, (h4.1 5 8))))
theorem dX7_event_0 : decode cX7_event 0 = .ok (.iload_n 1, 1) := by decide +kernel
theorem dX7_event_1 : decode cX7_event 1 = .ok (.iload_n 2, 1) := by decide +kernel
theorem dX7_event_2 : decode cX7_event 2 = .ok (.iload_n 3, 1) := by decide +kernel
theorem dX7_event_3 : decode cX7_event 3 = .ok (.invokestatic 144, 3) := by decide +kernel
theorem dX7_event_6 : decode cX7_event 6 = .ok (.ifCond .ne 6, 3) := by decide +kernel
theorem dX7_event_9 : decode cX7_event 9 = .ok (.bipush (-2), 2) := by decide +kernel
theorem dX7_event_11 : decode cX7_event 11 = .ok (.ireturn, 1) := by decide +kernel
theorem dX7_event_12 : decode cX7_event 12 = .ok (.aload_n 0, 1) := by decide +kernel
theorem dX7_event_13 : decode cX7_event 13 = .ok (.getfield 26, 3) := by decide +kernel
theorem dX7_event_16 : decode cX7_event 16 = .ok (.invokevirtual 147, 3) := by decide +kernel
theorem dX7_event_19 : decode cX7_event 19 = .ok (.ifCond .ne 6, 3) := by decide +kernel
theorem dX7_event_22 : decode cX7_event 22 = .ok (.bipush (-4), 2) := by decide +kernel
theorem dX7_event_24 : decode cX7_event 24 = .ok (.ireturn, 1) := by decide +kernel
theorem dX7_event_25 : decode cX7_event 25 = .ok (.aload_n 0, 1) := by decide +kernel
theorem dX7_event_26 : decode cX7_event 26 = .ok (.getfield 26, 3) := by decide +kernel
theorem dX7_event_29 : decode cX7_event 29 = .ok (.iload_n 1, 1) := by decide +kernel
theorem dX7_event_30 : decode cX7_event 30 = .ok (.iload_n 2, 1) := by decide +kernel
theorem dX7_event_31 : decode cX7_event 31 = .ok (.iload_n 3, 1) := by decide +kernel
theorem dX7_event_32 : decode cX7_event 32 = .ok (.invokevirtual 150, 3) := by decide +kernel
theorem dX7_event_35 : decode cX7_event 35 = .ok (.aload_n 0, 1) := by decide +kernel
theorem dX7_event_36 : decode cX7_event 36 = .ok (.invokevirtual 135, 3) := by decide +kernel
theorem dX7_event_39 : decode cX7_event 39 = .ok (.aload_n 0, 1) := by decide +kernel
theorem dX7_event_40 : decode cX7_event 40 = .ok (.getfield 26, 3) := by decide +kernel
theorem dX7_event_43 : decode cX7_event 43 = .ok (.getfield 154, 3) := by decide +kernel
theorem dX7_event_46 : decode cX7_event 46 = .ok (.ireturn, 1) := by decide +kernel
set_option maxRecDepth 20000 in
theorem m_X7_event {h : Hp} {a1 : Int32} {a2 : Int32} {a3 : Int32}  {u : (Hp × Int32)} (hu : f_X7_event h a1 a2 a3 = some u) : Ct yX7_event cX7_event 4 (some .int) 3 [.ref 0, .int a1, .int a2, .int a3] h (eI u) := by
  refine ct_of eI hu (by decide) (Nat.le_of_ble_eq_true rfl) (fun κ hn C E => ?_)
  unfold f_X7_event
  show Xz κ _ 0 [(0, .ref 0), (1, .int a1), (2, .int a2), (3, .int a3)] [] h
  refine x_iload_n 1 C dX7_event_0 1 rfl rfl rfl ?_
  refine x_iload_n 2 C dX7_event_1 2 rfl rfl rfl ?_
  refine x_iload_n 3 C dX7_event_2 3 rfl rfl rfl ?_
  refine x_csi 6 [.int a1, .int a2, .int a3] [] C 2 dX7_event_3 s_X7_144 (fun u hu => m_X5_mayBeEvent hu) rfl rfl (Nat.le_of_ble_eq_true rfl) (Nat.le_of_ble_eq_true rfl) rfl (fun x1 => ?_)
  refine x_if_ne 9 12 C dX7_event_6 (by decide) rfl (fun _ => ?_) (fun _ => ?_)
  · refine x_aload_n 13 C dX7_event_12 0 rfl rfl rfl ?_
    refine x_getR (c := 5) 16 C dX7_event_13 fl_X7_26 sk_0 rfl sr_0_2 rfl ?_
    refine x_cvi 19 [] [] C 0 dX7_event_16 v_X7_147 (fun u hu => m_X5_hasRoomForEvent hu) rfl sk_5 rfl (Nat.le_of_ble_eq_true rfl) (Nat.le_of_ble_eq_true rfl) rfl (fun x2 => ?_)
    refine x_if_ne 22 25 C dX7_event_19 (by decide) rfl (fun _ => ?_) (fun _ => ?_)
    · refine x_aload_n 26 C dX7_event_25 0 rfl rfl rfl ?_
      refine x_getR (c := 5) 29 C dX7_event_26 fl_X7_26 sk_0 rfl sr_0_2 rfl ?_
      refine x_iload_n 30 C dX7_event_29 1 rfl rfl rfl ?_
      refine x_iload_n 31 C dX7_event_30 2 rfl rfl rfl ?_
      refine x_iload_n 32 C dX7_event_31 3 rfl rfl rfl ?_
      refine x_cvV 35 [.int a1, .int a2, .int a3] [] C 0 dX7_event_32 v_X7_150 (fun u hu => m_X5_addEvent hu) rfl sk_5 rfl (Nat.le_of_ble_eq_true rfl) (Nat.le_of_ble_eq_true rfl) rfl (fun h3 => ?_)
      refine x_aload_n 36 C dX7_event_35 0 rfl rfl rfl ?_
      refine x_cvV 39 [] [] C 0 dX7_event_36 v_X7_135 (fun u hu => m_X7_forgetShows hu) rfl sk_0 rfl (Nat.le_of_ble_eq_true rfl) (Nat.le_of_ble_eq_true rfl) rfl (fun h4 => ?_)
      refine x_aload_n 40 C dX7_event_39 0 rfl rfl rfl ?_
      refine x_getR (c := 5) 43 C dX7_event_40 fl_X7_26 sk_0 rfl sr_0_2 rfl ?_
      refine x_getI 46 C dX7_event_43 fl_X7_154 sk_5 rfl rfl ?_
      exact x_iret C E dX7_event_46 rfl
    · refine x_bipush 24 C dX7_event_22 cb_m4 rfl ?_
      exact x_iret C E dX7_event_24 rfl
  · refine x_bipush 11 C dX7_event_9 cb_m2 rfl ?_
    exact x_iret C E dX7_event_11 rfl

def f_X7_back (h : Hp) : Option (Hp × Int32) :=
  if 0 < (h.1 5 8) then (
    nm (uf h 5 8 ((h.1 5 8) - (1 : Int32))) fun h1 =>
    bdv (f_X7_forgetShows h1) fun h2 =>
    some (h2, (h2.1 5 8)))
  else (
    some (h, (-3 : Int32)))
theorem dX7_back_0 : decode cX7_back 0 = .ok (.aload_n 0, 1) := by decide +kernel
theorem dX7_back_1 : decode cX7_back 1 = .ok (.getfield 26, 3) := by decide +kernel
theorem dX7_back_4 : decode cX7_back 4 = .ok (.getfield 154, 3) := by decide +kernel
theorem dX7_back_7 : decode cX7_back 7 = .ok (.ifCond .gt 6, 3) := by decide +kernel
theorem dX7_back_10 : decode cX7_back 10 = .ok (.bipush (-3), 2) := by decide +kernel
theorem dX7_back_12 : decode cX7_back 12 = .ok (.ireturn, 1) := by decide +kernel
theorem dX7_back_13 : decode cX7_back 13 = .ok (.aload_n 0, 1) := by decide +kernel
theorem dX7_back_14 : decode cX7_back 14 = .ok (.getfield 26, 3) := by decide +kernel
theorem dX7_back_17 : decode cX7_back 17 = .ok (.dup, 1) := by decide +kernel
theorem dX7_back_18 : decode cX7_back 18 = .ok (.getfield 154, 3) := by decide +kernel
theorem dX7_back_21 : decode cX7_back 21 = .ok (.iconst 1, 1) := by decide +kernel
theorem dX7_back_22 : decode cX7_back 22 = .ok (.isub, 1) := by decide +kernel
theorem dX7_back_23 : decode cX7_back 23 = .ok (.putfield 154, 3) := by decide +kernel
theorem dX7_back_26 : decode cX7_back 26 = .ok (.aload_n 0, 1) := by decide +kernel
theorem dX7_back_27 : decode cX7_back 27 = .ok (.invokevirtual 135, 3) := by decide +kernel
theorem dX7_back_30 : decode cX7_back 30 = .ok (.aload_n 0, 1) := by decide +kernel
theorem dX7_back_31 : decode cX7_back 31 = .ok (.getfield 26, 3) := by decide +kernel
theorem dX7_back_34 : decode cX7_back 34 = .ok (.getfield 154, 3) := by decide +kernel
theorem dX7_back_37 : decode cX7_back 37 = .ok (.ireturn, 1) := by decide +kernel
set_option maxRecDepth 20000 in
theorem m_X7_back {h : Hp}  {u : (Hp × Int32)} (hu : f_X7_back h = some u) : Ct yX7_back cX7_back 1 (some .int) 1 [.ref 0] h (eI u) := by
  refine ct_of eI hu (by decide) (Nat.le_of_ble_eq_true rfl) (fun κ hn C E => ?_)
  unfold f_X7_back
  show Xz κ _ 0 [(0, .ref 0)] [] h
  refine x_aload_n 1 C dX7_back_0 0 rfl rfl rfl ?_
  refine x_getR (c := 5) 4 C dX7_back_1 fl_X7_26 sk_0 rfl sr_0_2 rfl ?_
  refine x_getI 7 C dX7_back_4 fl_X7_154 sk_5 rfl rfl ?_
  refine x_if_gt 10 13 C dX7_back_7 (by decide) rfl (fun _ => ?_) (fun _ => ?_)
  · refine x_aload_n 14 C dX7_back_13 0 rfl rfl rfl ?_
    refine x_getR (c := 5) 17 C dX7_back_14 fl_X7_26 sk_0 rfl sr_0_2 rfl ?_
    refine x_dup 18 C dX7_back_17 rfl rfl ?_
    refine x_getI 21 C dX7_back_18 fl_X7_154 sk_5 rfl rfl ?_
    refine x_iconst 22 C dX7_back_21 ci_1 rfl ?_
    refine x_isub 23 C dX7_back_22 rfl ?_
    refine x_put 26 C dX7_back_23 fp_X7_154 sk_5 rfl rfl rfl rfl (fun h1 => ?_)
    refine x_aload_n 27 C dX7_back_26 0 rfl rfl rfl ?_
    refine x_cvV 30 [] [] C 0 dX7_back_27 v_X7_135 (fun u hu => m_X7_forgetShows hu) rfl sk_0 rfl (Nat.le_of_ble_eq_true rfl) (Nat.le_of_ble_eq_true rfl) rfl (fun h2 => ?_)
    refine x_aload_n 31 C dX7_back_30 0 rfl rfl rfl ?_
    refine x_getR (c := 5) 34 C dX7_back_31 fl_X7_26 sk_0 rfl sr_0_2 rfl ?_
    refine x_getI 37 C dX7_back_34 fl_X7_154 sk_5 rfl rfl ?_
    exact x_iret C E dX7_back_37 rfl
  · refine x_bipush 12 C dX7_back_10 cb_m3 rfl ?_
    exact x_iret C E dX7_back_12 rfl

def f_X7_found (h : Hp) (a1 : Int32) : Option (Hp × Int32) :=
  nm (uf h 0 15 a1) fun h1 =>
  some (h1, ((-10 : Int32) - a1))
theorem dX7_found_0 : decode cX7_found 0 = .ok (.aload_n 0, 1) := by decide +kernel
theorem dX7_found_1 : decode cX7_found 1 = .ok (.iload_n 1, 1) := by decide +kernel
theorem dX7_found_2 : decode cX7_found 2 = .ok (.putfield 81, 3) := by decide +kernel
theorem dX7_found_5 : decode cX7_found 5 = .ok (.bipush (-10), 2) := by decide +kernel
theorem dX7_found_7 : decode cX7_found 7 = .ok (.iload_n 1, 1) := by decide +kernel
theorem dX7_found_8 : decode cX7_found 8 = .ok (.isub, 1) := by decide +kernel
theorem dX7_found_9 : decode cX7_found 9 = .ok (.ireturn, 1) := by decide +kernel
set_option maxRecDepth 20000 in
theorem m_X7_found {h : Hp} {a1 : Int32}  {u : (Hp × Int32)} (hu : f_X7_found h a1 = some u) : Ct yX7_found cX7_found 2 (some .int) 0 [.ref 0, .int a1] h (eI u) := by
  refine ct_of eI hu (by decide) (Nat.le_of_ble_eq_true rfl) (fun κ hn C E => ?_)
  unfold f_X7_found
  show Xz κ _ 0 [(0, .ref 0), (1, .int a1)] [] h
  refine x_aload_n 1 C dX7_found_0 0 rfl rfl rfl ?_
  refine x_iload_n 2 C dX7_found_1 1 rfl rfl rfl ?_
  refine x_put 5 C dX7_found_2 fp_X7_81 sk_0 rfl rfl rfl rfl (fun h1 => ?_)
  refine x_bipush 7 C dX7_found_5 cb_m10 rfl ?_
  refine x_iload_n 8 C dX7_found_7 1 rfl rfl rfl ?_
  refine x_isub 9 C dX7_found_8 rfl ?_
  exact x_iret C E dX7_found_9 rfl

def f_X7_isSheet (a1 : Int32) : Option Int32 :=
  bdr (f_X7_within a1 (0 : Int32) (3 : Int32)) fun x1 =>
  cy (x1 = 0 ∨ x1 = 1) (some x1)
theorem dX7_isSheet_0 : decode cX7_isSheet 0 = .ok (.iload_n 0, 1) := by decide +kernel
theorem dX7_isSheet_1 : decode cX7_isSheet 1 = .ok (.iconst 0, 1) := by decide +kernel
theorem dX7_isSheet_2 : decode cX7_isSheet 2 = .ok (.iconst 3, 1) := by decide +kernel
theorem dX7_isSheet_3 : decode cX7_isSheet 3 = .ok (.invokestatic 85, 3) := by decide +kernel
theorem dX7_isSheet_6 : decode cX7_isSheet 6 = .ok (.ireturn, 1) := by decide +kernel
set_option maxRecDepth 20000 in
theorem m_X7_isSheet {h : Hp} {a1 : Int32}  {u : Int32} (hu : f_X7_isSheet a1 = some u) : Ct yX7_isSheet cX7_isSheet 1 (some .boolean) 1 [.int a1] h ((rI h) u) := by
  refine ct_of (rI h) hu (by decide) (Nat.le_of_ble_eq_true rfl) (fun κ hn C E => ?_)
  unfold f_X7_isSheet
  show Xz κ _ 0 [(0, .int a1)] [] h
  refine x_iload_n 1 C dX7_isSheet_0 0 rfl rfl rfl ?_
  refine x_iconst 2 C dX7_isSheet_1 ci_0 rfl ?_
  refine x_iconst 3 C dX7_isSheet_2 ci_3 rfl ?_
  refine x_csi 6 [.int a1, .int (0 : Int32), .int (3 : Int32)] [] C 0 dX7_isSheet_3 s_X7_85 (fun u hu => m_X7_within hu) rfl rfl (Nat.le_of_ble_eq_true rfl) (Nat.le_of_ble_eq_true rfl) rfl (fun x1 => ?_)
  exact x_zrc C E dX7_isSheet_6 rfl

def f_X7_read (h : Hp) (a1 : Int32) : Option (Hp × Int32) :=
  bdr (f_X7_isSheet a1) fun x1 =>
  if x1 = 0 then (
    some (h, (-2 : Int32)))
  else (
    ck a1 4 (
      if (h.1 (60 + 2 * a1.toNatClampNeg) 1) = 0 then (
        lt2 (fun (h3 : Hp) (x4 : Int32) =>
          bdv (f_X7_forgetShows h3) fun h5 =>
          some (h5, x4)) fun k1 =>
        fx3 FU (fun s2 (h6 : Hp) (x7 : Int32) (x8 : Int32) =>
          if (h6.1 (60 + 2 * a1.toNatClampNeg) 3) ≤ (x8 + (2 : Int32)) then (
            k1 h6 x7)
          else (
            if (60 : Int32) ≤ (x8 + (2 : Int32)) then (
              k1 h6 x7)
            else (
              ck x8 60 (
                nm (ia h6 ((60 + 2 * a1.toNatClampNeg) + 1) x8) fun x9 =>
                ck (x8 + (1 : Int32)) 60 (
                  nm (ia h6 ((60 + 2 * a1.toNatClampNeg) + 1) (x8 + (1 : Int32))) fun x10 =>
                  ck (x8 + (2 : Int32)) 60 (
                    nm (ia h6 ((60 + 2 * a1.toNatClampNeg) + 1) (x8 + (2 : Int32))) fun x11 =>
                    bdr (f_X5_mayBeEvent x9 x10 x11) fun x12 =>
                    if x12 = 0 then (
                      k1 h6 x7)
                    else (
                      bdr (f_X5_hasRoomForEvent h6) fun x13 =>
                      if x13 = 0 then (
                        k1 h6 x7)
                      else (
                        bdv (f_X5_addEvent h6 x9 x10 x11) fun h14 =>
                        nm (x7 + (1 : Int32)) fun x15 =>
                        nm (x8 + (3 : Int32)) fun x16 =>
                        s2 h14 x15 x16)))))))) h (0 : Int32) (0 : Int32))
      else (
        bnd (f_X7_found h (1 : Int32)) fun h17 x18 =>
        some (h17, x18))))
theorem dX7_read_0 : decode cX7_read 0 = .ok (.iload_n 1, 1) := by decide +kernel
theorem dX7_read_1 : decode cX7_read 1 = .ok (.invokestatic 157, 3) := by decide +kernel
theorem dX7_read_4 : decode cX7_read 4 = .ok (.ifCond .ne 6, 3) := by decide +kernel
theorem dX7_read_7 : decode cX7_read 7 = .ok (.bipush (-2), 2) := by decide +kernel
theorem dX7_read_9 : decode cX7_read 9 = .ok (.ireturn, 1) := by decide +kernel
theorem dX7_read_10 : decode cX7_read 10 = .ok (.aload_n 0, 1) := by decide +kernel
theorem dX7_read_11 : decode cX7_read 11 = .ok (.getfield 63, 3) := by decide +kernel
theorem dX7_read_14 : decode cX7_read 14 = .ok (.iload_n 1, 1) := by decide +kernel
theorem dX7_read_15 : decode cX7_read 15 = .ok (.aaload, 1) := by decide +kernel
theorem dX7_read_16 : decode cX7_read 16 = .ok (.astore_n 2, 1) := by decide +kernel
theorem dX7_read_17 : decode cX7_read 17 = .ok (.aload_n 2, 1) := by decide +kernel
theorem dX7_read_18 : decode cX7_read 18 = .ok (.getfield 160, 3) := by decide +kernel
theorem dX7_read_21 : decode cX7_read 21 = .ok (.ifCond .eq 9, 3) := by decide +kernel
theorem dX7_read_24 : decode cX7_read 24 = .ok (.aload_n 0, 1) := by decide +kernel
theorem dX7_read_25 : decode cX7_read 25 = .ok (.iconst 1, 1) := by decide +kernel
theorem dX7_read_26 : decode cX7_read 26 = .ok (.invokevirtual 163, 3) := by decide +kernel
theorem dX7_read_29 : decode cX7_read 29 = .ok (.ireturn, 1) := by decide +kernel
theorem dX7_read_30 : decode cX7_read 30 = .ok (.iconst 0, 1) := by decide +kernel
theorem dX7_read_31 : decode cX7_read 31 = .ok (.istore_n 3, 1) := by decide +kernel
theorem dX7_read_32 : decode cX7_read 32 = .ok (.iconst 0, 1) := by decide +kernel
theorem dX7_read_33 : decode cX7_read 33 = .ok (.istore 4, 2) := by decide +kernel
theorem dX7_read_35 : decode cX7_read 35 = .ok (.iload 4, 2) := by decide +kernel
theorem dX7_read_37 : decode cX7_read 37 = .ok (.iconst 2, 1) := by decide +kernel
theorem dX7_read_38 : decode cX7_read 38 = .ok (.iadd, 1) := by decide +kernel
theorem dX7_read_39 : decode cX7_read 39 = .ok (.aload_n 2, 1) := by decide +kernel
theorem dX7_read_40 : decode cX7_read 40 = .ok (.getfield 167, 3) := by decide +kernel
theorem dX7_read_43 : decode cX7_read 43 = .ok (.if_icmp .ge 90, 3) := by decide +kernel
theorem dX7_read_46 : decode cX7_read 46 = .ok (.iload 4, 2) := by decide +kernel
theorem dX7_read_48 : decode cX7_read 48 = .ok (.iconst 2, 1) := by decide +kernel
theorem dX7_read_49 : decode cX7_read 49 = .ok (.iadd, 1) := by decide +kernel
theorem dX7_read_50 : decode cX7_read 50 = .ok (.bipush 60, 2) := by decide +kernel
theorem dX7_read_52 : decode cX7_read 52 = .ok (.if_icmp .ge 81, 3) := by decide +kernel
theorem dX7_read_55 : decode cX7_read 55 = .ok (.aload_n 2, 1) := by decide +kernel
theorem dX7_read_56 : decode cX7_read 56 = .ok (.getfield 168, 3) := by decide +kernel
theorem dX7_read_59 : decode cX7_read 59 = .ok (.iload 4, 2) := by decide +kernel
theorem dX7_read_61 : decode cX7_read 61 = .ok (.iaload, 1) := by decide +kernel
theorem dX7_read_62 : decode cX7_read 62 = .ok (.istore 5, 2) := by decide +kernel
theorem dX7_read_64 : decode cX7_read 64 = .ok (.aload_n 2, 1) := by decide +kernel
theorem dX7_read_65 : decode cX7_read 65 = .ok (.getfield 168, 3) := by decide +kernel
theorem dX7_read_68 : decode cX7_read 68 = .ok (.iload 4, 2) := by decide +kernel
theorem dX7_read_70 : decode cX7_read 70 = .ok (.iconst 1, 1) := by decide +kernel
theorem dX7_read_71 : decode cX7_read 71 = .ok (.iadd, 1) := by decide +kernel
theorem dX7_read_72 : decode cX7_read 72 = .ok (.iaload, 1) := by decide +kernel
theorem dX7_read_73 : decode cX7_read 73 = .ok (.istore 6, 2) := by decide +kernel
theorem dX7_read_75 : decode cX7_read 75 = .ok (.aload_n 2, 1) := by decide +kernel
theorem dX7_read_76 : decode cX7_read 76 = .ok (.getfield 168, 3) := by decide +kernel
theorem dX7_read_79 : decode cX7_read 79 = .ok (.iload 4, 2) := by decide +kernel
theorem dX7_read_81 : decode cX7_read 81 = .ok (.iconst 2, 1) := by decide +kernel
theorem dX7_read_82 : decode cX7_read 82 = .ok (.iadd, 1) := by decide +kernel
theorem dX7_read_83 : decode cX7_read 83 = .ok (.iaload, 1) := by decide +kernel
theorem dX7_read_84 : decode cX7_read 84 = .ok (.istore 7, 2) := by decide +kernel
theorem dX7_read_86 : decode cX7_read 86 = .ok (.iload 5, 2) := by decide +kernel
theorem dX7_read_88 : decode cX7_read 88 = .ok (.iload 6, 2) := by decide +kernel
theorem dX7_read_90 : decode cX7_read 90 = .ok (.iload 7, 2) := by decide +kernel
theorem dX7_read_92 : decode cX7_read 92 = .ok (.invokestatic 144, 3) := by decide +kernel
theorem dX7_read_95 : decode cX7_read 95 = .ok (.ifCond .eq 38, 3) := by decide +kernel
theorem dX7_read_98 : decode cX7_read 98 = .ok (.aload_n 0, 1) := by decide +kernel
theorem dX7_read_99 : decode cX7_read 99 = .ok (.getfield 26, 3) := by decide +kernel
theorem dX7_read_102 : decode cX7_read 102 = .ok (.invokevirtual 147, 3) := by decide +kernel
theorem dX7_read_105 : decode cX7_read 105 = .ok (.ifCond .ne 6, 3) := by decide +kernel
theorem dX7_read_108 : decode cX7_read 108 = .ok (.goto 25, 3) := by decide +kernel
theorem dX7_read_111 : decode cX7_read 111 = .ok (.aload_n 0, 1) := by decide +kernel
theorem dX7_read_112 : decode cX7_read 112 = .ok (.getfield 26, 3) := by decide +kernel
theorem dX7_read_115 : decode cX7_read 115 = .ok (.iload 5, 2) := by decide +kernel
theorem dX7_read_117 : decode cX7_read 117 = .ok (.iload 6, 2) := by decide +kernel
theorem dX7_read_119 : decode cX7_read 119 = .ok (.iload 7, 2) := by decide +kernel
theorem dX7_read_121 : decode cX7_read 121 = .ok (.invokevirtual 150, 3) := by decide +kernel
theorem dX7_read_124 : decode cX7_read 124 = .ok (.iinc 3 1, 3) := by decide +kernel
theorem dX7_read_127 : decode cX7_read 127 = .ok (.iinc 4 3, 3) := by decide +kernel
theorem dX7_read_130 : decode cX7_read 130 = .ok (.goto (-95), 3) := by decide +kernel
theorem dX7_read_133 : decode cX7_read 133 = .ok (.aload_n 0, 1) := by decide +kernel
theorem dX7_read_134 : decode cX7_read 134 = .ok (.invokevirtual 135, 3) := by decide +kernel
theorem dX7_read_137 : decode cX7_read 137 = .ok (.iload_n 3, 1) := by decide +kernel
theorem dX7_read_138 : decode cX7_read 138 = .ok (.ireturn, 1) := by decide +kernel
set_option maxRecDepth 20000 in
theorem m_X7_read {h : Hp} {a1 : Int32}  {u : (Hp × Int32)} (hu : f_X7_read h a1 = some u) : Ct yX7_read cX7_read 8 (some .int) 3 [.ref 0, .int a1] h (eI u) := by
  refine ct_of eI hu (by decide) (Nat.le_of_ble_eq_true rfl) (fun κ hn C E => ?_)
  have n2 : 2 < kn κ := by rw [hn]; decide
  have n3 : 3 < kn κ := by rw [hn]; decide
  have n4 : 4 < kn κ := by rw [hn]; decide
  have n5 : 5 < kn κ := by rw [hn]; decide
  have n6 : 6 < kn κ := by rw [hn]; decide
  have n7 : 7 < kn κ := by rw [hn]; decide
  unfold f_X7_read
  show Xz κ _ 0 [(0, .ref 0), (1, .int a1)] [] h
  refine x_iload_n 1 C dX7_read_0 1 rfl rfl rfl ?_
  refine x_csi 4 [.int a1] [] C 1 dX7_read_1 s_X7_157 (fun u hu => m_X7_isSheet hu) rfl rfl (Nat.le_of_ble_eq_true rfl) (Nat.le_of_ble_eq_true rfl) rfl (fun x1 => ?_)
  refine x_if_ne 7 10 C dX7_read_4 (by decide) rfl (fun _ => ?_) (fun _ => ?_)
  · refine x_aload_n 11 C dX7_read_10 0 rfl rfl rfl ?_
    refine x_getR (c := 59) 14 C dX7_read_11 fl_X7_63 sk_0 rfl sr_0_10 rfl ?_
    refine x_iload_n 15 C dX7_read_14 1 rfl rfl rfl ?_
    refine x_aald 16 C dX7_read_15 rfl (fun hs2 => ?_)
    refine x_astore_n 17 [(2, .ref (60 + 2 * a1.toNatClampNeg)), (0, .ref 0), (1, .int a1)] C dX7_read_16 n2 rfl rfl rfl ?_
    refine x_aload_n 18 C dX7_read_17 0 rfl rfl rfl ?_
    refine x_getI 21 C dX7_read_18 fl_X7_160 (sk_sh hs2) rfl rfl ?_
    refine x_if_eq 24 30 C dX7_read_21 (by decide) rfl (fun _ => ?_) (fun _ => ?_)
    · refine x_iconst 31 C dX7_read_30 ci_0 rfl ?_
      refine x_istore_n 32 [(3, .int (0 : Int32)), (2, .ref (60 + 2 * a1.toNatClampNeg)), (0, .ref 0), (1, .int a1)] C dX7_read_31 n3 rfl rfl rfl ?_
      refine x_iconst 33 C dX7_read_32 ci_0 rfl ?_
      refine x_istore 35 [(4, .int (0 : Int32)), (3, .int (0 : Int32)), (2, .ref (60 + 2 * a1.toNatClampNeg)), (0, .ref 0), (1, .int a1)] C dX7_read_33 n4 rfl rfl ?_
      refine x_lt2 (q := 133) (ls := fun h3 x4 => [(0, .ref 0), (3, .int x4)]) (st := fun h3 x4 => []) (hh := fun h3 x4 => h3) (fun h3 x4 => ?_) (fun k1 J1 => ?_)
      · refine x_aload_n 134 C dX7_read_133 0 rfl rfl rfl ?_
        refine x_cvV 137 [] [] C 0 dX7_read_134 v_X7_135 (fun u hu => m_X7_forgetShows hu) rfl sk_0 rfl (Nat.le_of_ble_eq_true rfl) (Nat.le_of_ble_eq_true rfl) rfl (fun h5 => ?_)
        refine x_iload_n 138 C dX7_read_137 1 rfl rfl rfl ?_
        exact x_iret C E dX7_read_138 rfl
      refine x_ls [3, 2, 1, 0] rfl (x_fx3 (ls := fun h6 x7 x8 => [(0, .ref 0), (2, .ref (60 + 2 * a1.toNatClampNeg)), (3, .int x7), (4, .int x8)]) (st := fun h6 x7 x8 => []) (hh := fun h6 x7 x8 => h6) (fun s2 J2 h6 x7 x8 => ?_))
      refine x_iload 37 C dX7_read_35 3 rfl rfl ?_
      refine x_iconst 38 C dX7_read_37 ci_2 rfl ?_
      refine x_iadd 39 C dX7_read_38 rfl ?_
      refine x_aload_n 40 C dX7_read_39 1 rfl rfl rfl ?_
      refine x_getI 43 C dX7_read_40 fl_X7_167 (sk_sh hs2) rfl rfl ?_
      refine x_icmp_ge 46 133 C dX7_read_43 (by decide) rfl (fun _ => ?_) (fun _ => ?_)
      · exact x_ls [0, 2] rfl (J1 h6 x7)
      · refine x_iload 48 C dX7_read_46 3 rfl rfl ?_
        refine x_iconst 49 C dX7_read_48 ci_2 rfl ?_
        refine x_iadd 50 C dX7_read_49 rfl ?_
        refine x_bipush 52 C dX7_read_50 cb_60 rfl ?_
        refine x_icmp_ge 55 133 C dX7_read_52 (by decide) rfl (fun _ => ?_) (fun _ => ?_)
        · exact x_ls [0, 2] rfl (J1 h6 x7)
        · refine x_aload_n 56 C dX7_read_55 1 rfl rfl rfl ?_
          refine x_getR (c := ((60 + 2 * a1.toNatClampNeg) + 1)) 59 C dX7_read_56 fl_X7_168 (sk_sh hs2) rfl (of_1_0 (sk_sh hs2)) rfl ?_
          refine x_iload 61 C dX7_read_59 3 rfl rfl ?_
          refine x_iald 62 C dX7_read_61 (ok_1_0 (sk_sh hs2)) (ol_1_0 (sk_sh hs2)) rfl ?_
          refine x_ni (fun x9 => ?_)
          refine x_istore 64 [(5, .int x9), (0, .ref 0), (2, .ref (60 + 2 * a1.toNatClampNeg)), (3, .int x7), (4, .int x8)] C dX7_read_62 n5 rfl rfl ?_
          refine x_aload_n 65 C dX7_read_64 2 rfl rfl rfl ?_
          refine x_getR (c := ((60 + 2 * a1.toNatClampNeg) + 1)) 68 C dX7_read_65 fl_X7_168 (sk_sh hs2) rfl (of_1_0 (sk_sh hs2)) rfl ?_
          refine x_iload 70 C dX7_read_68 4 rfl rfl ?_
          refine x_iconst 71 C dX7_read_70 ci_1 rfl ?_
          refine x_iadd 72 C dX7_read_71 rfl ?_
          refine x_iald 73 C dX7_read_72 (ok_1_0 (sk_sh hs2)) (ol_1_0 (sk_sh hs2)) rfl ?_
          refine x_ni (fun x10 => ?_)
          refine x_istore 75 [(6, .int x10), (5, .int x9), (0, .ref 0), (2, .ref (60 + 2 * a1.toNatClampNeg)), (3, .int x7), (4, .int x8)] C dX7_read_73 n6 rfl rfl ?_
          refine x_aload_n 76 C dX7_read_75 3 rfl rfl rfl ?_
          refine x_getR (c := ((60 + 2 * a1.toNatClampNeg) + 1)) 79 C dX7_read_76 fl_X7_168 (sk_sh hs2) rfl (of_1_0 (sk_sh hs2)) rfl ?_
          refine x_iload 81 C dX7_read_79 5 rfl rfl ?_
          refine x_iconst 82 C dX7_read_81 ci_2 rfl ?_
          refine x_iadd 83 C dX7_read_82 rfl ?_
          refine x_iald 84 C dX7_read_83 (ok_1_0 (sk_sh hs2)) (ol_1_0 (sk_sh hs2)) rfl ?_
          refine x_ni (fun x11 => ?_)
          refine x_istore 86 [(7, .int x11), (6, .int x10), (5, .int x9), (0, .ref 0), (2, .ref (60 + 2 * a1.toNatClampNeg)), (3, .int x7), (4, .int x8)] C dX7_read_84 n7 rfl rfl ?_
          refine x_iload 88 C dX7_read_86 2 rfl rfl ?_
          refine x_iload 90 C dX7_read_88 1 rfl rfl ?_
          refine x_iload 92 C dX7_read_90 0 rfl rfl ?_
          refine x_csi 95 [.int x9, .int x10, .int x11] [] C 2 dX7_read_92 s_X7_144 (fun u hu => m_X5_mayBeEvent hu) rfl rfl (Nat.le_of_ble_eq_true rfl) (Nat.le_of_ble_eq_true rfl) rfl (fun x12 => ?_)
          refine x_if_eq 98 133 C dX7_read_95 (by decide) rfl (fun _ => ?_) (fun _ => ?_)
          · exact x_ls [3, 5] rfl (J1 h6 x7)
          · refine x_aload_n 99 C dX7_read_98 3 rfl rfl rfl ?_
            refine x_getR (c := 5) 102 C dX7_read_99 fl_X7_26 sk_0 rfl sr_0_2 rfl ?_
            refine x_cvi 105 [] [] C 0 dX7_read_102 v_X7_147 (fun u hu => m_X5_hasRoomForEvent hu) rfl sk_5 rfl (Nat.le_of_ble_eq_true rfl) (Nat.le_of_ble_eq_true rfl) rfl (fun x13 => ?_)
            refine x_if_ne 108 111 C dX7_read_105 (by decide) rfl (fun _ => ?_) (fun _ => ?_)
            · refine x_aload_n 112 C dX7_read_111 3 rfl rfl rfl ?_
              refine x_getR (c := 5) 115 C dX7_read_112 fl_X7_26 sk_0 rfl sr_0_2 rfl ?_
              refine x_iload 117 C dX7_read_115 2 rfl rfl ?_
              refine x_iload 119 C dX7_read_117 1 rfl rfl ?_
              refine x_iload 121 C dX7_read_119 0 rfl rfl ?_
              refine x_cvV 124 [.int x9, .int x10, .int x11] [] C 0 dX7_read_121 v_X7_150 (fun u hu => m_X5_addEvent hu) rfl sk_5 rfl (Nat.le_of_ble_eq_true rfl) (Nat.le_of_ble_eq_true rfl) rfl (fun h14 => ?_)
              refine x_iinc 127 (fun x15 => [(3, .int x15), (7, .int x11), (6, .int x10), (5, .int x9), (0, .ref 0), (2, .ref (60 + 2 * a1.toNatClampNeg)), (4, .int x8)]) C dX7_read_124 5 rfl ci_1 n3 (fun _ => rfl) rfl (fun x15 => ?_)
              refine x_iinc 130 (fun x16 => [(4, .int x16), (3, .int x15), (7, .int x11), (6, .int x10), (5, .int x9), (0, .ref 0), (2, .ref (60 + 2 * a1.toNatClampNeg))]) C dX7_read_127 6 rfl ci_3 n4 (fun _ => rfl) rfl (fun x16 => ?_)
              refine x_goto 35 C dX7_read_130 (by decide) ?_
              exact x_ls [5, 6, 1, 0] rfl (J2 h14 x15 x16)
            · refine x_goto 133 C dX7_read_108 (by decide) ?_
              exact x_ls [3, 5] rfl (J1 h6 x7)
    · refine x_aload_n 25 C dX7_read_24 1 rfl rfl rfl ?_
      refine x_iconst 26 C dX7_read_25 ci_1 rfl ?_
      refine x_cvI 29 [.int (1 : Int32)] [] C 0 dX7_read_26 v_X7_163 (fun u hu => m_X7_found hu) rfl sk_0 rfl (Nat.le_of_ble_eq_true rfl) (Nat.le_of_ble_eq_true rfl) rfl (fun h17 x18 => ?_)
      exact x_iret C E dX7_read_29 rfl
  · refine x_bipush 9 C dX7_read_7 cb_m2 rfl ?_
    exact x_iret C E dX7_read_9 rfl

def f_X7_shown (h : Hp) : Option (Hp × Nat) :=
  if (h.1 0 11) = 0 then (
    bdv (f_X2_play h 17 9 (0 : Int32) (1 : Int32)) fun h1 =>
    nm (uf h1 0 11 (1 : Int32)) fun h2 =>
    some (h2, 17))
  else (
    some (h, 17))
theorem dX7_shown_0 : decode cX7_shown 0 = .ok (.aload_n 0, 1) := by decide +kernel
theorem dX7_shown_1 : decode cX7_shown 1 = .ok (.getfield 67, 3) := by decide +kernel
theorem dX7_shown_4 : decode cX7_shown 4 = .ok (.ifCond .ne 28, 3) := by decide +kernel
theorem dX7_shown_7 : decode cX7_shown 7 = .ok (.aload_n 0, 1) := by decide +kernel
theorem dX7_shown_8 : decode cX7_shown 8 = .ok (.getfield 40, 3) := by decide +kernel
theorem dX7_shown_11 : decode cX7_shown 11 = .ok (.aload_n 0, 1) := by decide +kernel
theorem dX7_shown_12 : decode cX7_shown 12 = .ok (.getfield 26, 3) := by decide +kernel
theorem dX7_shown_15 : decode cX7_shown 15 = .ok (.aload_n 0, 1) := by decide +kernel
theorem dX7_shown_16 : decode cX7_shown 16 = .ok (.getfield 26, 3) := by decide +kernel
theorem dX7_shown_19 : decode cX7_shown 19 = .ok (.getfield 129, 3) := by decide +kernel
theorem dX7_shown_22 : decode cX7_shown 22 = .ok (.iconst 0, 1) := by decide +kernel
theorem dX7_shown_23 : decode cX7_shown 23 = .ok (.iconst 1, 1) := by decide +kernel
theorem dX7_shown_24 : decode cX7_shown 24 = .ok (.invokevirtual 233, 3) := by decide +kernel
theorem dX7_shown_27 : decode cX7_shown 27 = .ok (.aload_n 0, 1) := by decide +kernel
theorem dX7_shown_28 : decode cX7_shown 28 = .ok (.iconst 1, 1) := by decide +kernel
theorem dX7_shown_29 : decode cX7_shown 29 = .ok (.putfield 67, 3) := by decide +kernel
theorem dX7_shown_32 : decode cX7_shown 32 = .ok (.aload_n 0, 1) := by decide +kernel
theorem dX7_shown_33 : decode cX7_shown 33 = .ok (.getfield 40, 3) := by decide +kernel
theorem dX7_shown_36 : decode cX7_shown 36 = .ok (.areturn, 1) := by decide +kernel
set_option maxRecDepth 20000 in
theorem m_X7_shown {h : Hp}  {u : (Hp × Nat)} (hu : f_X7_shown h = some u) : Ct yX7_shown cX7_shown 1 (some (.object "WireWalkers$Show")) 4 [.ref 0] h (eR u) := by
  refine ct_of eR hu (by decide) (Nat.le_of_ble_eq_true rfl) (fun κ hn C E => ?_)
  unfold f_X7_shown
  show Xz κ _ 0 [(0, .ref 0)] [] h
  refine x_aload_n 1 C dX7_shown_0 0 rfl rfl rfl ?_
  refine x_getI 4 C dX7_shown_1 fl_X7_67 sk_0 rfl rfl ?_
  refine x_if_ne 7 32 C dX7_shown_4 (by decide) rfl (fun _ => ?_) (fun _ => ?_)
  · refine x_aload_n 33 C dX7_shown_32 0 rfl rfl rfl ?_
    refine x_getR (c := 17) 36 C dX7_shown_33 fl_X7_40 sk_0 rfl sr_0_4 rfl ?_
    exact x_aret C E dX7_shown_36 rfl
  · refine x_aload_n 8 C dX7_shown_7 0 rfl rfl rfl ?_
    refine x_getR (c := 17) 11 C dX7_shown_8 fl_X7_40 sk_0 rfl sr_0_4 rfl ?_
    refine x_aload_n 12 C dX7_shown_11 0 rfl rfl rfl ?_
    refine x_getR (c := 5) 15 C dX7_shown_12 fl_X7_26 sk_0 rfl sr_0_2 rfl ?_
    refine x_aload_n 16 C dX7_shown_15 0 rfl rfl rfl ?_
    refine x_getR (c := 5) 19 C dX7_shown_16 fl_X7_26 sk_0 rfl sr_0_2 rfl ?_
    refine x_getR (c := 9) 22 C dX7_shown_19 fl_X7_129 sk_5 rfl sr_5_3 rfl ?_
    refine x_iconst 23 C dX7_shown_22 ci_0 rfl ?_
    refine x_iconst 24 C dX7_shown_23 ci_1 rfl ?_
    refine x_cvV 27 [.ref 5, .ref 9, .int (0 : Int32), .int (1 : Int32)] [] C 3 dX7_shown_24 v_X7_233 (fun u hu => m_X2_play sk_17 sk_9 hu) rfl sk_17 rfl (Nat.le_of_ble_eq_true rfl) (Nat.le_of_ble_eq_true rfl) rfl (fun h1 => ?_)
    refine x_aload_n 28 C dX7_shown_27 0 rfl rfl rfl ?_
    refine x_iconst 29 C dX7_shown_28 ci_1 rfl ?_
    refine x_put 32 C dX7_shown_29 fp_X7_67 sk_0 rfl rfl rfl rfl (fun h2 => ?_)
    refine x_aload_n 33 C dX7_shown_32 0 rfl rfl rfl ?_
    refine x_getR (c := 17) 36 C dX7_shown_33 fl_X7_40 sk_0 rfl sr_0_4 rfl ?_
    exact x_aret C E dX7_shown_36 rfl

def f_X7_at (h : Hp) (a1 : Int32) (a2 : Int32) (a3 : Int32) : Option (Hp × Int32) :=
  bdr (f_X7_isBeat a1) fun x1 =>
  if x1 = 0 then (
    some (h, (-2 : Int32)))
  else (
    bdr (f_X7_isWalker h a2) fun x2 =>
    if x2 = 0 then (
      some (h, (-2 : Int32)))
    else (
      bdr (f_X7_within a3 (0 : Int32) (1 : Int32)) fun x3 =>
      if x3 = 0 then (
        some (h, (-2 : Int32)))
      else (
        bnd (f_X7_shown h) fun h4 c5 =>
        cy (sk c5 = 2) (
          if a3 = 0 then (
            bdr (f_X0_stateBehind h4 (c5 + 5) a1 a2) fun x8 =>
            some (h4, x8))
          else (
            bdr (f_X0_placeBehind h4 (c5 + 5) a1 a2) fun x7 =>
            some (h4, x7))))))
theorem dX7_at_0 : decode cX7_at 0 = .ok (.iload_n 1, 1) := by decide +kernel
theorem dX7_at_1 : decode cX7_at 1 = .ok (.invokestatic 126, 3) := by decide +kernel
theorem dX7_at_4 : decode cX7_at 4 = .ok (.ifCond .eq 20, 3) := by decide +kernel
theorem dX7_at_7 : decode cX7_at 7 = .ok (.aload_n 0, 1) := by decide +kernel
theorem dX7_at_8 : decode cX7_at 8 = .ok (.iload_n 2, 1) := by decide +kernel
theorem dX7_at_9 : decode cX7_at 9 = .ok (.invokevirtual 113, 3) := by decide +kernel
theorem dX7_at_12 : decode cX7_at 12 = .ok (.ifCond .eq 12, 3) := by decide +kernel
theorem dX7_at_15 : decode cX7_at 15 = .ok (.iload_n 3, 1) := by decide +kernel
theorem dX7_at_16 : decode cX7_at 16 = .ok (.iconst 0, 1) := by decide +kernel
theorem dX7_at_17 : decode cX7_at 17 = .ok (.iconst 1, 1) := by decide +kernel
theorem dX7_at_18 : decode cX7_at 18 = .ok (.invokestatic 85, 3) := by decide +kernel
theorem dX7_at_21 : decode cX7_at 21 = .ok (.ifCond .ne 6, 3) := by decide +kernel
theorem dX7_at_24 : decode cX7_at 24 = .ok (.bipush (-2), 2) := by decide +kernel
theorem dX7_at_26 : decode cX7_at 26 = .ok (.ireturn, 1) := by decide +kernel
theorem dX7_at_27 : decode cX7_at 27 = .ok (.aload_n 0, 1) := by decide +kernel
theorem dX7_at_28 : decode cX7_at 28 = .ok (.invokevirtual 171, 3) := by decide +kernel
theorem dX7_at_31 : decode cX7_at 31 = .ok (.getfield 175, 3) := by decide +kernel
theorem dX7_at_34 : decode cX7_at 34 = .ok (.astore 4, 2) := by decide +kernel
theorem dX7_at_36 : decode cX7_at 36 = .ok (.iload_n 3, 1) := by decide +kernel
theorem dX7_at_37 : decode cX7_at 37 = .ok (.ifCond .ne 13, 3) := by decide +kernel
theorem dX7_at_40 : decode cX7_at 40 = .ok (.aload 4, 2) := by decide +kernel
theorem dX7_at_42 : decode cX7_at 42 = .ok (.iload_n 1, 1) := by decide +kernel
theorem dX7_at_43 : decode cX7_at 43 = .ok (.iload_n 2, 1) := by decide +kernel
theorem dX7_at_44 : decode cX7_at 44 = .ok (.invokevirtual 179, 3) := by decide +kernel
theorem dX7_at_47 : decode cX7_at 47 = .ok (.goto 10, 3) := by decide +kernel
theorem dX7_at_50 : decode cX7_at 50 = .ok (.aload 4, 2) := by decide +kernel
theorem dX7_at_52 : decode cX7_at 52 = .ok (.iload_n 1, 1) := by decide +kernel
theorem dX7_at_53 : decode cX7_at 53 = .ok (.iload_n 2, 1) := by decide +kernel
theorem dX7_at_54 : decode cX7_at 54 = .ok (.invokevirtual 185, 3) := by decide +kernel
theorem dX7_at_57 : decode cX7_at 57 = .ok (.ireturn, 1) := by decide +kernel
set_option maxRecDepth 20000 in
theorem m_X7_at {h : Hp} {a1 : Int32} {a2 : Int32} {a3 : Int32}  {u : (Hp × Int32)} (hu : f_X7_at h a1 a2 a3 = some u) : Ct yX7_at cX7_at 5 (some .int) 5 [.ref 0, .int a1, .int a2, .int a3] h (eI u) := by
  refine ct_of eI hu (by decide) (Nat.le_of_ble_eq_true rfl) (fun κ hn C E => ?_)
  have n4 : 4 < kn κ := by rw [hn]; decide
  unfold f_X7_at
  show Xz κ _ 0 [(0, .ref 0), (1, .int a1), (2, .int a2), (3, .int a3)] [] h
  refine x_iload_n 1 C dX7_at_0 1 rfl rfl rfl ?_
  refine x_csi 4 [.int a1] [] C 1 dX7_at_1 s_X7_126 (fun u hu => m_X7_isBeat hu) rfl rfl (Nat.le_of_ble_eq_true rfl) (Nat.le_of_ble_eq_true rfl) rfl (fun x1 => ?_)
  refine x_if_eq 7 24 C dX7_at_4 (by decide) rfl (fun _ => ?_) (fun _ => ?_)
  · refine x_bipush 26 C dX7_at_24 cb_m2 rfl ?_
    exact x_iret C E dX7_at_26 rfl
  · refine x_aload_n 8 C dX7_at_7 0 rfl rfl rfl ?_
    refine x_iload_n 9 C dX7_at_8 2 rfl rfl rfl ?_
    refine x_cvi 12 [.int a2] [] C 1 dX7_at_9 v_X7_113 (fun u hu => m_X7_isWalker hu) rfl sk_0 rfl (Nat.le_of_ble_eq_true rfl) (Nat.le_of_ble_eq_true rfl) rfl (fun x2 => ?_)
    refine x_if_eq 15 24 C dX7_at_12 (by decide) rfl (fun _ => ?_) (fun _ => ?_)
    · refine x_bipush 26 C dX7_at_24 cb_m2 rfl ?_
      exact x_iret C E dX7_at_26 rfl
    · refine x_iload_n 16 C dX7_at_15 3 rfl rfl rfl ?_
      refine x_iconst 17 C dX7_at_16 ci_0 rfl ?_
      refine x_iconst 18 C dX7_at_17 ci_1 rfl ?_
      refine x_csi 21 [.int a3, .int (0 : Int32), .int (1 : Int32)] [] C 0 dX7_at_18 s_X7_85 (fun u hu => m_X7_within hu) rfl rfl (Nat.le_of_ble_eq_true rfl) (Nat.le_of_ble_eq_true rfl) rfl (fun x3 => ?_)
      refine x_if_ne 24 27 C dX7_at_21 (by decide) rfl (fun _ => ?_) (fun _ => ?_)
      · refine x_aload_n 28 C dX7_at_27 0 rfl rfl rfl ?_
        refine x_cvR 31 [] [] C 4 dX7_at_28 v_X7_171 (fun u hu => m_X7_shown hu) rfl sk_0 rfl (Nat.le_of_ble_eq_true rfl) (Nat.le_of_ble_eq_true rfl) rfl (fun h4 c5 => ?_)
        refine x_cy (fun hr6 => ?_)
        refine x_getR (c := (c5 + 5)) 34 C dX7_at_31 fl_X7_175 hr6 rfl (of_2_1 hr6) rfl ?_
        refine x_astore 36 [(4, .ref (c5 + 5)), (0, .ref 0), (1, .int a1), (2, .int a2), (3, .int a3)] C dX7_at_34 n4 rfl rfl ?_
        refine x_iload_n 37 C dX7_at_36 4 rfl rfl rfl ?_
        refine x_if_ne 40 50 C dX7_at_37 (by decide) rfl (fun _ => ?_) (fun _ => ?_)
        · refine x_aload 52 C dX7_at_50 0 rfl rfl ?_
          refine x_iload_n 53 C dX7_at_52 2 rfl rfl rfl ?_
          refine x_iload_n 54 C dX7_at_53 3 rfl rfl rfl ?_
          refine x_cvi 57 [.int a1, .int a2] [] C 1 dX7_at_54 v_X7_185 (fun u hu => m_X0_placeBehind (ok_2_1 hr6) hu) rfl (ok_2_1 hr6) rfl (Nat.le_of_ble_eq_true rfl) (Nat.le_of_ble_eq_true rfl) rfl (fun x7 => ?_)
          exact x_iret C E dX7_at_57 rfl
        · refine x_aload 42 C dX7_at_40 0 rfl rfl ?_
          refine x_iload_n 43 C dX7_at_42 2 rfl rfl rfl ?_
          refine x_iload_n 44 C dX7_at_43 3 rfl rfl rfl ?_
          refine x_cvi 47 [.int a1, .int a2] [] C 1 dX7_at_44 v_X7_179 (fun u hu => m_X0_stateBehind (ok_2_1 hr6) hu) rfl (ok_2_1 hr6) rfl (Nat.le_of_ble_eq_true rfl) (Nat.le_of_ble_eq_true rfl) rfl (fun x8 => ?_)
          refine x_goto 57 C dX7_at_47 (by decide) ?_
          exact x_iret C E dX7_at_57 rfl
      · refine x_bipush 26 C dX7_at_24 cb_m2 rfl ?_
        exact x_iret C E dX7_at_26 rfl

def f_X7_lean (h : Hp) (a1 : Int32) (a2 : Int32) : Option (Hp × Int32) :=
  bdr (f_X7_isBeat a1) fun x1 =>
  if x1 = 0 then (
    some (h, (-2147483648 : Int32)))
  else (
    bdr (f_X7_isWalker h a2) fun x2 =>
    if x2 = 0 then (
      some (h, (-2147483648 : Int32)))
    else (
      bnd (f_X7_shown h) fun h3 c4 =>
      cy (sk c4 = 2) (
        bdr (f_X0_leanBehind h3 (c4 + 5) a1 a2) fun x6 =>
        some (h3, x6))))
theorem dX7_lean_0 : decode cX7_lean 0 = .ok (.iload_n 1, 1) := by decide +kernel
theorem dX7_lean_1 : decode cX7_lean 1 = .ok (.invokestatic 126, 3) := by decide +kernel
theorem dX7_lean_4 : decode cX7_lean 4 = .ok (.ifCond .eq 11, 3) := by decide +kernel
theorem dX7_lean_7 : decode cX7_lean 7 = .ok (.aload_n 0, 1) := by decide +kernel
theorem dX7_lean_8 : decode cX7_lean 8 = .ok (.iload_n 2, 1) := by decide +kernel
theorem dX7_lean_9 : decode cX7_lean 9 = .ok (.invokevirtual 113, 3) := by decide +kernel
theorem dX7_lean_12 : decode cX7_lean 12 = .ok (.ifCond .ne 6, 3) := by decide +kernel
theorem dX7_lean_15 : decode cX7_lean 15 = .ok (.ldc 188, 2) := by decide +kernel
theorem dX7_lean_17 : decode cX7_lean 17 = .ok (.ireturn, 1) := by decide +kernel
theorem dX7_lean_18 : decode cX7_lean 18 = .ok (.aload_n 0, 1) := by decide +kernel
theorem dX7_lean_19 : decode cX7_lean 19 = .ok (.invokevirtual 171, 3) := by decide +kernel
theorem dX7_lean_22 : decode cX7_lean 22 = .ok (.getfield 175, 3) := by decide +kernel
theorem dX7_lean_25 : decode cX7_lean 25 = .ok (.iload_n 1, 1) := by decide +kernel
theorem dX7_lean_26 : decode cX7_lean 26 = .ok (.iload_n 2, 1) := by decide +kernel
theorem dX7_lean_27 : decode cX7_lean 27 = .ok (.invokevirtual 189, 3) := by decide +kernel
theorem dX7_lean_30 : decode cX7_lean 30 = .ok (.ireturn, 1) := by decide +kernel
set_option maxRecDepth 20000 in
theorem m_X7_lean {h : Hp} {a1 : Int32} {a2 : Int32}  {u : (Hp × Int32)} (hu : f_X7_lean h a1 a2 = some u) : Ct yX7_lean cX7_lean 3 (some .int) 5 [.ref 0, .int a1, .int a2] h (eI u) := by
  refine ct_of eI hu (by decide) (Nat.le_of_ble_eq_true rfl) (fun κ hn C E => ?_)
  unfold f_X7_lean
  show Xz κ _ 0 [(0, .ref 0), (1, .int a1), (2, .int a2)] [] h
  refine x_iload_n 1 C dX7_lean_0 1 rfl rfl rfl ?_
  refine x_csi 4 [.int a1] [] C 1 dX7_lean_1 s_X7_126 (fun u hu => m_X7_isBeat hu) rfl rfl (Nat.le_of_ble_eq_true rfl) (Nat.le_of_ble_eq_true rfl) rfl (fun x1 => ?_)
  refine x_if_eq 7 15 C dX7_lean_4 (by decide) rfl (fun _ => ?_) (fun _ => ?_)
  · refine x_ldc 17 C dX7_lean_15 kw_X7_188 rfl ?_
    exact x_iret C E dX7_lean_17 rfl
  · refine x_aload_n 8 C dX7_lean_7 0 rfl rfl rfl ?_
    refine x_iload_n 9 C dX7_lean_8 2 rfl rfl rfl ?_
    refine x_cvi 12 [.int a2] [] C 1 dX7_lean_9 v_X7_113 (fun u hu => m_X7_isWalker hu) rfl sk_0 rfl (Nat.le_of_ble_eq_true rfl) (Nat.le_of_ble_eq_true rfl) rfl (fun x2 => ?_)
    refine x_if_ne 15 18 C dX7_lean_12 (by decide) rfl (fun _ => ?_) (fun _ => ?_)
    · refine x_aload_n 19 C dX7_lean_18 0 rfl rfl rfl ?_
      refine x_cvR 22 [] [] C 4 dX7_lean_19 v_X7_171 (fun u hu => m_X7_shown hu) rfl sk_0 rfl (Nat.le_of_ble_eq_true rfl) (Nat.le_of_ble_eq_true rfl) rfl (fun h3 c4 => ?_)
      refine x_cy (fun hr5 => ?_)
      refine x_getR (c := (c4 + 5)) 25 C dX7_lean_22 fl_X7_175 hr5 rfl (of_2_1 hr5) rfl ?_
      refine x_iload_n 26 C dX7_lean_25 1 rfl rfl rfl ?_
      refine x_iload_n 27 C dX7_lean_26 2 rfl rfl rfl ?_
      refine x_cvi 30 [.int a1, .int a2] [] C 1 dX7_lean_27 v_X7_189 (fun u hu => m_X0_leanBehind (ok_2_1 hr5) hu) rfl (ok_2_1 hr5) rfl (Nat.le_of_ble_eq_true rfl) (Nat.le_of_ble_eq_true rfl) rfl (fun x6 => ?_)
      exact x_iret C E dX7_lean_30 rfl
    · refine x_ldc 17 C dX7_lean_15 kw_X7_188 rfl ?_
      exact x_iret C E dX7_lean_17 rfl
