def f_X8_seesBy (h : Hp) (a1 : Int32) (a2 : Int32) : Option Int32 :=
  fx2 FU (fun s1 (x1 : Int32) (x2 : Int32) =>
    if (h.1 68 7) ≤ x2 then (
      some x1)
    else (
      ck (((6 : Int32) * a1) + x2) 144 (
        lt1 (fun (x3 : Int32) =>
          nm (x2 + (1 : Int32)) fun x4 =>
          s1 x3 x4) fun k2 =>
        lt1 (fun (u5 : Int32) =>
          k2 x1) fun k3 =>
        if (ia h 87 (((6 : Int32) * a1) + x2)) = (1 : Int32) then (
          ck (((6 : Int32) * a1) + x2) 144 (
            if (ia h 88 (((6 : Int32) * a1) + x2)) = a2 then (
              k2 x2)
            else (
              k3 (0 : Int32))))
        else (
          k3 (0 : Int32))))) (-1 : Int32) (0 : Int32)
theorem dX8_seesBy_0 : decode cX8_seesBy 0 = .ok (.iconst (-1), 1) := by decide +kernel
theorem dX8_seesBy_1 : decode cX8_seesBy 1 = .ok (.istore_n 3, 1) := by decide +kernel
theorem dX8_seesBy_2 : decode cX8_seesBy 2 = .ok (.iconst 0, 1) := by decide +kernel
theorem dX8_seesBy_3 : decode cX8_seesBy 3 = .ok (.istore 4, 2) := by decide +kernel
theorem dX8_seesBy_5 : decode cX8_seesBy 5 = .ok (.iload 4, 2) := by decide +kernel
theorem dX8_seesBy_7 : decode cX8_seesBy 7 = .ok (.aload_n 0, 1) := by decide +kernel
theorem dX8_seesBy_8 : decode cX8_seesBy 8 = .ok (.getfield 127, 3) := by decide +kernel
theorem dX8_seesBy_11 : decode cX8_seesBy 11 = .ok (.if_icmp .ge 48, 3) := by decide +kernel
theorem dX8_seesBy_14 : decode cX8_seesBy 14 = .ok (.aload_n 0, 1) := by decide +kernel
theorem dX8_seesBy_15 : decode cX8_seesBy 15 = .ok (.getfield 64, 3) := by decide +kernel
theorem dX8_seesBy_18 : decode cX8_seesBy 18 = .ok (.bipush 6, 2) := by decide +kernel
theorem dX8_seesBy_20 : decode cX8_seesBy 20 = .ok (.iload_n 1, 1) := by decide +kernel
theorem dX8_seesBy_21 : decode cX8_seesBy 21 = .ok (.imul, 1) := by decide +kernel
theorem dX8_seesBy_22 : decode cX8_seesBy 22 = .ok (.iload 4, 2) := by decide +kernel
theorem dX8_seesBy_24 : decode cX8_seesBy 24 = .ok (.iadd, 1) := by decide +kernel
theorem dX8_seesBy_25 : decode cX8_seesBy 25 = .ok (.iaload, 1) := by decide +kernel
theorem dX8_seesBy_26 : decode cX8_seesBy 26 = .ok (.iconst 1, 1) := by decide +kernel
theorem dX8_seesBy_27 : decode cX8_seesBy 27 = .ok (.if_icmp .ne 24, 3) := by decide +kernel
theorem dX8_seesBy_30 : decode cX8_seesBy 30 = .ok (.aload_n 0, 1) := by decide +kernel
theorem dX8_seesBy_31 : decode cX8_seesBy 31 = .ok (.getfield 67, 3) := by decide +kernel
theorem dX8_seesBy_34 : decode cX8_seesBy 34 = .ok (.bipush 6, 2) := by decide +kernel
theorem dX8_seesBy_36 : decode cX8_seesBy 36 = .ok (.iload_n 1, 1) := by decide +kernel
theorem dX8_seesBy_37 : decode cX8_seesBy 37 = .ok (.imul, 1) := by decide +kernel
theorem dX8_seesBy_38 : decode cX8_seesBy 38 = .ok (.iload 4, 2) := by decide +kernel
theorem dX8_seesBy_40 : decode cX8_seesBy 40 = .ok (.iadd, 1) := by decide +kernel
theorem dX8_seesBy_41 : decode cX8_seesBy 41 = .ok (.iaload, 1) := by decide +kernel
theorem dX8_seesBy_42 : decode cX8_seesBy 42 = .ok (.iload_n 2, 1) := by decide +kernel
theorem dX8_seesBy_43 : decode cX8_seesBy 43 = .ok (.if_icmp .ne 8, 3) := by decide +kernel
theorem dX8_seesBy_46 : decode cX8_seesBy 46 = .ok (.iload 4, 2) := by decide +kernel
theorem dX8_seesBy_48 : decode cX8_seesBy 48 = .ok (.goto 4, 3) := by decide +kernel
theorem dX8_seesBy_51 : decode cX8_seesBy 51 = .ok (.iload_n 3, 1) := by decide +kernel
theorem dX8_seesBy_52 : decode cX8_seesBy 52 = .ok (.istore_n 3, 1) := by decide +kernel
theorem dX8_seesBy_53 : decode cX8_seesBy 53 = .ok (.iinc 4 1, 3) := by decide +kernel
theorem dX8_seesBy_56 : decode cX8_seesBy 56 = .ok (.goto (-51), 3) := by decide +kernel
theorem dX8_seesBy_59 : decode cX8_seesBy 59 = .ok (.iload_n 3, 1) := by decide +kernel
theorem dX8_seesBy_60 : decode cX8_seesBy 60 = .ok (.ireturn, 1) := by decide +kernel
set_option maxRecDepth 20000 in
theorem m_X8_seesBy {h : Hp} {a1 : Int32} {a2 : Int32}  {u : Int32} (hu : f_X8_seesBy h a1 a2 = some u) : Ct yX8_seesBy cX8_seesBy 5 (some .int) 0 [.ref 68, .int a1, .int a2] h ((rI h) u) := by
  refine ct_of (rI h) hu (by decide) (Nat.le_of_ble_eq_true rfl) (fun κ hn C E => ?_)
  have n3 : 3 < kn κ := by rw [hn]; decide
  have n4 : 4 < kn κ := by rw [hn]; decide
  unfold f_X8_seesBy
  show Xz κ _ 0 [(0, .ref 68), (1, .int a1), (2, .int a2)] [] h
  refine x_iconst 1 C dX8_seesBy_0 ci_m1 rfl ?_
  refine x_istore_n 2 [(3, .int (-1 : Int32)), (0, .ref 68), (1, .int a1), (2, .int a2)] C dX8_seesBy_1 n3 rfl rfl rfl ?_
  refine x_iconst 3 C dX8_seesBy_2 ci_0 rfl ?_
  refine x_istore 5 [(4, .int (0 : Int32)), (3, .int (-1 : Int32)), (0, .ref 68), (1, .int a1), (2, .int a2)] C dX8_seesBy_3 n4 rfl rfl ?_
  refine x_ls [2, 3, 4, 1, 0] rfl (x_fx2 (ls := fun x1 x2 => [(0, .ref 68), (1, .int a1), (2, .int a2), (3, .int x1), (4, .int x2)]) (st := fun x1 x2 => []) (hh := fun x1 x2 => h) (fun s1 J1 x1 x2 => ?_))
  refine x_iload 7 C dX8_seesBy_5 4 rfl rfl ?_
  refine x_aload_n 8 C dX8_seesBy_7 0 rfl rfl rfl ?_
  refine x_getI 11 C dX8_seesBy_8 fl_X8_127 sk_68 rfl rfl ?_
  refine x_icmp_ge 14 59 C dX8_seesBy_11 (by decide) rfl (fun _ => ?_) (fun _ => ?_)
  · refine x_iload_n 60 C dX8_seesBy_59 3 rfl rfl rfl ?_
    exact x_iret C E dX8_seesBy_60 rfl
  · refine x_aload_n 15 C dX8_seesBy_14 0 rfl rfl rfl ?_
    refine x_getR (c := 87) 18 C dX8_seesBy_15 fl_X8_64 sk_68 rfl sr_68_23 rfl ?_
    refine x_bipush 20 C dX8_seesBy_18 cb_6 rfl ?_
    refine x_iload_n 21 C dX8_seesBy_20 1 rfl rfl rfl ?_
    refine x_imul 22 C dX8_seesBy_21 rfl ?_
    refine x_iload 24 C dX8_seesBy_22 4 rfl rfl ?_
    refine x_iadd 25 C dX8_seesBy_24 rfl ?_
    refine x_iald 26 C dX8_seesBy_25 sk_87 sl_87 rfl ?_
    refine x_iconst 27 C dX8_seesBy_26 ci_1 rfl ?_
    refine x_lt1 (q := 52) (ls := fun x3 => [(0, .ref 68), (1, .int a1), (2, .int a2), (4, .int x2)]) (st := fun x3 => [.int x3]) (hh := fun x3 => h) (fun x3 => ?_) (fun k2 J2 => ?_)
    · refine x_istore_n 53 [(3, .int x3), (0, .ref 68), (1, .int a1), (2, .int a2), (4, .int x2)] C dX8_seesBy_52 n3 rfl rfl rfl ?_
      refine x_iinc 56 (fun x4 => [(4, .int x4), (3, .int x3), (0, .ref 68), (1, .int a1), (2, .int a2)]) C dX8_seesBy_53 4 rfl ci_1 n4 (fun _ => rfl) rfl (fun x4 => ?_)
      refine x_goto 5 C dX8_seesBy_56 (by decide) ?_
      exact x_ls [2, 3, 4, 1, 0] rfl (J1 x3 x4)
    refine x_lt1 (q := 51) (ls := fun u5 => [(0, .ref 68), (1, .int a1), (2, .int a2), (3, .int x1), (4, .int x2)]) (st := fun u5 => []) (hh := fun u5 => h) (fun u5 => ?_) (fun k3 J3 => ?_)
    · refine x_iload_n 52 C dX8_seesBy_51 3 rfl rfl rfl ?_
      exact x_ls [0, 1, 2, 4] rfl (J2 x1)
    refine x_icmp_ne 30 51 C dX8_seesBy_27 (by decide) rfl (fun _ => ?_) (fun _ => ?_)
    · exact x_ls [0, 1, 2, 3, 4] rfl (J3 (0 : Int32))
    · refine x_aload_n 31 C dX8_seesBy_30 0 rfl rfl rfl ?_
      refine x_getR (c := 88) 34 C dX8_seesBy_31 fl_X8_67 sk_68 rfl sr_68_24 rfl ?_
      refine x_bipush 36 C dX8_seesBy_34 cb_6 rfl ?_
      refine x_iload_n 37 C dX8_seesBy_36 1 rfl rfl rfl ?_
      refine x_imul 38 C dX8_seesBy_37 rfl ?_
      refine x_iload 40 C dX8_seesBy_38 4 rfl rfl ?_
      refine x_iadd 41 C dX8_seesBy_40 rfl ?_
      refine x_iald 42 C dX8_seesBy_41 sk_88 sl_88 rfl ?_
      refine x_iload_n 43 C dX8_seesBy_42 2 rfl rfl rfl ?_
      refine x_icmp_ne 46 51 C dX8_seesBy_43 (by decide) rfl (fun _ => ?_) (fun _ => ?_)
      · exact x_ls [0, 1, 2, 3, 4] rfl (J3 (0 : Int32))
      · refine x_iload 48 C dX8_seesBy_46 4 rfl rfl ?_
        refine x_goto 52 C dX8_seesBy_48 (by decide) ?_
        exact x_ls [0, 1, 2, 4] rfl (J2 x2)

def f_X8_sees (h : Hp) (a1 : Int32) (a2 : Int32) : Option (Hp × Int32) :=
  bdv (f_X8_find h) fun h1 =>
  bdr (f_X8_isBeat a1) fun x2 =>
  if x2 = 0 then (
    some (h1, (-2 : Int32)))
  else (
    bdr (f_X8_in (a2.toInt64) (0 : Int64) (40 : Int64)) fun x3 =>
    if x3 = 0 then (
      some (h1, (-2 : Int32)))
    else (
      bdr (f_X8_seesBy h1 a1 a2) fun x4 =>
      some (h1, x4)))
theorem dX8_sees_0 : decode cX8_sees 0 = .ok (.aload_n 0, 1) := by decide +kernel
theorem dX8_sees_1 : decode cX8_sees 1 = .ok (.invokevirtual 220, 3) := by decide +kernel
theorem dX8_sees_4 : decode cX8_sees 4 = .ok (.iload_n 1, 1) := by decide +kernel
theorem dX8_sees_5 : decode cX8_sees 5 = .ok (.invokestatic 154, 3) := by decide +kernel
theorem dX8_sees_8 : decode cX8_sees 8 = .ok (.ifCond .eq 24, 3) := by decide +kernel
theorem dX8_sees_11 : decode cX8_sees 11 = .ok (.iload_n 2, 1) := by decide +kernel
theorem dX8_sees_12 : decode cX8_sees 12 = .ok (.i2l, 1) := by decide +kernel
theorem dX8_sees_13 : decode cX8_sees 13 = .ok (.lconst 0, 1) := by decide +kernel
theorem dX8_sees_14 : decode cX8_sees 14 = .ok (.ldc2_w 159, 3) := by decide +kernel
theorem dX8_sees_17 : decode cX8_sees 17 = .ok (.invokestatic 85, 3) := by decide +kernel
theorem dX8_sees_20 : decode cX8_sees 20 = .ok (.ifCond .eq 12, 3) := by decide +kernel
theorem dX8_sees_23 : decode cX8_sees 23 = .ok (.aload_n 0, 1) := by decide +kernel
theorem dX8_sees_24 : decode cX8_sees 24 = .ok (.iload_n 1, 1) := by decide +kernel
theorem dX8_sees_25 : decode cX8_sees 25 = .ok (.iload_n 2, 1) := by decide +kernel
theorem dX8_sees_26 : decode cX8_sees 26 = .ok (.invokevirtual 223, 3) := by decide +kernel
theorem dX8_sees_29 : decode cX8_sees 29 = .ok (.goto 5, 3) := by decide +kernel
theorem dX8_sees_32 : decode cX8_sees 32 = .ok (.bipush (-2), 2) := by decide +kernel
theorem dX8_sees_34 : decode cX8_sees 34 = .ok (.ireturn, 1) := by decide +kernel
set_option maxRecDepth 20000 in
theorem m_X8_sees {h : Hp} {a1 : Int32} {a2 : Int32}  {u : (Hp × Int32)} (hu : f_X8_sees h a1 a2 = some u) : Ct yX8_sees cX8_sees 3 (some .int) 7 [.ref 68, .int a1, .int a2] h (eI u) := by
  refine ct_of eI hu (by decide) (Nat.le_of_ble_eq_true rfl) (fun κ hn C E => ?_)
  unfold f_X8_sees
  show Xz κ _ 0 [(0, .ref 68), (1, .int a1), (2, .int a2)] [] h
  refine x_aload_n 1 C dX8_sees_0 0 rfl rfl rfl ?_
  refine x_cvV 4 [] [] C 6 dX8_sees_1 v_X8_220 (fun u hu => m_X8_find hu) rfl sk_68 rfl (Nat.le_of_ble_eq_true rfl) (Nat.le_of_ble_eq_true rfl) rfl (fun h1 => ?_)
  refine x_iload_n 5 C dX8_sees_4 1 rfl rfl rfl ?_
  refine x_csi 8 [.int a1] [] C 1 dX8_sees_5 s_X8_154 (fun u hu => m_X8_isBeat hu) rfl rfl (Nat.le_of_ble_eq_true rfl) (Nat.le_of_ble_eq_true rfl) rfl (fun x2 => ?_)
  refine x_if_eq 11 32 C dX8_sees_8 (by decide) rfl (fun _ => ?_) (fun _ => ?_)
  · refine x_bipush 34 C dX8_sees_32 cb_m2 rfl ?_
    exact x_iret C E dX8_sees_34 rfl
  · refine x_iload_n 12 C dX8_sees_11 2 rfl rfl rfl ?_
    refine x_i2l 13 C dX8_sees_12 rfl ?_
    refine x_lconst 14 C dX8_sees_13 cl_0 rfl ?_
    refine x_ldc2 17 C dX8_sees_14 kw_X8_159 rfl ?_
    refine x_csi 20 [.long (a2.toInt64), .long (0 : Int64), .long (40 : Int64)] [] C 0 dX8_sees_17 s_X8_85 (fun u hu => m_X8_in hu) rfl rfl (Nat.le_of_ble_eq_true rfl) (Nat.le_of_ble_eq_true rfl) rfl (fun x3 => ?_)
    refine x_if_eq 23 32 C dX8_sees_20 (by decide) rfl (fun _ => ?_) (fun _ => ?_)
    · refine x_bipush 34 C dX8_sees_32 cb_m2 rfl ?_
      exact x_iret C E dX8_sees_34 rfl
    · refine x_aload_n 24 C dX8_sees_23 0 rfl rfl rfl ?_
      refine x_iload_n 25 C dX8_sees_24 1 rfl rfl rfl ?_
      refine x_iload_n 26 C dX8_sees_25 2 rfl rfl rfl ?_
      refine x_cvi 29 [.int a1, .int a2] [] C 0 dX8_sees_26 v_X8_223 (fun u hu => m_X8_seesBy hu) rfl sk_68 rfl (Nat.le_of_ble_eq_true rfl) (Nat.le_of_ble_eq_true rfl) rfl (fun x4 => ?_)
      refine x_goto 34 C dX8_sees_29 (by decide) ?_
      exact x_iret C E dX8_sees_34 rfl

def f_X8_sway (h : Hp) (a1 : Int32) : Option (Hp × Int32) :=
  bdv (f_X8_find h) fun h1 =>
  bdr (f_X8_isBeat a1) fun x2 =>
  if x2 = 0 then (
    some (h1, (-2147483648 : Int32)))
  else (
    ck a1 24 (
      some (h1, (ia h1 90 a1))))
theorem dX8_sway_0 : decode cX8_sway 0 = .ok (.aload_n 0, 1) := by decide +kernel
theorem dX8_sway_1 : decode cX8_sway 1 = .ok (.invokevirtual 220, 3) := by decide +kernel
theorem dX8_sway_4 : decode cX8_sway 4 = .ok (.iload_n 1, 1) := by decide +kernel
theorem dX8_sway_5 : decode cX8_sway 5 = .ok (.invokestatic 154, 3) := by decide +kernel
theorem dX8_sway_8 : decode cX8_sway 8 = .ok (.ifCond .eq 12, 3) := by decide +kernel
theorem dX8_sway_11 : decode cX8_sway 11 = .ok (.aload_n 0, 1) := by decide +kernel
theorem dX8_sway_12 : decode cX8_sway 12 = .ok (.getfield 73, 3) := by decide +kernel
theorem dX8_sway_15 : decode cX8_sway 15 = .ok (.iload_n 1, 1) := by decide +kernel
theorem dX8_sway_16 : decode cX8_sway 16 = .ok (.iaload, 1) := by decide +kernel
theorem dX8_sway_17 : decode cX8_sway 17 = .ok (.goto 5, 3) := by decide +kernel
theorem dX8_sway_20 : decode cX8_sway 20 = .ok (.ldc 113, 2) := by decide +kernel
theorem dX8_sway_22 : decode cX8_sway 22 = .ok (.ireturn, 1) := by decide +kernel
set_option maxRecDepth 20000 in
theorem m_X8_sway {h : Hp} {a1 : Int32}  {u : (Hp × Int32)} (hu : f_X8_sway h a1 = some u) : Ct yX8_sway cX8_sway 2 (some .int) 7 [.ref 68, .int a1] h (eI u) := by
  refine ct_of eI hu (by decide) (Nat.le_of_ble_eq_true rfl) (fun κ hn C E => ?_)
  unfold f_X8_sway
  show Xz κ _ 0 [(0, .ref 68), (1, .int a1)] [] h
  refine x_aload_n 1 C dX8_sway_0 0 rfl rfl rfl ?_
  refine x_cvV 4 [] [] C 6 dX8_sway_1 v_X8_220 (fun u hu => m_X8_find hu) rfl sk_68 rfl (Nat.le_of_ble_eq_true rfl) (Nat.le_of_ble_eq_true rfl) rfl (fun h1 => ?_)
  refine x_iload_n 5 C dX8_sway_4 1 rfl rfl rfl ?_
  refine x_csi 8 [.int a1] [] C 1 dX8_sway_5 s_X8_154 (fun u hu => m_X8_isBeat hu) rfl rfl (Nat.le_of_ble_eq_true rfl) (Nat.le_of_ble_eq_true rfl) rfl (fun x2 => ?_)
  refine x_if_eq 11 20 C dX8_sway_8 (by decide) rfl (fun _ => ?_) (fun _ => ?_)
  · refine x_ldc 22 C dX8_sway_20 kw_X8_113 rfl ?_
    exact x_iret C E dX8_sway_22 rfl
  · refine x_aload_n 12 C dX8_sway_11 0 rfl rfl rfl ?_
    refine x_getR (c := 90) 15 C dX8_sway_12 fl_X8_73 sk_68 rfl sr_68_26 rfl ?_
    refine x_iload_n 16 C dX8_sway_15 1 rfl rfl rfl ?_
    refine x_iald 17 C dX8_sway_16 sk_90 sl_90 rfl ?_
    refine x_goto 22 C dX8_sway_17 (by decide) ?_
    exact x_iret C E dX8_sway_22 rfl

def f_X8_endsBy (h : Hp) (a1 : Int32) (a2 : Int32) : Option Int32 :=
  if a2 = 0 then (
    ck a1 6 (
      some (ia h 84 a1)))
  else (
    if a2 = (1 : Int32) then (
      ck a1 6 (
        some (ia h 85 a1)))
    else (
      ck a1 6 (
        some (ia h 86 a1))))
theorem dX8_endsBy_0 : decode cX8_endsBy 0 = .ok (.iload_n 2, 1) := by decide +kernel
theorem dX8_endsBy_1 : decode cX8_endsBy 1 = .ok (.ifCond .ne 12, 3) := by decide +kernel
theorem dX8_endsBy_4 : decode cX8_endsBy 4 = .ok (.aload_n 0, 1) := by decide +kernel
theorem dX8_endsBy_5 : decode cX8_endsBy 5 = .ok (.getfield 55, 3) := by decide +kernel
theorem dX8_endsBy_8 : decode cX8_endsBy 8 = .ok (.iload_n 1, 1) := by decide +kernel
theorem dX8_endsBy_9 : decode cX8_endsBy 9 = .ok (.iaload, 1) := by decide +kernel
theorem dX8_endsBy_10 : decode cX8_endsBy 10 = .ok (.goto 23, 3) := by decide +kernel
theorem dX8_endsBy_13 : decode cX8_endsBy 13 = .ok (.iload_n 2, 1) := by decide +kernel
theorem dX8_endsBy_14 : decode cX8_endsBy 14 = .ok (.iconst 1, 1) := by decide +kernel
theorem dX8_endsBy_15 : decode cX8_endsBy 15 = .ok (.if_icmp .ne 12, 3) := by decide +kernel
theorem dX8_endsBy_18 : decode cX8_endsBy 18 = .ok (.aload_n 0, 1) := by decide +kernel
theorem dX8_endsBy_19 : decode cX8_endsBy 19 = .ok (.getfield 58, 3) := by decide +kernel
theorem dX8_endsBy_22 : decode cX8_endsBy 22 = .ok (.iload_n 1, 1) := by decide +kernel
theorem dX8_endsBy_23 : decode cX8_endsBy 23 = .ok (.iaload, 1) := by decide +kernel
theorem dX8_endsBy_24 : decode cX8_endsBy 24 = .ok (.goto 9, 3) := by decide +kernel
theorem dX8_endsBy_27 : decode cX8_endsBy 27 = .ok (.aload_n 0, 1) := by decide +kernel
theorem dX8_endsBy_28 : decode cX8_endsBy 28 = .ok (.getfield 61, 3) := by decide +kernel
theorem dX8_endsBy_31 : decode cX8_endsBy 31 = .ok (.iload_n 1, 1) := by decide +kernel
theorem dX8_endsBy_32 : decode cX8_endsBy 32 = .ok (.iaload, 1) := by decide +kernel
theorem dX8_endsBy_33 : decode cX8_endsBy 33 = .ok (.ireturn, 1) := by decide +kernel
set_option maxRecDepth 20000 in
theorem m_X8_endsBy {h : Hp} {a1 : Int32} {a2 : Int32}  {u : Int32} (hu : f_X8_endsBy h a1 a2 = some u) : Ct yX8_endsBy cX8_endsBy 3 (some .int) 0 [.ref 68, .int a1, .int a2] h ((rI h) u) := by
  refine ct_of (rI h) hu (by decide) (Nat.le_of_ble_eq_true rfl) (fun κ hn C E => ?_)
  unfold f_X8_endsBy
  show Xz κ _ 0 [(0, .ref 68), (1, .int a1), (2, .int a2)] [] h
  refine x_iload_n 1 C dX8_endsBy_0 2 rfl rfl rfl ?_
  refine x_if_ne 4 13 C dX8_endsBy_1 (by decide) rfl (fun _ => ?_) (fun _ => ?_)
  · refine x_iload_n 14 C dX8_endsBy_13 2 rfl rfl rfl ?_
    refine x_iconst 15 C dX8_endsBy_14 ci_1 rfl ?_
    refine x_icmp_ne 18 27 C dX8_endsBy_15 (by decide) rfl (fun _ => ?_) (fun _ => ?_)
    · refine x_aload_n 28 C dX8_endsBy_27 0 rfl rfl rfl ?_
      refine x_getR (c := 86) 31 C dX8_endsBy_28 fl_X8_61 sk_68 rfl sr_68_22 rfl ?_
      refine x_iload_n 32 C dX8_endsBy_31 1 rfl rfl rfl ?_
      refine x_iald 33 C dX8_endsBy_32 sk_86 sl_86 rfl ?_
      exact x_iret C E dX8_endsBy_33 rfl
    · refine x_aload_n 19 C dX8_endsBy_18 0 rfl rfl rfl ?_
      refine x_getR (c := 85) 22 C dX8_endsBy_19 fl_X8_58 sk_68 rfl sr_68_21 rfl ?_
      refine x_iload_n 23 C dX8_endsBy_22 1 rfl rfl rfl ?_
      refine x_iald 24 C dX8_endsBy_23 sk_85 sl_85 rfl ?_
      refine x_goto 33 C dX8_endsBy_24 (by decide) ?_
      exact x_iret C E dX8_endsBy_33 rfl
  · refine x_aload_n 5 C dX8_endsBy_4 0 rfl rfl rfl ?_
    refine x_getR (c := 84) 8 C dX8_endsBy_5 fl_X8_55 sk_68 rfl sr_68_20 rfl ?_
    refine x_iload_n 9 C dX8_endsBy_8 1 rfl rfl rfl ?_
    refine x_iald 10 C dX8_endsBy_9 sk_84 sl_84 rfl ?_
    refine x_goto 33 C dX8_endsBy_10 (by decide) ?_
    exact x_iret C E dX8_endsBy_33 rfl

def f_X8_ends (h : Hp) (a1 : Int32) (a2 : Int32) : Option (Hp × Int32) :=
  bdv (f_X8_find h) fun h1 =>
  bdr (f_X8_isWalker h1 a1) fun x2 =>
  if x2 = 0 then (
    some (h1, (-2 : Int32)))
  else (
    bdr (f_X8_in (a2.toInt64) (0 : Int64) (2 : Int64)) fun x3 =>
    if x3 = 0 then (
      some (h1, (-2 : Int32)))
    else (
      bdr (f_X8_endsBy h1 a1 a2) fun x4 =>
      some (h1, x4)))
theorem dX8_ends_0 : decode cX8_ends 0 = .ok (.aload_n 0, 1) := by decide +kernel
theorem dX8_ends_1 : decode cX8_ends 1 = .ok (.invokevirtual 220, 3) := by decide +kernel
theorem dX8_ends_4 : decode cX8_ends 4 = .ok (.aload_n 0, 1) := by decide +kernel
theorem dX8_ends_5 : decode cX8_ends 5 = .ok (.iload_n 1, 1) := by decide +kernel
theorem dX8_ends_6 : decode cX8_ends 6 = .ok (.invokevirtual 151, 3) := by decide +kernel
theorem dX8_ends_9 : decode cX8_ends 9 = .ok (.ifCond .eq 24, 3) := by decide +kernel
theorem dX8_ends_12 : decode cX8_ends 12 = .ok (.iload_n 2, 1) := by decide +kernel
theorem dX8_ends_13 : decode cX8_ends 13 = .ok (.i2l, 1) := by decide +kernel
theorem dX8_ends_14 : decode cX8_ends 14 = .ok (.lconst 0, 1) := by decide +kernel
theorem dX8_ends_15 : decode cX8_ends 15 = .ok (.ldc2_w 99, 3) := by decide +kernel
theorem dX8_ends_18 : decode cX8_ends 18 = .ok (.invokestatic 85, 3) := by decide +kernel
theorem dX8_ends_21 : decode cX8_ends 21 = .ok (.ifCond .eq 12, 3) := by decide +kernel
theorem dX8_ends_24 : decode cX8_ends 24 = .ok (.aload_n 0, 1) := by decide +kernel
theorem dX8_ends_25 : decode cX8_ends 25 = .ok (.iload_n 1, 1) := by decide +kernel
theorem dX8_ends_26 : decode cX8_ends 26 = .ok (.iload_n 2, 1) := by decide +kernel
theorem dX8_ends_27 : decode cX8_ends 27 = .ok (.invokevirtual 226, 3) := by decide +kernel
theorem dX8_ends_30 : decode cX8_ends 30 = .ok (.goto 5, 3) := by decide +kernel
theorem dX8_ends_33 : decode cX8_ends 33 = .ok (.bipush (-2), 2) := by decide +kernel
theorem dX8_ends_35 : decode cX8_ends 35 = .ok (.ireturn, 1) := by decide +kernel
set_option maxRecDepth 20000 in
theorem m_X8_ends {h : Hp} {a1 : Int32} {a2 : Int32}  {u : (Hp × Int32)} (hu : f_X8_ends h a1 a2 = some u) : Ct yX8_ends cX8_ends 3 (some .int) 7 [.ref 68, .int a1, .int a2] h (eI u) := by
  refine ct_of eI hu (by decide) (Nat.le_of_ble_eq_true rfl) (fun κ hn C E => ?_)
  unfold f_X8_ends
  show Xz κ _ 0 [(0, .ref 68), (1, .int a1), (2, .int a2)] [] h
  refine x_aload_n 1 C dX8_ends_0 0 rfl rfl rfl ?_
  refine x_cvV 4 [] [] C 6 dX8_ends_1 v_X8_220 (fun u hu => m_X8_find hu) rfl sk_68 rfl (Nat.le_of_ble_eq_true rfl) (Nat.le_of_ble_eq_true rfl) rfl (fun h1 => ?_)
  refine x_aload_n 5 C dX8_ends_4 0 rfl rfl rfl ?_
  refine x_iload_n 6 C dX8_ends_5 1 rfl rfl rfl ?_
  refine x_cvi 9 [.int a1] [] C 1 dX8_ends_6 v_X8_151 (fun u hu => m_X8_isWalker hu) rfl sk_68 rfl (Nat.le_of_ble_eq_true rfl) (Nat.le_of_ble_eq_true rfl) rfl (fun x2 => ?_)
  refine x_if_eq 12 33 C dX8_ends_9 (by decide) rfl (fun _ => ?_) (fun _ => ?_)
  · refine x_bipush 35 C dX8_ends_33 cb_m2 rfl ?_
    exact x_iret C E dX8_ends_35 rfl
  · refine x_iload_n 13 C dX8_ends_12 2 rfl rfl rfl ?_
    refine x_i2l 14 C dX8_ends_13 rfl ?_
    refine x_lconst 15 C dX8_ends_14 cl_0 rfl ?_
    refine x_ldc2 18 C dX8_ends_15 kw_X8_99 rfl ?_
    refine x_csi 21 [.long (a2.toInt64), .long (0 : Int64), .long (2 : Int64)] [] C 0 dX8_ends_18 s_X8_85 (fun u hu => m_X8_in hu) rfl rfl (Nat.le_of_ble_eq_true rfl) (Nat.le_of_ble_eq_true rfl) rfl (fun x3 => ?_)
    refine x_if_eq 24 33 C dX8_ends_21 (by decide) rfl (fun _ => ?_) (fun _ => ?_)
    · refine x_bipush 35 C dX8_ends_33 cb_m2 rfl ?_
      exact x_iret C E dX8_ends_35 rfl
    · refine x_aload_n 25 C dX8_ends_24 0 rfl rfl rfl ?_
      refine x_iload_n 26 C dX8_ends_25 1 rfl rfl rfl ?_
      refine x_iload_n 27 C dX8_ends_26 2 rfl rfl rfl ?_
      refine x_cvi 30 [.int a1, .int a2] [] C 0 dX8_ends_27 v_X8_226 (fun u hu => m_X8_endsBy hu) rfl sk_68 rfl (Nat.le_of_ble_eq_true rfl) (Nat.le_of_ble_eq_true rfl) rfl (fun x4 => ?_)
      refine x_goto 35 C dX8_ends_30 (by decide) ?_
      exact x_iret C E dX8_ends_35 rfl

def f_X8_many (h : Hp) (a1 : Int32) : Option Int32 :=
  fx2 FU (fun s1 (x1 : Int32) (x2 : Int32) =>
    if (h.1 68 7) ≤ x2 then (
      some x1)
    else (
      ck x2 6 (
        lt1 (fun (x3 : Int32) =>
          nm (x1 + x3) fun x4 =>
          nm (x2 + (1 : Int32)) fun x5 =>
          s1 x4 x5) fun k2 =>
        if (ia h 79 x2) = a1 then (
          k2 (1 : Int32))
        else (
          k2 (0 : Int32))))) (0 : Int32) (0 : Int32)
theorem dX8_many_0 : decode cX8_many 0 = .ok (.iconst 0, 1) := by decide +kernel
theorem dX8_many_1 : decode cX8_many 1 = .ok (.istore_n 2, 1) := by decide +kernel
theorem dX8_many_2 : decode cX8_many 2 = .ok (.iconst 0, 1) := by decide +kernel
theorem dX8_many_3 : decode cX8_many 3 = .ok (.istore_n 3, 1) := by decide +kernel
theorem dX8_many_4 : decode cX8_many 4 = .ok (.iload_n 3, 1) := by decide +kernel
theorem dX8_many_5 : decode cX8_many 5 = .ok (.aload_n 0, 1) := by decide +kernel
theorem dX8_many_6 : decode cX8_many 6 = .ok (.getfield 127, 3) := by decide +kernel
theorem dX8_many_9 : decode cX8_many 9 = .ok (.if_icmp .ge 27, 3) := by decide +kernel
theorem dX8_many_12 : decode cX8_many 12 = .ok (.iload_n 2, 1) := by decide +kernel
theorem dX8_many_13 : decode cX8_many 13 = .ok (.aload_n 0, 1) := by decide +kernel
theorem dX8_many_14 : decode cX8_many 14 = .ok (.getfield 40, 3) := by decide +kernel
theorem dX8_many_17 : decode cX8_many 17 = .ok (.iload_n 3, 1) := by decide +kernel
theorem dX8_many_18 : decode cX8_many 18 = .ok (.iaload, 1) := by decide +kernel
theorem dX8_many_19 : decode cX8_many 19 = .ok (.iload_n 1, 1) := by decide +kernel
theorem dX8_many_20 : decode cX8_many 20 = .ok (.if_icmp .ne 7, 3) := by decide +kernel
theorem dX8_many_23 : decode cX8_many 23 = .ok (.iconst 1, 1) := by decide +kernel
theorem dX8_many_24 : decode cX8_many 24 = .ok (.goto 4, 3) := by decide +kernel
theorem dX8_many_27 : decode cX8_many 27 = .ok (.iconst 0, 1) := by decide +kernel
theorem dX8_many_28 : decode cX8_many 28 = .ok (.iadd, 1) := by decide +kernel
theorem dX8_many_29 : decode cX8_many 29 = .ok (.istore_n 2, 1) := by decide +kernel
theorem dX8_many_30 : decode cX8_many 30 = .ok (.iinc 3 1, 3) := by decide +kernel
theorem dX8_many_33 : decode cX8_many 33 = .ok (.goto (-29), 3) := by decide +kernel
theorem dX8_many_36 : decode cX8_many 36 = .ok (.iload_n 2, 1) := by decide +kernel
theorem dX8_many_37 : decode cX8_many 37 = .ok (.ireturn, 1) := by decide +kernel
set_option maxRecDepth 20000 in
theorem m_X8_many {h : Hp} {a1 : Int32}  {u : Int32} (hu : f_X8_many h a1 = some u) : Ct yX8_many cX8_many 4 (some .int) 0 [.ref 68, .int a1] h ((rI h) u) := by
  refine ct_of (rI h) hu (by decide) (Nat.le_of_ble_eq_true rfl) (fun κ hn C E => ?_)
  have n2 : 2 < kn κ := by rw [hn]; decide
  have n3 : 3 < kn κ := by rw [hn]; decide
  unfold f_X8_many
  show Xz κ _ 0 [(0, .ref 68), (1, .int a1)] [] h
  refine x_iconst 1 C dX8_many_0 ci_0 rfl ?_
  refine x_istore_n 2 [(2, .int (0 : Int32)), (0, .ref 68), (1, .int a1)] C dX8_many_1 n2 rfl rfl rfl ?_
  refine x_iconst 3 C dX8_many_2 ci_0 rfl ?_
  refine x_istore_n 4 [(3, .int (0 : Int32)), (2, .int (0 : Int32)), (0, .ref 68), (1, .int a1)] C dX8_many_3 n3 rfl rfl rfl ?_
  refine x_ls [2, 3, 1, 0] rfl (x_fx2 (ls := fun x1 x2 => [(0, .ref 68), (1, .int a1), (2, .int x1), (3, .int x2)]) (st := fun x1 x2 => []) (hh := fun x1 x2 => h) (fun s1 J1 x1 x2 => ?_))
  refine x_iload_n 5 C dX8_many_4 3 rfl rfl rfl ?_
  refine x_aload_n 6 C dX8_many_5 0 rfl rfl rfl ?_
  refine x_getI 9 C dX8_many_6 fl_X8_127 sk_68 rfl rfl ?_
  refine x_icmp_ge 12 36 C dX8_many_9 (by decide) rfl (fun _ => ?_) (fun _ => ?_)
  · refine x_iload_n 37 C dX8_many_36 2 rfl rfl rfl ?_
    exact x_iret C E dX8_many_37 rfl
  · refine x_iload_n 13 C dX8_many_12 2 rfl rfl rfl ?_
    refine x_aload_n 14 C dX8_many_13 0 rfl rfl rfl ?_
    refine x_getR (c := 79) 17 C dX8_many_14 fl_X8_40 sk_68 rfl sr_68_15 rfl ?_
    refine x_iload_n 18 C dX8_many_17 3 rfl rfl rfl ?_
    refine x_iald 19 C dX8_many_18 sk_79 sl_79 rfl ?_
    refine x_iload_n 20 C dX8_many_19 1 rfl rfl rfl ?_
    refine x_lt1 (q := 28) (ls := fun x3 => [(0, .ref 68), (1, .int a1), (3, .int x2)]) (st := fun x3 => [.int x3, .int x1]) (hh := fun x3 => h) (fun x3 => ?_) (fun k2 J2 => ?_)
    · refine x_iadd 29 C dX8_many_28 rfl ?_
      refine x_ni (fun x4 => ?_)
      refine x_istore_n 30 [(2, .int x4), (0, .ref 68), (1, .int a1), (3, .int x2)] C dX8_many_29 n2 rfl rfl rfl ?_
      refine x_iinc 33 (fun x5 => [(3, .int x5), (2, .int x4), (0, .ref 68), (1, .int a1)]) C dX8_many_30 3 rfl ci_1 n3 (fun _ => rfl) rfl (fun x5 => ?_)
      refine x_goto 4 C dX8_many_33 (by decide) ?_
      exact x_ls [2, 3, 1, 0] rfl (J1 x4 x5)
    refine x_icmp_ne 23 27 C dX8_many_20 (by decide) rfl (fun _ => ?_) (fun _ => ?_)
    · refine x_iconst 28 C dX8_many_27 ci_0 rfl ?_
      exact x_ls [0, 1, 3] rfl (J2 (0 : Int32))
    · refine x_iconst 24 C dX8_many_23 ci_1 rfl ?_
      refine x_goto 28 C dX8_many_24 (by decide) ?_
      exact x_ls [0, 1, 3] rfl (J2 (1 : Int32))

def f_X8_sumBy (h : Hp) (a1 : Int32) : Option Int32 :=
  if a1 = 0 then (
    bdr (f_X8_many h (2 : Int32)) fun x2 =>
    some x2)
  else (
    if a1 = (1 : Int32) then (
      bdr (f_X8_many h (3 : Int32)) fun x1 =>
      some x1)
    else (
      some (h.1 68 27)))
theorem dX8_sumBy_0 : decode cX8_sumBy 0 = .ok (.iload_n 1, 1) := by decide +kernel
theorem dX8_sumBy_1 : decode cX8_sumBy 1 = .ok (.ifCond .ne 11, 3) := by decide +kernel
theorem dX8_sumBy_4 : decode cX8_sumBy 4 = .ok (.aload_n 0, 1) := by decide +kernel
theorem dX8_sumBy_5 : decode cX8_sumBy 5 = .ok (.iconst 2, 1) := by decide +kernel
theorem dX8_sumBy_6 : decode cX8_sumBy 6 = .ok (.invokevirtual 229, 3) := by decide +kernel
theorem dX8_sumBy_9 : decode cX8_sumBy 9 = .ok (.goto 20, 3) := by decide +kernel
theorem dX8_sumBy_12 : decode cX8_sumBy 12 = .ok (.iload_n 1, 1) := by decide +kernel
theorem dX8_sumBy_13 : decode cX8_sumBy 13 = .ok (.iconst 1, 1) := by decide +kernel
theorem dX8_sumBy_14 : decode cX8_sumBy 14 = .ok (.if_icmp .ne 11, 3) := by decide +kernel
theorem dX8_sumBy_17 : decode cX8_sumBy 17 = .ok (.aload_n 0, 1) := by decide +kernel
theorem dX8_sumBy_18 : decode cX8_sumBy 18 = .ok (.iconst 3, 1) := by decide +kernel
theorem dX8_sumBy_19 : decode cX8_sumBy 19 = .ok (.invokevirtual 229, 3) := by decide +kernel
theorem dX8_sumBy_22 : decode cX8_sumBy 22 = .ok (.goto 7, 3) := by decide +kernel
theorem dX8_sumBy_25 : decode cX8_sumBy 25 = .ok (.aload_n 0, 1) := by decide +kernel
theorem dX8_sumBy_26 : decode cX8_sumBy 26 = .ok (.getfield 191, 3) := by decide +kernel
theorem dX8_sumBy_29 : decode cX8_sumBy 29 = .ok (.ireturn, 1) := by decide +kernel
set_option maxRecDepth 20000 in
theorem m_X8_sumBy {h : Hp} {a1 : Int32}  {u : Int32} (hu : f_X8_sumBy h a1 = some u) : Ct yX8_sumBy cX8_sumBy 2 (some .int) 1 [.ref 68, .int a1] h ((rI h) u) := by
  refine ct_of (rI h) hu (by decide) (Nat.le_of_ble_eq_true rfl) (fun κ hn C E => ?_)
  unfold f_X8_sumBy
  show Xz κ _ 0 [(0, .ref 68), (1, .int a1)] [] h
  refine x_iload_n 1 C dX8_sumBy_0 1 rfl rfl rfl ?_
  refine x_if_ne 4 12 C dX8_sumBy_1 (by decide) rfl (fun _ => ?_) (fun _ => ?_)
  · refine x_iload_n 13 C dX8_sumBy_12 1 rfl rfl rfl ?_
    refine x_iconst 14 C dX8_sumBy_13 ci_1 rfl ?_
    refine x_icmp_ne 17 25 C dX8_sumBy_14 (by decide) rfl (fun _ => ?_) (fun _ => ?_)
    · refine x_aload_n 26 C dX8_sumBy_25 0 rfl rfl rfl ?_
      refine x_getI 29 C dX8_sumBy_26 fl_X8_191 sk_68 rfl rfl ?_
      exact x_iret C E dX8_sumBy_29 rfl
    · refine x_aload_n 18 C dX8_sumBy_17 0 rfl rfl rfl ?_
      refine x_iconst 19 C dX8_sumBy_18 ci_3 rfl ?_
      refine x_cvi 22 [.int (3 : Int32)] [] C 0 dX8_sumBy_19 v_X8_229 (fun u hu => m_X8_many hu) rfl sk_68 rfl (Nat.le_of_ble_eq_true rfl) (Nat.le_of_ble_eq_true rfl) rfl (fun x1 => ?_)
      refine x_goto 29 C dX8_sumBy_22 (by decide) ?_
      exact x_iret C E dX8_sumBy_29 rfl
  · refine x_aload_n 5 C dX8_sumBy_4 0 rfl rfl rfl ?_
    refine x_iconst 6 C dX8_sumBy_5 ci_2 rfl ?_
    refine x_cvi 9 [.int (2 : Int32)] [] C 0 dX8_sumBy_6 v_X8_229 (fun u hu => m_X8_many hu) rfl sk_68 rfl (Nat.le_of_ble_eq_true rfl) (Nat.le_of_ble_eq_true rfl) rfl (fun x2 => ?_)
    refine x_goto 29 C dX8_sumBy_9 (by decide) ?_
    exact x_iret C E dX8_sumBy_29 rfl

def f_X8_sum (h : Hp) (a1 : Int32) : Option (Hp × Int32) :=
  bdv (f_X8_find h) fun h1 =>
  bdr (f_X8_in (a1.toInt64) (0 : Int64) (2 : Int64)) fun x2 =>
  if x2 = 0 then (
    some (h1, (-2 : Int32)))
  else (
    bdr (f_X8_sumBy h1 a1) fun x3 =>
    some (h1, x3))
theorem dX8_sum_0 : decode cX8_sum 0 = .ok (.aload_n 0, 1) := by decide +kernel
theorem dX8_sum_1 : decode cX8_sum 1 = .ok (.invokevirtual 220, 3) := by decide +kernel
theorem dX8_sum_4 : decode cX8_sum 4 = .ok (.iload_n 1, 1) := by decide +kernel
theorem dX8_sum_5 : decode cX8_sum 5 = .ok (.i2l, 1) := by decide +kernel
theorem dX8_sum_6 : decode cX8_sum 6 = .ok (.lconst 0, 1) := by decide +kernel
theorem dX8_sum_7 : decode cX8_sum 7 = .ok (.ldc2_w 99, 3) := by decide +kernel
theorem dX8_sum_10 : decode cX8_sum 10 = .ok (.invokestatic 85, 3) := by decide +kernel
theorem dX8_sum_13 : decode cX8_sum 13 = .ok (.ifCond .eq 11, 3) := by decide +kernel
theorem dX8_sum_16 : decode cX8_sum 16 = .ok (.aload_n 0, 1) := by decide +kernel
theorem dX8_sum_17 : decode cX8_sum 17 = .ok (.iload_n 1, 1) := by decide +kernel
theorem dX8_sum_18 : decode cX8_sum 18 = .ok (.invokevirtual 232, 3) := by decide +kernel
theorem dX8_sum_21 : decode cX8_sum 21 = .ok (.goto 5, 3) := by decide +kernel
theorem dX8_sum_24 : decode cX8_sum 24 = .ok (.bipush (-2), 2) := by decide +kernel
theorem dX8_sum_26 : decode cX8_sum 26 = .ok (.ireturn, 1) := by decide +kernel
set_option maxRecDepth 20000 in
theorem m_X8_sum {h : Hp} {a1 : Int32}  {u : (Hp × Int32)} (hu : f_X8_sum h a1 = some u) : Ct yX8_sum cX8_sum 2 (some .int) 7 [.ref 68, .int a1] h (eI u) := by
  refine ct_of eI hu (by decide) (Nat.le_of_ble_eq_true rfl) (fun κ hn C E => ?_)
  unfold f_X8_sum
  show Xz κ _ 0 [(0, .ref 68), (1, .int a1)] [] h
  refine x_aload_n 1 C dX8_sum_0 0 rfl rfl rfl ?_
  refine x_cvV 4 [] [] C 6 dX8_sum_1 v_X8_220 (fun u hu => m_X8_find hu) rfl sk_68 rfl (Nat.le_of_ble_eq_true rfl) (Nat.le_of_ble_eq_true rfl) rfl (fun h1 => ?_)
  refine x_iload_n 5 C dX8_sum_4 1 rfl rfl rfl ?_
  refine x_i2l 6 C dX8_sum_5 rfl ?_
  refine x_lconst 7 C dX8_sum_6 cl_0 rfl ?_
  refine x_ldc2 10 C dX8_sum_7 kw_X8_99 rfl ?_
  refine x_csi 13 [.long (a1.toInt64), .long (0 : Int64), .long (2 : Int64)] [] C 0 dX8_sum_10 s_X8_85 (fun u hu => m_X8_in hu) rfl rfl (Nat.le_of_ble_eq_true rfl) (Nat.le_of_ble_eq_true rfl) rfl (fun x2 => ?_)
  refine x_if_eq 16 24 C dX8_sum_13 (by decide) rfl (fun _ => ?_) (fun _ => ?_)
  · refine x_bipush 26 C dX8_sum_24 cb_m2 rfl ?_
    exact x_iret C E dX8_sum_26 rfl
  · refine x_aload_n 17 C dX8_sum_16 0 rfl rfl rfl ?_
    refine x_iload_n 18 C dX8_sum_17 1 rfl rfl rfl ?_
    refine x_cvi 21 [.int a1] [] C 1 dX8_sum_18 v_X8_232 (fun u hu => m_X8_sumBy hu) rfl sk_68 rfl (Nat.le_of_ble_eq_true rfl) (Nat.le_of_ble_eq_true rfl) rfl (fun x3 => ?_)
    refine x_goto 26 C dX8_sum_21 (by decide) ?_
    exact x_iret C E dX8_sum_26 rfl

def f_X8_firstNow (h : Hp) : Option Int32 :=
  fx3 FU (fun s1 (x1 : Int32) (x2 : Int32) (x3 : Int32) =>
    if (h.1 68 7) ≤ x3 then (
      some x1)
    else (
      ck x3 6 (
        lt1 (fun (x4 : Int32) =>
          lt1 (fun (x5 : Int32) =>
            lt1 (fun (x6 : Int32) =>
              nm (x3 + (1 : Int32)) fun x7 =>
              s1 x5 x6 x7) fun k4 =>
            if x4 = 0 then (
              k4 x2)
            else (
              ck x3 6 (
                k4 (ia h 84 x3)))) fun k3 =>
          if x4 = 0 then (
            k3 x1)
          else (
            k3 x3)) fun k2 =>
        lt1 (fun (u8 : Int32) =>
          k2 (0 : Int32)) fun k5 =>
        if (ia h 79 x3) = (2 : Int32) then (
          ck x3 6 (
            if x2 ≤ (ia h 84 x3) then (
              k5 (0 : Int32))
            else (
              k2 (1 : Int32))))
        else (
          k5 (0 : Int32))))) (-1 : Int32) (99 : Int32) (0 : Int32)
theorem dX8_firstNow_0 : decode cX8_firstNow 0 = .ok (.iconst (-1), 1) := by decide +kernel
theorem dX8_firstNow_1 : decode cX8_firstNow 1 = .ok (.istore_n 1, 1) := by decide +kernel
theorem dX8_firstNow_2 : decode cX8_firstNow 2 = .ok (.bipush 99, 2) := by decide +kernel
theorem dX8_firstNow_4 : decode cX8_firstNow 4 = .ok (.istore_n 2, 1) := by decide +kernel
theorem dX8_firstNow_5 : decode cX8_firstNow 5 = .ok (.iconst 0, 1) := by decide +kernel
theorem dX8_firstNow_6 : decode cX8_firstNow 6 = .ok (.istore_n 3, 1) := by decide +kernel
theorem dX8_firstNow_7 : decode cX8_firstNow 7 = .ok (.iload_n 3, 1) := by decide +kernel
theorem dX8_firstNow_8 : decode cX8_firstNow 8 = .ok (.aload_n 0, 1) := by decide +kernel
theorem dX8_firstNow_9 : decode cX8_firstNow 9 = .ok (.getfield 127, 3) := by decide +kernel
theorem dX8_firstNow_12 : decode cX8_firstNow 12 = .ok (.if_icmp .ge 63, 3) := by decide +kernel
theorem dX8_firstNow_15 : decode cX8_firstNow 15 = .ok (.aload_n 0, 1) := by decide +kernel
theorem dX8_firstNow_16 : decode cX8_firstNow 16 = .ok (.getfield 40, 3) := by decide +kernel
theorem dX8_firstNow_19 : decode cX8_firstNow 19 = .ok (.iload_n 3, 1) := by decide +kernel
theorem dX8_firstNow_20 : decode cX8_firstNow 20 = .ok (.iaload, 1) := by decide +kernel
theorem dX8_firstNow_21 : decode cX8_firstNow 21 = .ok (.iconst 2, 1) := by decide +kernel
theorem dX8_firstNow_22 : decode cX8_firstNow 22 = .ok (.if_icmp .ne 17, 3) := by decide +kernel
theorem dX8_firstNow_25 : decode cX8_firstNow 25 = .ok (.aload_n 0, 1) := by decide +kernel
theorem dX8_firstNow_26 : decode cX8_firstNow 26 = .ok (.getfield 55, 3) := by decide +kernel
theorem dX8_firstNow_29 : decode cX8_firstNow 29 = .ok (.iload_n 3, 1) := by decide +kernel
theorem dX8_firstNow_30 : decode cX8_firstNow 30 = .ok (.iaload, 1) := by decide +kernel
theorem dX8_firstNow_31 : decode cX8_firstNow 31 = .ok (.iload_n 2, 1) := by decide +kernel
theorem dX8_firstNow_32 : decode cX8_firstNow 32 = .ok (.if_icmp .ge 7, 3) := by decide +kernel
theorem dX8_firstNow_35 : decode cX8_firstNow 35 = .ok (.iconst 1, 1) := by decide +kernel
theorem dX8_firstNow_36 : decode cX8_firstNow 36 = .ok (.goto 4, 3) := by decide +kernel
theorem dX8_firstNow_39 : decode cX8_firstNow 39 = .ok (.iconst 0, 1) := by decide +kernel
theorem dX8_firstNow_40 : decode cX8_firstNow 40 = .ok (.istore 4, 2) := by decide +kernel
theorem dX8_firstNow_42 : decode cX8_firstNow 42 = .ok (.iload 4, 2) := by decide +kernel
theorem dX8_firstNow_44 : decode cX8_firstNow 44 = .ok (.ifCond .eq 7, 3) := by decide +kernel
theorem dX8_firstNow_47 : decode cX8_firstNow 47 = .ok (.iload_n 3, 1) := by decide +kernel
theorem dX8_firstNow_48 : decode cX8_firstNow 48 = .ok (.goto 4, 3) := by decide +kernel
theorem dX8_firstNow_51 : decode cX8_firstNow 51 = .ok (.iload_n 1, 1) := by decide +kernel
theorem dX8_firstNow_52 : decode cX8_firstNow 52 = .ok (.istore_n 1, 1) := by decide +kernel
theorem dX8_firstNow_53 : decode cX8_firstNow 53 = .ok (.iload 4, 2) := by decide +kernel
theorem dX8_firstNow_55 : decode cX8_firstNow 55 = .ok (.ifCond .eq 12, 3) := by decide +kernel
theorem dX8_firstNow_58 : decode cX8_firstNow 58 = .ok (.aload_n 0, 1) := by decide +kernel
theorem dX8_firstNow_59 : decode cX8_firstNow 59 = .ok (.getfield 55, 3) := by decide +kernel
theorem dX8_firstNow_62 : decode cX8_firstNow 62 = .ok (.iload_n 3, 1) := by decide +kernel
theorem dX8_firstNow_63 : decode cX8_firstNow 63 = .ok (.iaload, 1) := by decide +kernel
theorem dX8_firstNow_64 : decode cX8_firstNow 64 = .ok (.goto 4, 3) := by decide +kernel
theorem dX8_firstNow_67 : decode cX8_firstNow 67 = .ok (.iload_n 2, 1) := by decide +kernel
theorem dX8_firstNow_68 : decode cX8_firstNow 68 = .ok (.istore_n 2, 1) := by decide +kernel
theorem dX8_firstNow_69 : decode cX8_firstNow 69 = .ok (.iinc 3 1, 3) := by decide +kernel
theorem dX8_firstNow_72 : decode cX8_firstNow 72 = .ok (.goto (-65), 3) := by decide +kernel
theorem dX8_firstNow_75 : decode cX8_firstNow 75 = .ok (.iload_n 1, 1) := by decide +kernel
theorem dX8_firstNow_76 : decode cX8_firstNow 76 = .ok (.ireturn, 1) := by decide +kernel
set_option maxRecDepth 20000 in
theorem m_X8_firstNow {h : Hp}  {u : Int32} (hu : f_X8_firstNow h = some u) : Ct yX8_firstNow cX8_firstNow 5 (some .int) 0 [.ref 68] h ((rI h) u) := by
  refine ct_of (rI h) hu (by decide) (Nat.le_of_ble_eq_true rfl) (fun κ hn C E => ?_)
  have n1 : 1 < kn κ := by rw [hn]; decide
  have n2 : 2 < kn κ := by rw [hn]; decide
  have n3 : 3 < kn κ := by rw [hn]; decide
  have n4 : 4 < kn κ := by rw [hn]; decide
  unfold f_X8_firstNow
  show Xz κ _ 0 [(0, .ref 68)] [] h
  refine x_iconst 1 C dX8_firstNow_0 ci_m1 rfl ?_
  refine x_istore_n 2 [(1, .int (-1 : Int32)), (0, .ref 68)] C dX8_firstNow_1 n1 rfl rfl rfl ?_
  refine x_bipush 4 C dX8_firstNow_2 cb_99 rfl ?_
  refine x_istore_n 5 [(2, .int (99 : Int32)), (1, .int (-1 : Int32)), (0, .ref 68)] C dX8_firstNow_4 n2 rfl rfl rfl ?_
  refine x_iconst 6 C dX8_firstNow_5 ci_0 rfl ?_
  refine x_istore_n 7 [(3, .int (0 : Int32)), (2, .int (99 : Int32)), (1, .int (-1 : Int32)), (0, .ref 68)] C dX8_firstNow_6 n3 rfl rfl rfl ?_
  refine x_ls [3, 2, 1, 0] rfl (x_fx3 (ls := fun x1 x2 x3 => [(0, .ref 68), (1, .int x1), (2, .int x2), (3, .int x3)]) (st := fun x1 x2 x3 => []) (hh := fun x1 x2 x3 => h) (fun s1 J1 x1 x2 x3 => ?_))
  refine x_iload_n 8 C dX8_firstNow_7 3 rfl rfl rfl ?_
  refine x_aload_n 9 C dX8_firstNow_8 0 rfl rfl rfl ?_
  refine x_getI 12 C dX8_firstNow_9 fl_X8_127 sk_68 rfl rfl ?_
  refine x_icmp_ge 15 75 C dX8_firstNow_12 (by decide) rfl (fun _ => ?_) (fun _ => ?_)
  · refine x_iload_n 76 C dX8_firstNow_75 1 rfl rfl rfl ?_
    exact x_iret C E dX8_firstNow_76 rfl
  · refine x_aload_n 16 C dX8_firstNow_15 0 rfl rfl rfl ?_
    refine x_getR (c := 79) 19 C dX8_firstNow_16 fl_X8_40 sk_68 rfl sr_68_15 rfl ?_
    refine x_iload_n 20 C dX8_firstNow_19 3 rfl rfl rfl ?_
    refine x_iald 21 C dX8_firstNow_20 sk_79 sl_79 rfl ?_
    refine x_iconst 22 C dX8_firstNow_21 ci_2 rfl ?_
    refine x_lt1 (q := 40) (ls := fun x4 => [(0, .ref 68), (1, .int x1), (2, .int x2), (3, .int x3)]) (st := fun x4 => [.int x4]) (hh := fun x4 => h) (fun x4 => ?_) (fun k2 J2 => ?_)
    · refine x_istore 42 [(4, .int x4), (0, .ref 68), (1, .int x1), (2, .int x2), (3, .int x3)] C dX8_firstNow_40 n4 rfl rfl ?_
      refine x_iload 44 C dX8_firstNow_42 0 rfl rfl ?_
      refine x_lt1 (q := 52) (ls := fun x5 => [(0, .ref 68), (2, .int x2), (3, .int x3), (4, .int x4)]) (st := fun x5 => [.int x5]) (hh := fun x5 => h) (fun x5 => ?_) (fun k3 J3 => ?_)
      · refine x_istore_n 53 [(1, .int x5), (0, .ref 68), (2, .int x2), (3, .int x3), (4, .int x4)] C dX8_firstNow_52 n1 rfl rfl rfl ?_
        refine x_iload 55 C dX8_firstNow_53 4 rfl rfl ?_
        refine x_lt1 (q := 68) (ls := fun x6 => [(0, .ref 68), (1, .int x5), (3, .int x3)]) (st := fun x6 => [.int x6]) (hh := fun x6 => h) (fun x6 => ?_) (fun k4 J4 => ?_)
        · refine x_istore_n 69 [(2, .int x6), (0, .ref 68), (1, .int x5), (3, .int x3)] C dX8_firstNow_68 n2 rfl rfl rfl ?_
          refine x_iinc 72 (fun x7 => [(3, .int x7), (2, .int x6), (0, .ref 68), (1, .int x5)]) C dX8_firstNow_69 3 rfl ci_1 n3 (fun _ => rfl) rfl (fun x7 => ?_)
          refine x_goto 7 C dX8_firstNow_72 (by decide) ?_
          exact x_ls [2, 3, 1, 0] rfl (J1 x5 x6 x7)
        refine x_if_eq 58 67 C dX8_firstNow_55 (by decide) rfl (fun _ => ?_) (fun _ => ?_)
        · refine x_iload_n 68 C dX8_firstNow_67 2 rfl rfl rfl ?_
          exact x_ls [1, 0, 3] rfl (J4 x2)
        · refine x_aload_n 59 C dX8_firstNow_58 1 rfl rfl rfl ?_
          refine x_getR (c := 84) 62 C dX8_firstNow_59 fl_X8_55 sk_68 rfl sr_68_20 rfl ?_
          refine x_iload_n 63 C dX8_firstNow_62 3 rfl rfl rfl ?_
          refine x_iald 64 C dX8_firstNow_63 sk_84 sl_84 rfl ?_
          refine x_goto 68 C dX8_firstNow_64 (by decide) ?_
          exact x_ls [1, 0, 3] rfl (J4 (ia h 84 x3))
      refine x_if_eq 47 51 C dX8_firstNow_44 (by decide) rfl (fun _ => ?_) (fun _ => ?_)
      · refine x_iload_n 52 C dX8_firstNow_51 2 rfl rfl rfl ?_
        exact x_ls [1, 3, 4, 0] rfl (J3 x1)
      · refine x_iload_n 48 C dX8_firstNow_47 4 rfl rfl rfl ?_
        refine x_goto 52 C dX8_firstNow_48 (by decide) ?_
        exact x_ls [1, 3, 4, 0] rfl (J3 x3)
    refine x_lt1 (q := 39) (ls := fun u8 => [(0, .ref 68), (1, .int x1), (2, .int x2), (3, .int x3)]) (st := fun u8 => []) (hh := fun u8 => h) (fun u8 => ?_) (fun k5 J5 => ?_)
    · refine x_iconst 40 C dX8_firstNow_39 ci_0 rfl ?_
      exact x_ls [0, 1, 2, 3] rfl (J2 (0 : Int32))
    refine x_icmp_ne 25 39 C dX8_firstNow_22 (by decide) rfl (fun _ => ?_) (fun _ => ?_)
    · exact x_ls [0, 1, 2, 3] rfl (J5 (0 : Int32))
    · refine x_aload_n 26 C dX8_firstNow_25 0 rfl rfl rfl ?_
      refine x_getR (c := 84) 29 C dX8_firstNow_26 fl_X8_55 sk_68 rfl sr_68_20 rfl ?_
      refine x_iload_n 30 C dX8_firstNow_29 3 rfl rfl rfl ?_
      refine x_iald 31 C dX8_firstNow_30 sk_84 sl_84 rfl ?_
      refine x_iload_n 32 C dX8_firstNow_31 2 rfl rfl rfl ?_
      refine x_icmp_ge 35 39 C dX8_firstNow_32 (by decide) rfl (fun _ => ?_) (fun _ => ?_)
      · exact x_ls [0, 1, 2, 3] rfl (J5 (0 : Int32))
      · refine x_iconst 36 C dX8_firstNow_35 ci_1 rfl ?_
        refine x_goto 40 C dX8_firstNow_36 (by decide) ?_
        exact x_ls [0, 1, 2, 3] rfl (J2 (1 : Int32))

def f_X8_worstNow (h : Hp) : Option Int32 :=
  fx3 FU (fun s1 (x1 : Int32) (x2 : Int32) (x3 : Int32) =>
    if (h.1 68 7) ≤ x3 then (
      some x1)
    else (
      ck x3 6 (
        lt1 (fun (x4 : Int32) =>
          ck x3 6 (
            bdr (f_X8_greater (ia h 86 x3) x2) fun x5 =>
            nm (x3 + (1 : Int32)) fun x6 =>
            s1 x4 x5 x6)) fun k2 =>
        if (ia h 86 x3) ≤ x2 then (
          k2 x1)
        else (
          k2 x3)))) (-1 : Int32) (0 : Int32) (0 : Int32)
theorem dX8_worstNow_0 : decode cX8_worstNow 0 = .ok (.iconst (-1), 1) := by decide +kernel
theorem dX8_worstNow_1 : decode cX8_worstNow 1 = .ok (.istore_n 1, 1) := by decide +kernel
theorem dX8_worstNow_2 : decode cX8_worstNow 2 = .ok (.iconst 0, 1) := by decide +kernel
theorem dX8_worstNow_3 : decode cX8_worstNow 3 = .ok (.istore_n 2, 1) := by decide +kernel
theorem dX8_worstNow_4 : decode cX8_worstNow 4 = .ok (.iconst 0, 1) := by decide +kernel
theorem dX8_worstNow_5 : decode cX8_worstNow 5 = .ok (.istore_n 3, 1) := by decide +kernel
theorem dX8_worstNow_6 : decode cX8_worstNow 6 = .ok (.iload_n 3, 1) := by decide +kernel
theorem dX8_worstNow_7 : decode cX8_worstNow 7 = .ok (.aload_n 0, 1) := by decide +kernel
theorem dX8_worstNow_8 : decode cX8_worstNow 8 = .ok (.getfield 127, 3) := by decide +kernel
theorem dX8_worstNow_11 : decode cX8_worstNow 11 = .ok (.if_icmp .ge 36, 3) := by decide +kernel
theorem dX8_worstNow_14 : decode cX8_worstNow 14 = .ok (.aload_n 0, 1) := by decide +kernel
theorem dX8_worstNow_15 : decode cX8_worstNow 15 = .ok (.getfield 61, 3) := by decide +kernel
theorem dX8_worstNow_18 : decode cX8_worstNow 18 = .ok (.iload_n 3, 1) := by decide +kernel
theorem dX8_worstNow_19 : decode cX8_worstNow 19 = .ok (.iaload, 1) := by decide +kernel
theorem dX8_worstNow_20 : decode cX8_worstNow 20 = .ok (.iload_n 2, 1) := by decide +kernel
theorem dX8_worstNow_21 : decode cX8_worstNow 21 = .ok (.if_icmp .le 7, 3) := by decide +kernel
theorem dX8_worstNow_24 : decode cX8_worstNow 24 = .ok (.iload_n 3, 1) := by decide +kernel
theorem dX8_worstNow_25 : decode cX8_worstNow 25 = .ok (.goto 4, 3) := by decide +kernel
theorem dX8_worstNow_28 : decode cX8_worstNow 28 = .ok (.iload_n 1, 1) := by decide +kernel
theorem dX8_worstNow_29 : decode cX8_worstNow 29 = .ok (.istore_n 1, 1) := by decide +kernel
theorem dX8_worstNow_30 : decode cX8_worstNow 30 = .ok (.aload_n 0, 1) := by decide +kernel
theorem dX8_worstNow_31 : decode cX8_worstNow 31 = .ok (.getfield 61, 3) := by decide +kernel
theorem dX8_worstNow_34 : decode cX8_worstNow 34 = .ok (.iload_n 3, 1) := by decide +kernel
theorem dX8_worstNow_35 : decode cX8_worstNow 35 = .ok (.iaload, 1) := by decide +kernel
theorem dX8_worstNow_36 : decode cX8_worstNow 36 = .ok (.iload_n 2, 1) := by decide +kernel
theorem dX8_worstNow_37 : decode cX8_worstNow 37 = .ok (.invokestatic 210, 3) := by decide +kernel
theorem dX8_worstNow_40 : decode cX8_worstNow 40 = .ok (.istore_n 2, 1) := by decide +kernel
theorem dX8_worstNow_41 : decode cX8_worstNow 41 = .ok (.iinc 3 1, 3) := by decide +kernel
theorem dX8_worstNow_44 : decode cX8_worstNow 44 = .ok (.goto (-38), 3) := by decide +kernel
theorem dX8_worstNow_47 : decode cX8_worstNow 47 = .ok (.iload_n 1, 1) := by decide +kernel
theorem dX8_worstNow_48 : decode cX8_worstNow 48 = .ok (.ireturn, 1) := by decide +kernel
set_option maxRecDepth 20000 in
theorem m_X8_worstNow {h : Hp}  {u : Int32} (hu : f_X8_worstNow h = some u) : Ct yX8_worstNow cX8_worstNow 4 (some .int) 1 [.ref 68] h ((rI h) u) := by
  refine ct_of (rI h) hu (by decide) (Nat.le_of_ble_eq_true rfl) (fun κ hn C E => ?_)
  have n1 : 1 < kn κ := by rw [hn]; decide
  have n2 : 2 < kn κ := by rw [hn]; decide
  have n3 : 3 < kn κ := by rw [hn]; decide
  unfold f_X8_worstNow
  show Xz κ _ 0 [(0, .ref 68)] [] h
  refine x_iconst 1 C dX8_worstNow_0 ci_m1 rfl ?_
  refine x_istore_n 2 [(1, .int (-1 : Int32)), (0, .ref 68)] C dX8_worstNow_1 n1 rfl rfl rfl ?_
  refine x_iconst 3 C dX8_worstNow_2 ci_0 rfl ?_
  refine x_istore_n 4 [(2, .int (0 : Int32)), (1, .int (-1 : Int32)), (0, .ref 68)] C dX8_worstNow_3 n2 rfl rfl rfl ?_
  refine x_iconst 5 C dX8_worstNow_4 ci_0 rfl ?_
  refine x_istore_n 6 [(3, .int (0 : Int32)), (2, .int (0 : Int32)), (1, .int (-1 : Int32)), (0, .ref 68)] C dX8_worstNow_5 n3 rfl rfl rfl ?_
  refine x_ls [3, 2, 1, 0] rfl (x_fx3 (ls := fun x1 x2 x3 => [(0, .ref 68), (1, .int x1), (2, .int x2), (3, .int x3)]) (st := fun x1 x2 x3 => []) (hh := fun x1 x2 x3 => h) (fun s1 J1 x1 x2 x3 => ?_))
  refine x_iload_n 7 C dX8_worstNow_6 3 rfl rfl rfl ?_
  refine x_aload_n 8 C dX8_worstNow_7 0 rfl rfl rfl ?_
  refine x_getI 11 C dX8_worstNow_8 fl_X8_127 sk_68 rfl rfl ?_
  refine x_icmp_ge 14 47 C dX8_worstNow_11 (by decide) rfl (fun _ => ?_) (fun _ => ?_)
  · refine x_iload_n 48 C dX8_worstNow_47 1 rfl rfl rfl ?_
    exact x_iret C E dX8_worstNow_48 rfl
  · refine x_aload_n 15 C dX8_worstNow_14 0 rfl rfl rfl ?_
    refine x_getR (c := 86) 18 C dX8_worstNow_15 fl_X8_61 sk_68 rfl sr_68_22 rfl ?_
    refine x_iload_n 19 C dX8_worstNow_18 3 rfl rfl rfl ?_
    refine x_iald 20 C dX8_worstNow_19 sk_86 sl_86 rfl ?_
    refine x_iload_n 21 C dX8_worstNow_20 2 rfl rfl rfl ?_
    refine x_lt1 (q := 29) (ls := fun x4 => [(0, .ref 68), (2, .int x2), (3, .int x3)]) (st := fun x4 => [.int x4]) (hh := fun x4 => h) (fun x4 => ?_) (fun k2 J2 => ?_)
    · refine x_istore_n 30 [(1, .int x4), (0, .ref 68), (2, .int x2), (3, .int x3)] C dX8_worstNow_29 n1 rfl rfl rfl ?_
      refine x_aload_n 31 C dX8_worstNow_30 1 rfl rfl rfl ?_
      refine x_getR (c := 86) 34 C dX8_worstNow_31 fl_X8_61 sk_68 rfl sr_68_22 rfl ?_
      refine x_iload_n 35 C dX8_worstNow_34 3 rfl rfl rfl ?_
      refine x_iald 36 C dX8_worstNow_35 sk_86 sl_86 rfl ?_
      refine x_iload_n 37 C dX8_worstNow_36 2 rfl rfl rfl ?_
      refine x_csi 40 [.int (ia h 86 x3), .int x2] [] C 0 dX8_worstNow_37 s_X8_210 (fun u hu => m_X8_greater hu) rfl rfl (Nat.le_of_ble_eq_true rfl) (Nat.le_of_ble_eq_true rfl) rfl (fun x5 => ?_)
      refine x_istore_n 41 [(2, .int x5), (1, .int x4), (0, .ref 68), (3, .int x3)] C dX8_worstNow_40 n2 rfl rfl rfl ?_
      refine x_iinc 44 (fun x6 => [(3, .int x6), (2, .int x5), (1, .int x4), (0, .ref 68)]) C dX8_worstNow_41 3 rfl ci_1 n3 (fun _ => rfl) rfl (fun x6 => ?_)
      refine x_goto 6 C dX8_worstNow_44 (by decide) ?_
      exact x_ls [3, 2, 1, 0] rfl (J1 x4 x5 x6)
    refine x_icmp_le 24 28 C dX8_worstNow_21 (by decide) rfl (fun _ => ?_) (fun _ => ?_)
    · refine x_iload_n 29 C dX8_worstNow_28 1 rfl rfl rfl ?_
      exact x_ls [0, 2, 3] rfl (J2 x1)
    · refine x_iload_n 25 C dX8_worstNow_24 3 rfl rfl rfl ?_
      refine x_goto 29 C dX8_worstNow_25 (by decide) ?_
      exact x_ls [0, 2, 3] rfl (J2 x3)

def f_X8_whoBy (h : Hp) (a1 : Int32) : Option Int32 :=
  if a1 = 0 then (
    bdr (f_X8_firstNow h) fun x2 =>
    some x2)
  else (
    bdr (f_X8_worstNow h) fun x1 =>
    some x1)
theorem dX8_whoBy_0 : decode cX8_whoBy 0 = .ok (.iload_n 1, 1) := by decide +kernel
theorem dX8_whoBy_1 : decode cX8_whoBy 1 = .ok (.ifCond .ne 10, 3) := by decide +kernel
theorem dX8_whoBy_4 : decode cX8_whoBy 4 = .ok (.aload_n 0, 1) := by decide +kernel
theorem dX8_whoBy_5 : decode cX8_whoBy 5 = .ok (.invokevirtual 235, 3) := by decide +kernel
theorem dX8_whoBy_8 : decode cX8_whoBy 8 = .ok (.goto 7, 3) := by decide +kernel
theorem dX8_whoBy_11 : decode cX8_whoBy 11 = .ok (.aload_n 0, 1) := by decide +kernel
theorem dX8_whoBy_12 : decode cX8_whoBy 12 = .ok (.invokevirtual 238, 3) := by decide +kernel
theorem dX8_whoBy_15 : decode cX8_whoBy 15 = .ok (.ireturn, 1) := by decide +kernel
set_option maxRecDepth 20000 in
theorem m_X8_whoBy {h : Hp} {a1 : Int32}  {u : Int32} (hu : f_X8_whoBy h a1 = some u) : Ct yX8_whoBy cX8_whoBy 2 (some .int) 2 [.ref 68, .int a1] h ((rI h) u) := by
  refine ct_of (rI h) hu (by decide) (Nat.le_of_ble_eq_true rfl) (fun κ hn C E => ?_)
  unfold f_X8_whoBy
  show Xz κ _ 0 [(0, .ref 68), (1, .int a1)] [] h
  refine x_iload_n 1 C dX8_whoBy_0 1 rfl rfl rfl ?_
  refine x_if_ne 4 11 C dX8_whoBy_1 (by decide) rfl (fun _ => ?_) (fun _ => ?_)
  · refine x_aload_n 12 C dX8_whoBy_11 0 rfl rfl rfl ?_
    refine x_cvi 15 [] [] C 1 dX8_whoBy_12 v_X8_238 (fun u hu => m_X8_worstNow hu) rfl sk_68 rfl (Nat.le_of_ble_eq_true rfl) (Nat.le_of_ble_eq_true rfl) rfl (fun x1 => ?_)
    exact x_iret C E dX8_whoBy_15 rfl
  · refine x_aload_n 5 C dX8_whoBy_4 0 rfl rfl rfl ?_
    refine x_cvi 8 [] [] C 0 dX8_whoBy_5 v_X8_235 (fun u hu => m_X8_firstNow hu) rfl sk_68 rfl (Nat.le_of_ble_eq_true rfl) (Nat.le_of_ble_eq_true rfl) rfl (fun x2 => ?_)
    refine x_goto 15 C dX8_whoBy_8 (by decide) ?_
    exact x_iret C E dX8_whoBy_15 rfl

def f_X8_who (h : Hp) (a1 : Int32) : Option (Hp × Int32) :=
  bdv (f_X8_find h) fun h1 =>
  bdr (f_X8_isTwo a1) fun x2 =>
  if x2 = 0 then (
    some (h1, (-2 : Int32)))
  else (
    bdr (f_X8_whoBy h1 a1) fun x3 =>
    some (h1, x3))
theorem dX8_who_0 : decode cX8_who 0 = .ok (.aload_n 0, 1) := by decide +kernel
theorem dX8_who_1 : decode cX8_who 1 = .ok (.invokevirtual 220, 3) := by decide +kernel
theorem dX8_who_4 : decode cX8_who 4 = .ok (.iload_n 1, 1) := by decide +kernel
theorem dX8_who_5 : decode cX8_who 5 = .ok (.invokestatic 114, 3) := by decide +kernel
theorem dX8_who_8 : decode cX8_who 8 = .ok (.ifCond .eq 11, 3) := by decide +kernel
theorem dX8_who_11 : decode cX8_who 11 = .ok (.aload_n 0, 1) := by decide +kernel
theorem dX8_who_12 : decode cX8_who 12 = .ok (.iload_n 1, 1) := by decide +kernel
theorem dX8_who_13 : decode cX8_who 13 = .ok (.invokevirtual 241, 3) := by decide +kernel
theorem dX8_who_16 : decode cX8_who 16 = .ok (.goto 5, 3) := by decide +kernel
theorem dX8_who_19 : decode cX8_who 19 = .ok (.bipush (-2), 2) := by decide +kernel
theorem dX8_who_21 : decode cX8_who 21 = .ok (.ireturn, 1) := by decide +kernel
set_option maxRecDepth 20000 in
theorem m_X8_who {h : Hp} {a1 : Int32}  {u : (Hp × Int32)} (hu : f_X8_who h a1 = some u) : Ct yX8_who cX8_who 2 (some .int) 7 [.ref 68, .int a1] h (eI u) := by
  refine ct_of eI hu (by decide) (Nat.le_of_ble_eq_true rfl) (fun κ hn C E => ?_)
  unfold f_X8_who
  show Xz κ _ 0 [(0, .ref 68), (1, .int a1)] [] h
  refine x_aload_n 1 C dX8_who_0 0 rfl rfl rfl ?_
  refine x_cvV 4 [] [] C 6 dX8_who_1 v_X8_220 (fun u hu => m_X8_find hu) rfl sk_68 rfl (Nat.le_of_ble_eq_true rfl) (Nat.le_of_ble_eq_true rfl) rfl (fun h1 => ?_)
  refine x_iload_n 5 C dX8_who_4 1 rfl rfl rfl ?_
  refine x_csi 8 [.int a1] [] C 1 dX8_who_5 s_X8_114 (fun u hu => m_X8_isTwo hu) rfl rfl (Nat.le_of_ble_eq_true rfl) (Nat.le_of_ble_eq_true rfl) rfl (fun x2 => ?_)
  refine x_if_eq 11 19 C dX8_who_8 (by decide) rfl (fun _ => ?_) (fun _ => ?_)
  · refine x_bipush 21 C dX8_who_19 cb_m2 rfl ?_
    exact x_iret C E dX8_who_21 rfl
  · refine x_aload_n 12 C dX8_who_11 0 rfl rfl rfl ?_
    refine x_iload_n 13 C dX8_who_12 1 rfl rfl rfl ?_
    refine x_cvi 16 [.int a1] [] C 2 dX8_who_13 v_X8_241 (fun u hu => m_X8_whoBy hu) rfl sk_68 rfl (Nat.le_of_ble_eq_true rfl) (Nat.le_of_ble_eq_true rfl) rfl (fun x3 => ?_)
    refine x_goto 21 C dX8_who_16 (by decide) ?_
    exact x_iret C E dX8_who_21 rfl

def f_X8_bareNow (h : Hp) : Option Int32 :=
  fx2 FU (fun s1 (x1 : Int32) (x2 : Int32) =>
    if (24 : Int32) ≤ x2 then (
      some x1)
    else (
      lt1 (fun (x3 : Int32) =>
        lt1 (fun (x4 : Int32) =>
          nm (x1 + x4) fun x5 =>
          nm (x2 + (1 : Int32)) fun x6 =>
          s1 x5 x6) fun k3 =>
        if x3 = 0 then (
          k3 (1 : Int32))
        else (
          k3 (0 : Int32))) fun k2 =>
      fx2 FU (fun s4 (x7 : Int32) (x8 : Int32) =>
        if (h.1 68 7) ≤ x8 then (
          k2 x7)
        else (
          ck (((6 : Int32) * x2) + x8) 144 (
            lt1 (fun (x9 : Int32) =>
              nm (x7 + x9) fun x10 =>
              nm (x8 + (1 : Int32)) fun x11 =>
              s4 x10 x11) fun k5 =>
            if (ia h 87 (((6 : Int32) * x2) + x8)) = (1 : Int32) then (
              k5 (1 : Int32))
            else (
              k5 (0 : Int32))))) (0 : Int32) (0 : Int32))) (0 : Int32) (0 : Int32)
theorem dX8_bareNow_0 : decode cX8_bareNow 0 = .ok (.iconst 0, 1) := by decide +kernel
theorem dX8_bareNow_1 : decode cX8_bareNow 1 = .ok (.istore_n 1, 1) := by decide +kernel
theorem dX8_bareNow_2 : decode cX8_bareNow 2 = .ok (.iconst 0, 1) := by decide +kernel
theorem dX8_bareNow_3 : decode cX8_bareNow 3 = .ok (.istore_n 2, 1) := by decide +kernel
theorem dX8_bareNow_4 : decode cX8_bareNow 4 = .ok (.iload_n 2, 1) := by decide +kernel
theorem dX8_bareNow_5 : decode cX8_bareNow 5 = .ok (.bipush 24, 2) := by decide +kernel
theorem dX8_bareNow_7 : decode cX8_bareNow 7 = .ok (.if_icmp .ge 65, 3) := by decide +kernel
theorem dX8_bareNow_10 : decode cX8_bareNow 10 = .ok (.iconst 0, 1) := by decide +kernel
theorem dX8_bareNow_11 : decode cX8_bareNow 11 = .ok (.istore_n 3, 1) := by decide +kernel
theorem dX8_bareNow_12 : decode cX8_bareNow 12 = .ok (.iconst 0, 1) := by decide +kernel
theorem dX8_bareNow_13 : decode cX8_bareNow 13 = .ok (.istore 4, 2) := by decide +kernel
theorem dX8_bareNow_15 : decode cX8_bareNow 15 = .ok (.iload 4, 2) := by decide +kernel
theorem dX8_bareNow_17 : decode cX8_bareNow 17 = .ok (.aload_n 0, 1) := by decide +kernel
theorem dX8_bareNow_18 : decode cX8_bareNow 18 = .ok (.getfield 127, 3) := by decide +kernel
theorem dX8_bareNow_21 : decode cX8_bareNow 21 = .ok (.if_icmp .ge 33, 3) := by decide +kernel
theorem dX8_bareNow_24 : decode cX8_bareNow 24 = .ok (.iload_n 3, 1) := by decide +kernel
theorem dX8_bareNow_25 : decode cX8_bareNow 25 = .ok (.aload_n 0, 1) := by decide +kernel
theorem dX8_bareNow_26 : decode cX8_bareNow 26 = .ok (.getfield 64, 3) := by decide +kernel
theorem dX8_bareNow_29 : decode cX8_bareNow 29 = .ok (.bipush 6, 2) := by decide +kernel
theorem dX8_bareNow_31 : decode cX8_bareNow 31 = .ok (.iload_n 2, 1) := by decide +kernel
theorem dX8_bareNow_32 : decode cX8_bareNow 32 = .ok (.imul, 1) := by decide +kernel
theorem dX8_bareNow_33 : decode cX8_bareNow 33 = .ok (.iload 4, 2) := by decide +kernel
theorem dX8_bareNow_35 : decode cX8_bareNow 35 = .ok (.iadd, 1) := by decide +kernel
theorem dX8_bareNow_36 : decode cX8_bareNow 36 = .ok (.iaload, 1) := by decide +kernel
theorem dX8_bareNow_37 : decode cX8_bareNow 37 = .ok (.iconst 1, 1) := by decide +kernel
theorem dX8_bareNow_38 : decode cX8_bareNow 38 = .ok (.if_icmp .ne 7, 3) := by decide +kernel
theorem dX8_bareNow_41 : decode cX8_bareNow 41 = .ok (.iconst 1, 1) := by decide +kernel
theorem dX8_bareNow_42 : decode cX8_bareNow 42 = .ok (.goto 4, 3) := by decide +kernel
theorem dX8_bareNow_45 : decode cX8_bareNow 45 = .ok (.iconst 0, 1) := by decide +kernel
theorem dX8_bareNow_46 : decode cX8_bareNow 46 = .ok (.iadd, 1) := by decide +kernel
theorem dX8_bareNow_47 : decode cX8_bareNow 47 = .ok (.istore_n 3, 1) := by decide +kernel
theorem dX8_bareNow_48 : decode cX8_bareNow 48 = .ok (.iinc 4 1, 3) := by decide +kernel
theorem dX8_bareNow_51 : decode cX8_bareNow 51 = .ok (.goto (-36), 3) := by decide +kernel
theorem dX8_bareNow_54 : decode cX8_bareNow 54 = .ok (.iload_n 1, 1) := by decide +kernel
theorem dX8_bareNow_55 : decode cX8_bareNow 55 = .ok (.iload_n 3, 1) := by decide +kernel
theorem dX8_bareNow_56 : decode cX8_bareNow 56 = .ok (.ifCond .ne 7, 3) := by decide +kernel
theorem dX8_bareNow_59 : decode cX8_bareNow 59 = .ok (.iconst 1, 1) := by decide +kernel
theorem dX8_bareNow_60 : decode cX8_bareNow 60 = .ok (.goto 4, 3) := by decide +kernel
theorem dX8_bareNow_63 : decode cX8_bareNow 63 = .ok (.iconst 0, 1) := by decide +kernel
theorem dX8_bareNow_64 : decode cX8_bareNow 64 = .ok (.iadd, 1) := by decide +kernel
theorem dX8_bareNow_65 : decode cX8_bareNow 65 = .ok (.istore_n 1, 1) := by decide +kernel
theorem dX8_bareNow_66 : decode cX8_bareNow 66 = .ok (.iinc 2 1, 3) := by decide +kernel
theorem dX8_bareNow_69 : decode cX8_bareNow 69 = .ok (.goto (-65), 3) := by decide +kernel
theorem dX8_bareNow_72 : decode cX8_bareNow 72 = .ok (.iload_n 1, 1) := by decide +kernel
theorem dX8_bareNow_73 : decode cX8_bareNow 73 = .ok (.ireturn, 1) := by decide +kernel
set_option maxRecDepth 20000 in
theorem m_X8_bareNow {h : Hp}  {u : Int32} (hu : f_X8_bareNow h = some u) : Ct yX8_bareNow cX8_bareNow 5 (some .int) 0 [.ref 68] h ((rI h) u) := by
  refine ct_of (rI h) hu (by decide) (Nat.le_of_ble_eq_true rfl) (fun κ hn C E => ?_)
  have n1 : 1 < kn κ := by rw [hn]; decide
  have n2 : 2 < kn κ := by rw [hn]; decide
  have n3 : 3 < kn κ := by rw [hn]; decide
  have n4 : 4 < kn κ := by rw [hn]; decide
  unfold f_X8_bareNow
  show Xz κ _ 0 [(0, .ref 68)] [] h
  refine x_iconst 1 C dX8_bareNow_0 ci_0 rfl ?_
  refine x_istore_n 2 [(1, .int (0 : Int32)), (0, .ref 68)] C dX8_bareNow_1 n1 rfl rfl rfl ?_
  refine x_iconst 3 C dX8_bareNow_2 ci_0 rfl ?_
  refine x_istore_n 4 [(2, .int (0 : Int32)), (1, .int (0 : Int32)), (0, .ref 68)] C dX8_bareNow_3 n2 rfl rfl rfl ?_
  refine x_ls [2, 1, 0] rfl (x_fx2 (ls := fun x1 x2 => [(0, .ref 68), (1, .int x1), (2, .int x2)]) (st := fun x1 x2 => []) (hh := fun x1 x2 => h) (fun s1 J1 x1 x2 => ?_))
  refine x_iload_n 5 C dX8_bareNow_4 2 rfl rfl rfl ?_
  refine x_bipush 7 C dX8_bareNow_5 cb_24 rfl ?_
  refine x_icmp_ge 10 72 C dX8_bareNow_7 (by decide) rfl (fun _ => ?_) (fun _ => ?_)
  · refine x_iload_n 73 C dX8_bareNow_72 1 rfl rfl rfl ?_
    exact x_iret C E dX8_bareNow_73 rfl
  · refine x_iconst 11 C dX8_bareNow_10 ci_0 rfl ?_
    refine x_istore_n 12 [(3, .int (0 : Int32)), (0, .ref 68), (1, .int x1), (2, .int x2)] C dX8_bareNow_11 n3 rfl rfl rfl ?_
    refine x_iconst 13 C dX8_bareNow_12 ci_0 rfl ?_
    refine x_istore 15 [(4, .int (0 : Int32)), (3, .int (0 : Int32)), (0, .ref 68), (1, .int x1), (2, .int x2)] C dX8_bareNow_13 n4 rfl rfl ?_
    refine x_lt1 (q := 54) (ls := fun x3 => [(0, .ref 68), (1, .int x1), (2, .int x2), (3, .int x3)]) (st := fun x3 => []) (hh := fun x3 => h) (fun x3 => ?_) (fun k2 J2 => ?_)
    · refine x_iload_n 55 C dX8_bareNow_54 1 rfl rfl rfl ?_
      refine x_iload_n 56 C dX8_bareNow_55 3 rfl rfl rfl ?_
      refine x_lt1 (q := 64) (ls := fun x4 => [(0, .ref 68), (2, .int x2)]) (st := fun x4 => [.int x4, .int x1]) (hh := fun x4 => h) (fun x4 => ?_) (fun k3 J3 => ?_)
      · refine x_iadd 65 C dX8_bareNow_64 rfl ?_
        refine x_ni (fun x5 => ?_)
        refine x_istore_n 66 [(1, .int x5), (0, .ref 68), (2, .int x2)] C dX8_bareNow_65 n1 rfl rfl rfl ?_
        refine x_iinc 69 (fun x6 => [(2, .int x6), (1, .int x5), (0, .ref 68)]) C dX8_bareNow_66 2 rfl ci_1 n2 (fun _ => rfl) rfl (fun x6 => ?_)
        refine x_goto 4 C dX8_bareNow_69 (by decide) ?_
        exact x_ls [2, 1, 0] rfl (J1 x5 x6)
      refine x_if_ne 59 63 C dX8_bareNow_56 (by decide) rfl (fun _ => ?_) (fun _ => ?_)
      · refine x_iconst 64 C dX8_bareNow_63 ci_0 rfl ?_
        exact x_ls [0, 2] rfl (J3 (0 : Int32))
      · refine x_iconst 60 C dX8_bareNow_59 ci_1 rfl ?_
        refine x_goto 64 C dX8_bareNow_60 (by decide) ?_
        exact x_ls [0, 2] rfl (J3 (1 : Int32))
    refine x_ls [2, 3, 4, 1, 0] rfl (x_fx2 (ls := fun x7 x8 => [(0, .ref 68), (1, .int x1), (2, .int x2), (3, .int x7), (4, .int x8)]) (st := fun x7 x8 => []) (hh := fun x7 x8 => h) (fun s4 J4 x7 x8 => ?_))
    refine x_iload 17 C dX8_bareNow_15 4 rfl rfl ?_
    refine x_aload_n 18 C dX8_bareNow_17 0 rfl rfl rfl ?_
    refine x_getI 21 C dX8_bareNow_18 fl_X8_127 sk_68 rfl rfl ?_
    refine x_icmp_ge 24 54 C dX8_bareNow_21 (by decide) rfl (fun _ => ?_) (fun _ => ?_)
    · exact x_ls [0, 1, 2, 3] rfl (J2 x7)
    · refine x_iload_n 25 C dX8_bareNow_24 3 rfl rfl rfl ?_
      refine x_aload_n 26 C dX8_bareNow_25 0 rfl rfl rfl ?_
      refine x_getR (c := 87) 29 C dX8_bareNow_26 fl_X8_64 sk_68 rfl sr_68_23 rfl ?_
      refine x_bipush 31 C dX8_bareNow_29 cb_6 rfl ?_
      refine x_iload_n 32 C dX8_bareNow_31 2 rfl rfl rfl ?_
      refine x_imul 33 C dX8_bareNow_32 rfl ?_
      refine x_iload 35 C dX8_bareNow_33 4 rfl rfl ?_
      refine x_iadd 36 C dX8_bareNow_35 rfl ?_
      refine x_iald 37 C dX8_bareNow_36 sk_87 sl_87 rfl ?_
      refine x_iconst 38 C dX8_bareNow_37 ci_1 rfl ?_
      refine x_lt1 (q := 46) (ls := fun x9 => [(0, .ref 68), (1, .int x1), (2, .int x2), (4, .int x8)]) (st := fun x9 => [.int x9, .int x7]) (hh := fun x9 => h) (fun x9 => ?_) (fun k5 J5 => ?_)
      · refine x_iadd 47 C dX8_bareNow_46 rfl ?_
        refine x_ni (fun x10 => ?_)
        refine x_istore_n 48 [(3, .int x10), (0, .ref 68), (1, .int x1), (2, .int x2), (4, .int x8)] C dX8_bareNow_47 n3 rfl rfl rfl ?_
        refine x_iinc 51 (fun x11 => [(4, .int x11), (3, .int x10), (0, .ref 68), (1, .int x1), (2, .int x2)]) C dX8_bareNow_48 4 rfl ci_1 n4 (fun _ => rfl) rfl (fun x11 => ?_)
        refine x_goto 15 C dX8_bareNow_51 (by decide) ?_
        exact x_ls [2, 3, 4, 1, 0] rfl (J4 x10 x11)
      refine x_icmp_ne 41 45 C dX8_bareNow_38 (by decide) rfl (fun _ => ?_) (fun _ => ?_)
      · refine x_iconst 46 C dX8_bareNow_45 ci_0 rfl ?_
        exact x_ls [0, 1, 2, 4] rfl (J5 (0 : Int32))
      · refine x_iconst 42 C dX8_bareNow_41 ci_1 rfl ?_
        refine x_goto 46 C dX8_bareNow_42 (by decide) ?_
        exact x_ls [0, 1, 2, 4] rfl (J5 (1 : Int32))

def f_X8_bare (h : Hp) : Option (Hp × Int32) :=
  bdv (f_X8_find h) fun h1 =>
  bdr (f_X8_bareNow h1) fun x2 =>
  some (h1, x2)
theorem dX8_bare_0 : decode cX8_bare 0 = .ok (.aload_n 0, 1) := by decide +kernel
theorem dX8_bare_1 : decode cX8_bare 1 = .ok (.invokevirtual 220, 3) := by decide +kernel
theorem dX8_bare_4 : decode cX8_bare 4 = .ok (.aload_n 0, 1) := by decide +kernel
theorem dX8_bare_5 : decode cX8_bare 5 = .ok (.invokevirtual 244, 3) := by decide +kernel
theorem dX8_bare_8 : decode cX8_bare 8 = .ok (.ireturn, 1) := by decide +kernel
set_option maxRecDepth 20000 in
theorem m_X8_bare {h : Hp}  {u : (Hp × Int32)} (hu : f_X8_bare h = some u) : Ct yX8_bare cX8_bare 1 (some .int) 7 [.ref 68] h (eI u) := by
  refine ct_of eI hu (by decide) (Nat.le_of_ble_eq_true rfl) (fun κ hn C E => ?_)
  unfold f_X8_bare
  show Xz κ _ 0 [(0, .ref 68)] [] h
  refine x_aload_n 1 C dX8_bare_0 0 rfl rfl rfl ?_
  refine x_cvV 4 [] [] C 6 dX8_bare_1 v_X8_220 (fun u hu => m_X8_find hu) rfl sk_68 rfl (Nat.le_of_ble_eq_true rfl) (Nat.le_of_ble_eq_true rfl) rfl (fun h1 => ?_)
  refine x_aload_n 5 C dX8_bare_4 0 rfl rfl rfl ?_
  refine x_cvi 8 [] [] C 0 dX8_bare_5 v_X8_244 (fun u hu => m_X8_bareNow hu) rfl sk_68 rfl (Nat.le_of_ble_eq_true rfl) (Nat.le_of_ble_eq_true rfl) rfl (fun x2 => ?_)
  exact x_iret C E dX8_bare_8 rfl
