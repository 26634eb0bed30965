def f_X8_lacks (h : Hp) (a1 : Int32) (a2 : Int32) (a3 : Int32) : Option (Hp × Int32) :=
  ck a1 4 (
    if 0 ≤ (ia h 69 a1) then (
      ck a1 4 (
        if (ia h 69 a1) = a2 then (
          ck a1 4 (
            bdr (f_X8_in (a3.toInt64) (0 : Int64) (((ia h 70 a1) - (1 : Int32)).toInt64)) fun x1 =>
            if x1 = 0 then (
              bnd (f_X8_finds h (2 : Int32)) fun h2 x3 =>
              some (h2, x3))
            else (
              some (h, (0 : Int32)))))
        else (
          bnd (f_X8_finds h (3 : Int32)) fun h4 x5 =>
          some (h4, x5))))
    else (
      bnd (f_X8_finds h (1 : Int32)) fun h6 x7 =>
      some (h6, x7)))
theorem dX8_lacks_0 : decode cX8_lacks 0 = .ok (.aload_n 0, 1) := by decide +kernel
theorem dX8_lacks_1 : decode cX8_lacks 1 = .ok (.getfield 7, 3) := by decide +kernel
theorem dX8_lacks_4 : decode cX8_lacks 4 = .ok (.iload_n 1, 1) := by decide +kernel
theorem dX8_lacks_5 : decode cX8_lacks 5 = .ok (.iaload, 1) := by decide +kernel
theorem dX8_lacks_6 : decode cX8_lacks 6 = .ok (.ifCond .ge 9, 3) := by decide +kernel
theorem dX8_lacks_9 : decode cX8_lacks 9 = .ok (.aload_n 0, 1) := by decide +kernel
theorem dX8_lacks_10 : decode cX8_lacks 10 = .ok (.iconst 1, 1) := by decide +kernel
theorem dX8_lacks_11 : decode cX8_lacks 11 = .ok (.invokevirtual 101, 3) := by decide +kernel
theorem dX8_lacks_14 : decode cX8_lacks 14 = .ok (.ireturn, 1) := by decide +kernel
theorem dX8_lacks_15 : decode cX8_lacks 15 = .ok (.aload_n 0, 1) := by decide +kernel
theorem dX8_lacks_16 : decode cX8_lacks 16 = .ok (.getfield 7, 3) := by decide +kernel
theorem dX8_lacks_19 : decode cX8_lacks 19 = .ok (.iload_n 1, 1) := by decide +kernel
theorem dX8_lacks_20 : decode cX8_lacks 20 = .ok (.iaload, 1) := by decide +kernel
theorem dX8_lacks_21 : decode cX8_lacks 21 = .ok (.iload_n 2, 1) := by decide +kernel
theorem dX8_lacks_22 : decode cX8_lacks 22 = .ok (.if_icmp .eq 9, 3) := by decide +kernel
theorem dX8_lacks_25 : decode cX8_lacks 25 = .ok (.aload_n 0, 1) := by decide +kernel
theorem dX8_lacks_26 : decode cX8_lacks 26 = .ok (.iconst 3, 1) := by decide +kernel
theorem dX8_lacks_27 : decode cX8_lacks 27 = .ok (.invokevirtual 101, 3) := by decide +kernel
theorem dX8_lacks_30 : decode cX8_lacks 30 = .ok (.ireturn, 1) := by decide +kernel
theorem dX8_lacks_31 : decode cX8_lacks 31 = .ok (.iload_n 3, 1) := by decide +kernel
theorem dX8_lacks_32 : decode cX8_lacks 32 = .ok (.i2l, 1) := by decide +kernel
theorem dX8_lacks_33 : decode cX8_lacks 33 = .ok (.lconst 0, 1) := by decide +kernel
theorem dX8_lacks_34 : decode cX8_lacks 34 = .ok (.aload_n 0, 1) := by decide +kernel
theorem dX8_lacks_35 : decode cX8_lacks 35 = .ok (.getfield 13, 3) := by decide +kernel
theorem dX8_lacks_38 : decode cX8_lacks 38 = .ok (.iload_n 1, 1) := by decide +kernel
theorem dX8_lacks_39 : decode cX8_lacks 39 = .ok (.iaload, 1) := by decide +kernel
theorem dX8_lacks_40 : decode cX8_lacks 40 = .ok (.iconst 1, 1) := by decide +kernel
theorem dX8_lacks_41 : decode cX8_lacks 41 = .ok (.isub, 1) := by decide +kernel
theorem dX8_lacks_42 : decode cX8_lacks 42 = .ok (.i2l, 1) := by decide +kernel
theorem dX8_lacks_43 : decode cX8_lacks 43 = .ok (.invokestatic 85, 3) := by decide +kernel
theorem dX8_lacks_46 : decode cX8_lacks 46 = .ok (.ifCond .eq 7, 3) := by decide +kernel
theorem dX8_lacks_49 : decode cX8_lacks 49 = .ok (.iconst 0, 1) := by decide +kernel
theorem dX8_lacks_50 : decode cX8_lacks 50 = .ok (.goto 8, 3) := by decide +kernel
theorem dX8_lacks_53 : decode cX8_lacks 53 = .ok (.aload_n 0, 1) := by decide +kernel
theorem dX8_lacks_54 : decode cX8_lacks 54 = .ok (.iconst 2, 1) := by decide +kernel
theorem dX8_lacks_55 : decode cX8_lacks 55 = .ok (.invokevirtual 101, 3) := by decide +kernel
theorem dX8_lacks_58 : decode cX8_lacks 58 = .ok (.ireturn, 1) := by decide +kernel
set_option maxRecDepth 20000 in
theorem m_X8_lacks {h : Hp} {a1 : Int32} {a2 : Int32} {a3 : Int32}  {u : (Hp × Int32)} (hu : f_X8_lacks h a1 a2 a3 = some u) : Ct yX8_lacks cX8_lacks 4 (some .int) 1 [.ref 68, .int a1, .int a2, .int a3] h (eI u) := by
  refine ct_of eI hu (by decide) (Nat.le_of_ble_eq_true rfl) (fun κ hn C E => ?_)
  unfold f_X8_lacks
  show Xz κ _ 0 [(0, .ref 68), (1, .int a1), (2, .int a2), (3, .int a3)] [] h
  refine x_aload_n 1 C dX8_lacks_0 0 rfl rfl rfl ?_
  refine x_getR (c := 69) 4 C dX8_lacks_1 fl_X8_7 sk_68 rfl sr_68_0 rfl ?_
  refine x_iload_n 5 C dX8_lacks_4 1 rfl rfl rfl ?_
  refine x_iald 6 C dX8_lacks_5 sk_69 sl_69 rfl ?_
  refine x_if_ge 9 15 C dX8_lacks_6 (by decide) rfl (fun _ => ?_) (fun _ => ?_)
  · refine x_aload_n 16 C dX8_lacks_15 0 rfl rfl rfl ?_
    refine x_getR (c := 69) 19 C dX8_lacks_16 fl_X8_7 sk_68 rfl sr_68_0 rfl ?_
    refine x_iload_n 20 C dX8_lacks_19 1 rfl rfl rfl ?_
    refine x_iald 21 C dX8_lacks_20 sk_69 sl_69 rfl ?_
    refine x_iload_n 22 C dX8_lacks_21 2 rfl rfl rfl ?_
    refine x_icmp_eq 25 31 C dX8_lacks_22 (by decide) rfl (fun _ => ?_) (fun _ => ?_)
    · refine x_iload_n 32 C dX8_lacks_31 3 rfl rfl rfl ?_
      refine x_i2l 33 C dX8_lacks_32 rfl ?_
      refine x_lconst 34 C dX8_lacks_33 cl_0 rfl ?_
      refine x_aload_n 35 C dX8_lacks_34 0 rfl rfl rfl ?_
      refine x_getR (c := 70) 38 C dX8_lacks_35 fl_X8_13 sk_68 rfl sr_68_1 rfl ?_
      refine x_iload_n 39 C dX8_lacks_38 1 rfl rfl rfl ?_
      refine x_iald 40 C dX8_lacks_39 sk_70 sl_70 rfl ?_
      refine x_iconst 41 C dX8_lacks_40 ci_1 rfl ?_
      refine x_isub 42 C dX8_lacks_41 rfl ?_
      refine x_i2l 43 C dX8_lacks_42 rfl ?_
      refine x_csi 46 [.long (a3.toInt64), .long (0 : Int64), .long (((ia h 70 a1) - (1 : Int32)).toInt64)] [] C 0 dX8_lacks_43 s_X8_85 (fun u hu => m_X8_in hu) rfl rfl (Nat.le_of_ble_eq_true rfl) (Nat.le_of_ble_eq_true rfl) rfl (fun x1 => ?_)
      refine x_if_eq 49 53 C dX8_lacks_46 (by decide) rfl (fun _ => ?_) (fun _ => ?_)
      · refine x_aload_n 54 C dX8_lacks_53 0 rfl rfl rfl ?_
        refine x_iconst 55 C dX8_lacks_54 ci_2 rfl ?_
        refine x_cvI 58 [.int (2 : Int32)] [] C 0 dX8_lacks_55 v_X8_101 (fun u hu => m_X8_finds hu) rfl sk_68 rfl (Nat.le_of_ble_eq_true rfl) (Nat.le_of_ble_eq_true rfl) rfl (fun h2 x3 => ?_)
        exact x_iret C E dX8_lacks_58 rfl
      · refine x_iconst 50 C dX8_lacks_49 ci_0 rfl ?_
        refine x_goto 58 C dX8_lacks_50 (by decide) ?_
        exact x_iret C E dX8_lacks_58 rfl
    · refine x_aload_n 26 C dX8_lacks_25 0 rfl rfl rfl ?_
      refine x_iconst 27 C dX8_lacks_26 ci_3 rfl ?_
      refine x_cvI 30 [.int (3 : Int32)] [] C 0 dX8_lacks_27 v_X8_101 (fun u hu => m_X8_finds hu) rfl sk_68 rfl (Nat.le_of_ble_eq_true rfl) (Nat.le_of_ble_eq_true rfl) rfl (fun h4 x5 => ?_)
      exact x_iret C E dX8_lacks_30 rfl
  · refine x_aload_n 10 C dX8_lacks_9 0 rfl rfl rfl ?_
    refine x_iconst 11 C dX8_lacks_10 ci_1 rfl ?_
    refine x_cvI 14 [.int (1 : Int32)] [] C 0 dX8_lacks_11 v_X8_101 (fun u hu => m_X8_finds hu) rfl sk_68 rfl (Nat.le_of_ble_eq_true rfl) (Nat.le_of_ble_eq_true rfl) rfl (fun h6 x7 => ?_)
    exact x_iret C E dX8_lacks_14 rfl

def f_X8_cut (a1 : Int32) (a2 : Int32) : Option Int32 :=
  if a1 = 0 then (
    some (a2.toInt8.toInt32))
  else (
    if a1 = (1 : Int32) then (
      some (a2.toInt16.toInt32))
    else (
      some a2))
theorem dX8_cut_0 : decode cX8_cut 0 = .ok (.iload_n 0, 1) := by decide +kernel
theorem dX8_cut_1 : decode cX8_cut 1 = .ok (.ifCond .ne 8, 3) := by decide +kernel
theorem dX8_cut_4 : decode cX8_cut 4 = .ok (.iload_n 1, 1) := by decide +kernel
theorem dX8_cut_5 : decode cX8_cut 5 = .ok (.i2b, 1) := by decide +kernel
theorem dX8_cut_6 : decode cX8_cut 6 = .ok (.goto 14, 3) := by decide +kernel
theorem dX8_cut_9 : decode cX8_cut 9 = .ok (.iload_n 0, 1) := by decide +kernel
theorem dX8_cut_10 : decode cX8_cut 10 = .ok (.iconst 1, 1) := by decide +kernel
theorem dX8_cut_11 : decode cX8_cut 11 = .ok (.if_icmp .ne 8, 3) := by decide +kernel
theorem dX8_cut_14 : decode cX8_cut 14 = .ok (.iload_n 1, 1) := by decide +kernel
theorem dX8_cut_15 : decode cX8_cut 15 = .ok (.i2s, 1) := by decide +kernel
theorem dX8_cut_16 : decode cX8_cut 16 = .ok (.goto 4, 3) := by decide +kernel
theorem dX8_cut_19 : decode cX8_cut 19 = .ok (.iload_n 1, 1) := by decide +kernel
theorem dX8_cut_20 : decode cX8_cut 20 = .ok (.ireturn, 1) := by decide +kernel
set_option maxRecDepth 20000 in
theorem m_X8_cut {h : Hp} {a1 : Int32} {a2 : Int32}  {u : Int32} (hu : f_X8_cut a1 a2 = some u) : Ct yX8_cut cX8_cut 2 (some .int) 0 [.int a1, .int a2] h ((rI h) u) := by
  refine ct_of (rI h) hu (by decide) (Nat.le_of_ble_eq_true rfl) (fun κ hn C E => ?_)
  unfold f_X8_cut
  show Xz κ _ 0 [(0, .int a1), (1, .int a2)] [] h
  refine x_iload_n 1 C dX8_cut_0 0 rfl rfl rfl ?_
  refine x_if_ne 4 9 C dX8_cut_1 (by decide) rfl (fun _ => ?_) (fun _ => ?_)
  · refine x_iload_n 10 C dX8_cut_9 0 rfl rfl rfl ?_
    refine x_iconst 11 C dX8_cut_10 ci_1 rfl ?_
    refine x_icmp_ne 14 19 C dX8_cut_11 (by decide) rfl (fun _ => ?_) (fun _ => ?_)
    · refine x_iload_n 20 C dX8_cut_19 1 rfl rfl rfl ?_
      exact x_iret C E dX8_cut_20 rfl
    · refine x_iload_n 15 C dX8_cut_14 1 rfl rfl rfl ?_
      refine x_i2s 16 C dX8_cut_15 rfl ?_
      refine x_goto 20 C dX8_cut_16 (by decide) ?_
      exact x_iret C E dX8_cut_20 rfl
  · refine x_iload_n 5 C dX8_cut_4 1 rfl rfl rfl ?_
    refine x_i2b 6 C dX8_cut_5 rfl ?_
    refine x_goto 20 C dX8_cut_6 (by decide) ?_
    exact x_iret C E dX8_cut_20 rfl

def f_X8_lay (h : Hp) (a1 : Int32) (a2 : Int32) (a3 : Int32) (a4 : Int32) : Option (Hp × Int32) :=
  bdr (f_X8_isSheet a1) fun x1 =>
  if x1 = 0 then (
    some (h, (-2 : Int32)))
  else (
    bdr (f_X8_in (a2.toInt64) (0 : Int64) (2 : Int64)) fun x2 =>
    if x2 = 0 then (
      some (h, (-2 : Int32)))
    else (
      bnd (f_X8_lacks h a1 a2 a3) fun h3 x4 =>
      if x4 = 0 then (
        bdr (f_X8_cut a2 a4) fun x5 =>
        ck (((60 : Int32) * a1) + a3) 240 (nm (ux h3 71 (((60 : Int32) * a1) + a3) x5) fun h6 =>
        some (h6, (1 : Int32))))
      else (
        some (h3, x4))))
theorem dX8_lay_0 : decode cX8_lay 0 = .ok (.iload_n 1, 1) := by decide +kernel
theorem dX8_lay_1 : decode cX8_lay 1 = .ok (.invokestatic 95, 3) := by decide +kernel
theorem dX8_lay_4 : decode cX8_lay 4 = .ok (.ifCond .eq 15, 3) := by decide +kernel
theorem dX8_lay_7 : decode cX8_lay 7 = .ok (.iload_n 2, 1) := by decide +kernel
theorem dX8_lay_8 : decode cX8_lay 8 = .ok (.i2l, 1) := by decide +kernel
theorem dX8_lay_9 : decode cX8_lay 9 = .ok (.lconst 0, 1) := by decide +kernel
theorem dX8_lay_10 : decode cX8_lay 10 = .ok (.ldc2_w 99, 3) := by decide +kernel
theorem dX8_lay_13 : decode cX8_lay 13 = .ok (.invokestatic 85, 3) := by decide +kernel
theorem dX8_lay_16 : decode cX8_lay 16 = .ok (.ifCond .ne 6, 3) := by decide +kernel
theorem dX8_lay_19 : decode cX8_lay 19 = .ok (.bipush (-2), 2) := by decide +kernel
theorem dX8_lay_21 : decode cX8_lay 21 = .ok (.ireturn, 1) := by decide +kernel
theorem dX8_lay_22 : decode cX8_lay 22 = .ok (.aload_n 0, 1) := by decide +kernel
theorem dX8_lay_23 : decode cX8_lay 23 = .ok (.iload_n 1, 1) := by decide +kernel
theorem dX8_lay_24 : decode cX8_lay 24 = .ok (.iload_n 2, 1) := by decide +kernel
theorem dX8_lay_25 : decode cX8_lay 25 = .ok (.iload_n 3, 1) := by decide +kernel
theorem dX8_lay_26 : decode cX8_lay 26 = .ok (.invokevirtual 105, 3) := by decide +kernel
theorem dX8_lay_29 : decode cX8_lay 29 = .ok (.istore 5, 2) := by decide +kernel
theorem dX8_lay_31 : decode cX8_lay 31 = .ok (.iload 5, 2) := by decide +kernel
theorem dX8_lay_33 : decode cX8_lay 33 = .ok (.ifCond .eq 6, 3) := by decide +kernel
theorem dX8_lay_36 : decode cX8_lay 36 = .ok (.iload 5, 2) := by decide +kernel
theorem dX8_lay_38 : decode cX8_lay 38 = .ok (.ireturn, 1) := by decide +kernel
theorem dX8_lay_39 : decode cX8_lay 39 = .ok (.aload_n 0, 1) := by decide +kernel
theorem dX8_lay_40 : decode cX8_lay 40 = .ok (.getfield 16, 3) := by decide +kernel
theorem dX8_lay_43 : decode cX8_lay 43 = .ok (.bipush 60, 2) := by decide +kernel
theorem dX8_lay_45 : decode cX8_lay 45 = .ok (.iload_n 1, 1) := by decide +kernel
theorem dX8_lay_46 : decode cX8_lay 46 = .ok (.imul, 1) := by decide +kernel
theorem dX8_lay_47 : decode cX8_lay 47 = .ok (.iload_n 3, 1) := by decide +kernel
theorem dX8_lay_48 : decode cX8_lay 48 = .ok (.iadd, 1) := by decide +kernel
theorem dX8_lay_49 : decode cX8_lay 49 = .ok (.iload_n 2, 1) := by decide +kernel
theorem dX8_lay_50 : decode cX8_lay 50 = .ok (.iload 4, 2) := by decide +kernel
theorem dX8_lay_52 : decode cX8_lay 52 = .ok (.invokestatic 109, 3) := by decide +kernel
theorem dX8_lay_55 : decode cX8_lay 55 = .ok (.iastore, 1) := by decide +kernel
theorem dX8_lay_56 : decode cX8_lay 56 = .ok (.iconst 1, 1) := by decide +kernel
theorem dX8_lay_57 : decode cX8_lay 57 = .ok (.ireturn, 1) := by decide +kernel
set_option maxRecDepth 20000 in
theorem m_X8_lay {h : Hp} {a1 : Int32} {a2 : Int32} {a3 : Int32} {a4 : Int32}  {u : (Hp × Int32)} (hu : f_X8_lay h a1 a2 a3 a4 = some u) : Ct yX8_lay cX8_lay 6 (some .int) 2 [.ref 68, .int a1, .int a2, .int a3, .int a4] h (eI u) := by
  refine ct_of eI hu (by decide) (Nat.le_of_ble_eq_true rfl) (fun κ hn C E => ?_)
  have n5 : 5 < kn κ := by rw [hn]; decide
  unfold f_X8_lay
  show Xz κ _ 0 [(0, .ref 68), (1, .int a1), (2, .int a2), (3, .int a3), (4, .int a4)] [] h
  refine x_iload_n 1 C dX8_lay_0 1 rfl rfl rfl ?_
  refine x_csi 4 [.int a1] [] C 1 dX8_lay_1 s_X8_95 (fun u hu => m_X8_isSheet hu) rfl rfl (Nat.le_of_ble_eq_true rfl) (Nat.le_of_ble_eq_true rfl) rfl (fun x1 => ?_)
  refine x_if_eq 7 19 C dX8_lay_4 (by decide) rfl (fun _ => ?_) (fun _ => ?_)
  · refine x_bipush 21 C dX8_lay_19 cb_m2 rfl ?_
    exact x_iret C E dX8_lay_21 rfl
  · refine x_iload_n 8 C dX8_lay_7 2 rfl rfl rfl ?_
    refine x_i2l 9 C dX8_lay_8 rfl ?_
    refine x_lconst 10 C dX8_lay_9 cl_0 rfl ?_
    refine x_ldc2 13 C dX8_lay_10 kw_X8_99 rfl ?_
    refine x_csi 16 [.long (a2.toInt64), .long (0 : Int64), .long (2 : Int64)] [] C 0 dX8_lay_13 s_X8_85 (fun u hu => m_X8_in hu) rfl rfl (Nat.le_of_ble_eq_true rfl) (Nat.le_of_ble_eq_true rfl) rfl (fun x2 => ?_)
    refine x_if_ne 19 22 C dX8_lay_16 (by decide) rfl (fun _ => ?_) (fun _ => ?_)
    · refine x_aload_n 23 C dX8_lay_22 0 rfl rfl rfl ?_
      refine x_iload_n 24 C dX8_lay_23 1 rfl rfl rfl ?_
      refine x_iload_n 25 C dX8_lay_24 2 rfl rfl rfl ?_
      refine x_iload_n 26 C dX8_lay_25 3 rfl rfl rfl ?_
      refine x_cvI 29 [.int a1, .int a2, .int a3] [] C 1 dX8_lay_26 v_X8_105 (fun u hu => m_X8_lacks hu) rfl sk_68 rfl (Nat.le_of_ble_eq_true rfl) (Nat.le_of_ble_eq_true rfl) rfl (fun h3 x4 => ?_)
      refine x_istore 31 [(5, .int x4), (0, .ref 68), (1, .int a1), (2, .int a2), (3, .int a3), (4, .int a4)] C dX8_lay_29 n5 rfl rfl ?_
      refine x_iload 33 C dX8_lay_31 0 rfl rfl ?_
      refine x_if_eq 36 39 C dX8_lay_33 (by decide) rfl (fun _ => ?_) (fun _ => ?_)
      · refine x_aload_n 40 C dX8_lay_39 1 rfl rfl rfl ?_
        refine x_getR (c := 71) 43 C dX8_lay_40 fl_X8_16 sk_68 rfl sr_68_2 rfl ?_
        refine x_bipush 45 C dX8_lay_43 cb_60 rfl ?_
        refine x_iload_n 46 C dX8_lay_45 2 rfl rfl rfl ?_
        refine x_imul 47 C dX8_lay_46 rfl ?_
        refine x_iload_n 48 C dX8_lay_47 4 rfl rfl rfl ?_
        refine x_iadd 49 C dX8_lay_48 rfl ?_
        refine x_iload_n 50 C dX8_lay_49 3 rfl rfl rfl ?_
        refine x_iload 52 C dX8_lay_50 5 rfl rfl ?_
        refine x_csi 55 [.int a2, .int a4] [.int (((60 : Int32) * a1) + a3), .ref 71] C 0 dX8_lay_52 s_X8_109 (fun u hu => m_X8_cut hu) rfl rfl (Nat.le_of_ble_eq_true rfl) (Nat.le_of_ble_eq_true rfl) rfl (fun x5 => ?_)
        refine x_iast 56 C dX8_lay_55 sk_71 sl_71 rfl (fun h6 => ?_)
        refine x_iconst 57 C dX8_lay_56 ci_1 rfl ?_
        exact x_iret C E dX8_lay_57 rfl
      · refine x_iload 38 C dX8_lay_36 0 rfl rfl ?_
        exact x_iret C E dX8_lay_38 rfl
    · refine x_bipush 21 C dX8_lay_19 cb_m2 rfl ?_
      exact x_iret C E dX8_lay_21 rfl

def f_X8_get (h : Hp) (a1 : Int32) (a2 : Int32) (a3 : Int32) : Option (Hp × Int32) :=
  bdr (f_X8_isSheet a1) fun x1 =>
  if x1 = 0 then (
    some (h, (-2147483648 : Int32)))
  else (
    bdr (f_X8_in (a2.toInt64) (0 : Int64) (2 : Int64)) fun x2 =>
    if x2 = 0 then (
      some (h, (-2147483648 : Int32)))
    else (
      bnd (f_X8_lacks h a1 a2 a3) fun h3 x4 =>
      if x4 = 0 then (
        ck (((60 : Int32) * a1) + a3) 240 (
          some (h3, (ia h3 71 (((60 : Int32) * a1) + a3)))))
      else (
        some (h3, (-2147483648 : Int32)))))
theorem dX8_get_0 : decode cX8_get 0 = .ok (.iload_n 1, 1) := by decide +kernel
theorem dX8_get_1 : decode cX8_get 1 = .ok (.invokestatic 95, 3) := by decide +kernel
theorem dX8_get_4 : decode cX8_get 4 = .ok (.ifCond .eq 25, 3) := by decide +kernel
theorem dX8_get_7 : decode cX8_get 7 = .ok (.iload_n 2, 1) := by decide +kernel
theorem dX8_get_8 : decode cX8_get 8 = .ok (.i2l, 1) := by decide +kernel
theorem dX8_get_9 : decode cX8_get 9 = .ok (.lconst 0, 1) := by decide +kernel
theorem dX8_get_10 : decode cX8_get 10 = .ok (.ldc2_w 99, 3) := by decide +kernel
theorem dX8_get_13 : decode cX8_get 13 = .ok (.invokestatic 85, 3) := by decide +kernel
theorem dX8_get_16 : decode cX8_get 16 = .ok (.ifCond .eq 13, 3) := by decide +kernel
theorem dX8_get_19 : decode cX8_get 19 = .ok (.aload_n 0, 1) := by decide +kernel
theorem dX8_get_20 : decode cX8_get 20 = .ok (.iload_n 1, 1) := by decide +kernel
theorem dX8_get_21 : decode cX8_get 21 = .ok (.iload_n 2, 1) := by decide +kernel
theorem dX8_get_22 : decode cX8_get 22 = .ok (.iload_n 3, 1) := by decide +kernel
theorem dX8_get_23 : decode cX8_get 23 = .ok (.invokevirtual 105, 3) := by decide +kernel
theorem dX8_get_26 : decode cX8_get 26 = .ok (.ifCond .eq 6, 3) := by decide +kernel
theorem dX8_get_29 : decode cX8_get 29 = .ok (.ldc 113, 2) := by decide +kernel
theorem dX8_get_31 : decode cX8_get 31 = .ok (.ireturn, 1) := by decide +kernel
theorem dX8_get_32 : decode cX8_get 32 = .ok (.aload_n 0, 1) := by decide +kernel
theorem dX8_get_33 : decode cX8_get 33 = .ok (.getfield 16, 3) := by decide +kernel
theorem dX8_get_36 : decode cX8_get 36 = .ok (.bipush 60, 2) := by decide +kernel
theorem dX8_get_38 : decode cX8_get 38 = .ok (.iload_n 1, 1) := by decide +kernel
theorem dX8_get_39 : decode cX8_get 39 = .ok (.imul, 1) := by decide +kernel
theorem dX8_get_40 : decode cX8_get 40 = .ok (.iload_n 3, 1) := by decide +kernel
theorem dX8_get_41 : decode cX8_get 41 = .ok (.iadd, 1) := by decide +kernel
theorem dX8_get_42 : decode cX8_get 42 = .ok (.iaload, 1) := by decide +kernel
theorem dX8_get_43 : decode cX8_get 43 = .ok (.ireturn, 1) := by decide +kernel
set_option maxRecDepth 20000 in
theorem m_X8_get {h : Hp} {a1 : Int32} {a2 : Int32} {a3 : Int32}  {u : (Hp × Int32)} (hu : f_X8_get h a1 a2 a3 = some u) : Ct yX8_get cX8_get 4 (some .int) 2 [.ref 68, .int a1, .int a2, .int a3] h (eI u) := by
  refine ct_of eI hu (by decide) (Nat.le_of_ble_eq_true rfl) (fun κ hn C E => ?_)
  unfold f_X8_get
  show Xz κ _ 0 [(0, .ref 68), (1, .int a1), (2, .int a2), (3, .int a3)] [] h
  refine x_iload_n 1 C dX8_get_0 1 rfl rfl rfl ?_
  refine x_csi 4 [.int a1] [] C 1 dX8_get_1 s_X8_95 (fun u hu => m_X8_isSheet hu) rfl rfl (Nat.le_of_ble_eq_true rfl) (Nat.le_of_ble_eq_true rfl) rfl (fun x1 => ?_)
  refine x_if_eq 7 29 C dX8_get_4 (by decide) rfl (fun _ => ?_) (fun _ => ?_)
  · refine x_ldc 31 C dX8_get_29 kw_X8_113 rfl ?_
    exact x_iret C E dX8_get_31 rfl
  · refine x_iload_n 8 C dX8_get_7 2 rfl rfl rfl ?_
    refine x_i2l 9 C dX8_get_8 rfl ?_
    refine x_lconst 10 C dX8_get_9 cl_0 rfl ?_
    refine x_ldc2 13 C dX8_get_10 kw_X8_99 rfl ?_
    refine x_csi 16 [.long (a2.toInt64), .long (0 : Int64), .long (2 : Int64)] [] C 0 dX8_get_13 s_X8_85 (fun u hu => m_X8_in hu) rfl rfl (Nat.le_of_ble_eq_true rfl) (Nat.le_of_ble_eq_true rfl) rfl (fun x2 => ?_)
    refine x_if_eq 19 29 C dX8_get_16 (by decide) rfl (fun _ => ?_) (fun _ => ?_)
    · refine x_ldc 31 C dX8_get_29 kw_X8_113 rfl ?_
      exact x_iret C E dX8_get_31 rfl
    · refine x_aload_n 20 C dX8_get_19 0 rfl rfl rfl ?_
      refine x_iload_n 21 C dX8_get_20 1 rfl rfl rfl ?_
      refine x_iload_n 22 C dX8_get_21 2 rfl rfl rfl ?_
      refine x_iload_n 23 C dX8_get_22 3 rfl rfl rfl ?_
      refine x_cvI 26 [.int a1, .int a2, .int a3] [] C 1 dX8_get_23 v_X8_105 (fun u hu => m_X8_lacks hu) rfl sk_68 rfl (Nat.le_of_ble_eq_true rfl) (Nat.le_of_ble_eq_true rfl) rfl (fun h3 x4 => ?_)
      refine x_if_eq 29 32 C dX8_get_26 (by decide) rfl (fun _ => ?_) (fun _ => ?_)
      · refine x_aload_n 33 C dX8_get_32 0 rfl rfl rfl ?_
        refine x_getR (c := 71) 36 C dX8_get_33 fl_X8_16 sk_68 rfl sr_68_2 rfl ?_
        refine x_bipush 38 C dX8_get_36 cb_60 rfl ?_
        refine x_iload_n 39 C dX8_get_38 1 rfl rfl rfl ?_
        refine x_imul 40 C dX8_get_39 rfl ?_
        refine x_iload_n 41 C dX8_get_40 3 rfl rfl rfl ?_
        refine x_iadd 42 C dX8_get_41 rfl ?_
        refine x_iald 43 C dX8_get_42 sk_71 sl_71 rfl ?_
        exact x_iret C E dX8_get_43 rfl
      · refine x_ldc 31 C dX8_get_29 kw_X8_113 rfl ?_
        exact x_iret C E dX8_get_31 rfl

def f_X8_copy (h : Hp) (a1 : Int32) (a2 : Int32) (a3 : Int32) (a4 : Int32) (a5 : Int32) : Option (Hp × Int32) :=
  bdr (f_X8_isSheet a1) fun x1 =>
  if x1 = 0 then (
    some (h, (-2 : Int32)))
  else (
    bdr (f_X8_isSheet a3) fun x2 =>
    if x2 = 0 then (
      some (h, (-2 : Int32)))
    else (
      ck a1 4 (
        lt1 (fun (u3 : Int32) =>
          bnd (f_X8_finds h (1 : Int32)) fun h4 x5 =>
          some (h4, x5)) fun k1 =>
        if (ia h 69 a1) < 0 then (
          k1 (0 : Int32))
        else (
          ck a3 4 (
            if 0 ≤ (ia h 69 a3) then (
              ck a1 4 (
                ck a3 4 (
                  if (ia h 69 a1) = (ia h 69 a3) then (
                    lt1 (fun (u6 : Int32) =>
                      bnd (f_X8_finds h (2 : Int32)) fun h7 x8 =>
                      some (h7, x8)) fun k2 =>
                    if a2 < 0 then (
                      k2 (0 : Int32))
                    else (
                      if a4 < 0 then (
                        k2 (0 : Int32))
                      else (
                        if a5 < 0 then (
                          k2 (0 : Int32))
                        else (
                          ck a1 4 (
                            if 0 < (lg_cmp ((a2.toInt64) + (a5.toInt64)) ((ia h 70 a1).toInt64)) then (
                              k2 (0 : Int32))
                            else (
                              ck a3 4 (
                                if (lg_cmp ((a4.toInt64) + (a5.toInt64)) ((ia h 70 a3).toInt64)) ≤ 0 then (
                                  lt1 (fun (h9 : Hp) =>
                                    fx2 FU (fun s4 (h10 : Hp) (x11 : Int32) =>
                                      if a5 ≤ x11 then (
                                        some (h10, (1 : Int32)))
                                      else (
                                        ck x11 60 (
                                          ck ((((60 : Int32) * a3) + a4) + x11) 240 (nm (ux h10 71 ((((60 : Int32) * a3) + a4) + x11) (ia h10 72 x11)) fun h12 =>
                                          nm (x11 + (1 : Int32)) fun x13 =>
                                          s4 h12 x13)))) h9 (0 : Int32)) fun k3 =>
                                  fx2 FU (fun s5 (h14 : Hp) (x15 : Int32) =>
                                    if a5 ≤ x15 then (
                                      k3 h14)
                                    else (
                                      ck ((((60 : Int32) * a1) + a2) + x15) 240 (
                                        ck x15 60 (nm (ux h14 72 x15 (ia h14 71 ((((60 : Int32) * a1) + a2) + x15))) fun h16 =>
                                        nm (x15 + (1 : Int32)) fun x17 =>
                                        s5 h16 x17)))) h (0 : Int32))
                                else (
                                  k2 (0 : Int32)))))))))
                  else (
                    bnd (f_X8_finds h (4 : Int32)) fun h18 x19 =>
                    some (h18, x19)))))
            else (
              k1 (0 : Int32)))))))
theorem dX8_copy_0 : decode cX8_copy 0 = .ok (.iload_n 1, 1) := by decide +kernel
theorem dX8_copy_1 : decode cX8_copy 1 = .ok (.invokestatic 95, 3) := by decide +kernel
theorem dX8_copy_4 : decode cX8_copy 4 = .ok (.ifCond .eq 10, 3) := by decide +kernel
theorem dX8_copy_7 : decode cX8_copy 7 = .ok (.iload_n 3, 1) := by decide +kernel
theorem dX8_copy_8 : decode cX8_copy 8 = .ok (.invokestatic 95, 3) := by decide +kernel
theorem dX8_copy_11 : decode cX8_copy 11 = .ok (.ifCond .ne 6, 3) := by decide +kernel
theorem dX8_copy_14 : decode cX8_copy 14 = .ok (.bipush (-2), 2) := by decide +kernel
theorem dX8_copy_16 : decode cX8_copy 16 = .ok (.ireturn, 1) := by decide +kernel
theorem dX8_copy_17 : decode cX8_copy 17 = .ok (.aload_n 0, 1) := by decide +kernel
theorem dX8_copy_18 : decode cX8_copy 18 = .ok (.getfield 7, 3) := by decide +kernel
theorem dX8_copy_21 : decode cX8_copy 21 = .ok (.iload_n 1, 1) := by decide +kernel
theorem dX8_copy_22 : decode cX8_copy 22 = .ok (.iaload, 1) := by decide +kernel
theorem dX8_copy_23 : decode cX8_copy 23 = .ok (.ifCond .lt 12, 3) := by decide +kernel
theorem dX8_copy_26 : decode cX8_copy 26 = .ok (.aload_n 0, 1) := by decide +kernel
theorem dX8_copy_27 : decode cX8_copy 27 = .ok (.getfield 7, 3) := by decide +kernel
theorem dX8_copy_30 : decode cX8_copy 30 = .ok (.iload_n 3, 1) := by decide +kernel
theorem dX8_copy_31 : decode cX8_copy 31 = .ok (.iaload, 1) := by decide +kernel
theorem dX8_copy_32 : decode cX8_copy 32 = .ok (.ifCond .ge 9, 3) := by decide +kernel
theorem dX8_copy_35 : decode cX8_copy 35 = .ok (.aload_n 0, 1) := by decide +kernel
theorem dX8_copy_36 : decode cX8_copy 36 = .ok (.iconst 1, 1) := by decide +kernel
theorem dX8_copy_37 : decode cX8_copy 37 = .ok (.invokevirtual 101, 3) := by decide +kernel
theorem dX8_copy_40 : decode cX8_copy 40 = .ok (.ireturn, 1) := by decide +kernel
theorem dX8_copy_41 : decode cX8_copy 41 = .ok (.aload_n 0, 1) := by decide +kernel
theorem dX8_copy_42 : decode cX8_copy 42 = .ok (.getfield 7, 3) := by decide +kernel
theorem dX8_copy_45 : decode cX8_copy 45 = .ok (.iload_n 1, 1) := by decide +kernel
theorem dX8_copy_46 : decode cX8_copy 46 = .ok (.iaload, 1) := by decide +kernel
theorem dX8_copy_47 : decode cX8_copy 47 = .ok (.aload_n 0, 1) := by decide +kernel
theorem dX8_copy_48 : decode cX8_copy 48 = .ok (.getfield 7, 3) := by decide +kernel
theorem dX8_copy_51 : decode cX8_copy 51 = .ok (.iload_n 3, 1) := by decide +kernel
theorem dX8_copy_52 : decode cX8_copy 52 = .ok (.iaload, 1) := by decide +kernel
theorem dX8_copy_53 : decode cX8_copy 53 = .ok (.if_icmp .eq 9, 3) := by decide +kernel
theorem dX8_copy_56 : decode cX8_copy 56 = .ok (.aload_n 0, 1) := by decide +kernel
theorem dX8_copy_57 : decode cX8_copy 57 = .ok (.iconst 4, 1) := by decide +kernel
theorem dX8_copy_58 : decode cX8_copy 58 = .ok (.invokevirtual 101, 3) := by decide +kernel
theorem dX8_copy_61 : decode cX8_copy 61 = .ok (.ireturn, 1) := by decide +kernel
theorem dX8_copy_62 : decode cX8_copy 62 = .ok (.iload_n 2, 1) := by decide +kernel
theorem dX8_copy_63 : decode cX8_copy 63 = .ok (.ifCond .lt 48, 3) := by decide +kernel
theorem dX8_copy_66 : decode cX8_copy 66 = .ok (.iload 4, 2) := by decide +kernel
theorem dX8_copy_68 : decode cX8_copy 68 = .ok (.ifCond .lt 43, 3) := by decide +kernel
theorem dX8_copy_71 : decode cX8_copy 71 = .ok (.iload 5, 2) := by decide +kernel
theorem dX8_copy_73 : decode cX8_copy 73 = .ok (.ifCond .lt 38, 3) := by decide +kernel
theorem dX8_copy_76 : decode cX8_copy 76 = .ok (.iload_n 2, 1) := by decide +kernel
theorem dX8_copy_77 : decode cX8_copy 77 = .ok (.i2l, 1) := by decide +kernel
theorem dX8_copy_78 : decode cX8_copy 78 = .ok (.iload 5, 2) := by decide +kernel
theorem dX8_copy_80 : decode cX8_copy 80 = .ok (.i2l, 1) := by decide +kernel
theorem dX8_copy_81 : decode cX8_copy 81 = .ok (.ladd, 1) := by decide +kernel
theorem dX8_copy_82 : decode cX8_copy 82 = .ok (.aload_n 0, 1) := by decide +kernel
theorem dX8_copy_83 : decode cX8_copy 83 = .ok (.getfield 13, 3) := by decide +kernel
theorem dX8_copy_86 : decode cX8_copy 86 = .ok (.iload_n 1, 1) := by decide +kernel
theorem dX8_copy_87 : decode cX8_copy 87 = .ok (.iaload, 1) := by decide +kernel
theorem dX8_copy_88 : decode cX8_copy 88 = .ok (.i2l, 1) := by decide +kernel
theorem dX8_copy_89 : decode cX8_copy 89 = .ok (.lcmp, 1) := by decide +kernel
theorem dX8_copy_90 : decode cX8_copy 90 = .ok (.ifCond .gt 21, 3) := by decide +kernel
theorem dX8_copy_93 : decode cX8_copy 93 = .ok (.iload 4, 2) := by decide +kernel
theorem dX8_copy_95 : decode cX8_copy 95 = .ok (.i2l, 1) := by decide +kernel
theorem dX8_copy_96 : decode cX8_copy 96 = .ok (.iload 5, 2) := by decide +kernel
theorem dX8_copy_98 : decode cX8_copy 98 = .ok (.i2l, 1) := by decide +kernel
theorem dX8_copy_99 : decode cX8_copy 99 = .ok (.ladd, 1) := by decide +kernel
theorem dX8_copy_100 : decode cX8_copy 100 = .ok (.aload_n 0, 1) := by decide +kernel
theorem dX8_copy_101 : decode cX8_copy 101 = .ok (.getfield 13, 3) := by decide +kernel
theorem dX8_copy_104 : decode cX8_copy 104 = .ok (.iload_n 3, 1) := by decide +kernel
theorem dX8_copy_105 : decode cX8_copy 105 = .ok (.iaload, 1) := by decide +kernel
theorem dX8_copy_106 : decode cX8_copy 106 = .ok (.i2l, 1) := by decide +kernel
theorem dX8_copy_107 : decode cX8_copy 107 = .ok (.lcmp, 1) := by decide +kernel
theorem dX8_copy_108 : decode cX8_copy 108 = .ok (.ifCond .le 9, 3) := by decide +kernel
theorem dX8_copy_111 : decode cX8_copy 111 = .ok (.aload_n 0, 1) := by decide +kernel
theorem dX8_copy_112 : decode cX8_copy 112 = .ok (.iconst 2, 1) := by decide +kernel
theorem dX8_copy_113 : decode cX8_copy 113 = .ok (.invokevirtual 101, 3) := by decide +kernel
theorem dX8_copy_116 : decode cX8_copy 116 = .ok (.ireturn, 1) := by decide +kernel
theorem dX8_copy_117 : decode cX8_copy 117 = .ok (.iconst 0, 1) := by decide +kernel
theorem dX8_copy_118 : decode cX8_copy 118 = .ok (.istore 6, 2) := by decide +kernel
theorem dX8_copy_120 : decode cX8_copy 120 = .ok (.iload 6, 2) := by decide +kernel
theorem dX8_copy_122 : decode cX8_copy 122 = .ok (.iload 5, 2) := by decide +kernel
theorem dX8_copy_124 : decode cX8_copy 124 = .ok (.if_icmp .ge 30, 3) := by decide +kernel
theorem dX8_copy_127 : decode cX8_copy 127 = .ok (.aload_n 0, 1) := by decide +kernel
theorem dX8_copy_128 : decode cX8_copy 128 = .ok (.getfield 19, 3) := by decide +kernel
theorem dX8_copy_131 : decode cX8_copy 131 = .ok (.iload 6, 2) := by decide +kernel
theorem dX8_copy_133 : decode cX8_copy 133 = .ok (.aload_n 0, 1) := by decide +kernel
theorem dX8_copy_134 : decode cX8_copy 134 = .ok (.getfield 16, 3) := by decide +kernel
theorem dX8_copy_137 : decode cX8_copy 137 = .ok (.bipush 60, 2) := by decide +kernel
theorem dX8_copy_139 : decode cX8_copy 139 = .ok (.iload_n 1, 1) := by decide +kernel
theorem dX8_copy_140 : decode cX8_copy 140 = .ok (.imul, 1) := by decide +kernel
theorem dX8_copy_141 : decode cX8_copy 141 = .ok (.iload_n 2, 1) := by decide +kernel
theorem dX8_copy_142 : decode cX8_copy 142 = .ok (.iadd, 1) := by decide +kernel
theorem dX8_copy_143 : decode cX8_copy 143 = .ok (.iload 6, 2) := by decide +kernel
theorem dX8_copy_145 : decode cX8_copy 145 = .ok (.iadd, 1) := by decide +kernel
theorem dX8_copy_146 : decode cX8_copy 146 = .ok (.iaload, 1) := by decide +kernel
theorem dX8_copy_147 : decode cX8_copy 147 = .ok (.iastore, 1) := by decide +kernel
theorem dX8_copy_148 : decode cX8_copy 148 = .ok (.iinc 6 1, 3) := by decide +kernel
theorem dX8_copy_151 : decode cX8_copy 151 = .ok (.goto (-31), 3) := by decide +kernel
theorem dX8_copy_154 : decode cX8_copy 154 = .ok (.iconst 0, 1) := by decide +kernel
theorem dX8_copy_155 : decode cX8_copy 155 = .ok (.istore 6, 2) := by decide +kernel
theorem dX8_copy_157 : decode cX8_copy 157 = .ok (.iload 6, 2) := by decide +kernel
theorem dX8_copy_159 : decode cX8_copy 159 = .ok (.iload 5, 2) := by decide +kernel
theorem dX8_copy_161 : decode cX8_copy 161 = .ok (.if_icmp .ge 31, 3) := by decide +kernel
theorem dX8_copy_164 : decode cX8_copy 164 = .ok (.aload_n 0, 1) := by decide +kernel
theorem dX8_copy_165 : decode cX8_copy 165 = .ok (.getfield 16, 3) := by decide +kernel
theorem dX8_copy_168 : decode cX8_copy 168 = .ok (.bipush 60, 2) := by decide +kernel
theorem dX8_copy_170 : decode cX8_copy 170 = .ok (.iload_n 3, 1) := by decide +kernel
theorem dX8_copy_171 : decode cX8_copy 171 = .ok (.imul, 1) := by decide +kernel
theorem dX8_copy_172 : decode cX8_copy 172 = .ok (.iload 4, 2) := by decide +kernel
theorem dX8_copy_174 : decode cX8_copy 174 = .ok (.iadd, 1) := by decide +kernel
theorem dX8_copy_175 : decode cX8_copy 175 = .ok (.iload 6, 2) := by decide +kernel
theorem dX8_copy_177 : decode cX8_copy 177 = .ok (.iadd, 1) := by decide +kernel
theorem dX8_copy_178 : decode cX8_copy 178 = .ok (.aload_n 0, 1) := by decide +kernel
theorem dX8_copy_179 : decode cX8_copy 179 = .ok (.getfield 19, 3) := by decide +kernel
theorem dX8_copy_182 : decode cX8_copy 182 = .ok (.iload 6, 2) := by decide +kernel
theorem dX8_copy_184 : decode cX8_copy 184 = .ok (.iaload, 1) := by decide +kernel
theorem dX8_copy_185 : decode cX8_copy 185 = .ok (.iastore, 1) := by decide +kernel
theorem dX8_copy_186 : decode cX8_copy 186 = .ok (.iinc 6 1, 3) := by decide +kernel
theorem dX8_copy_189 : decode cX8_copy 189 = .ok (.goto (-32), 3) := by decide +kernel
theorem dX8_copy_192 : decode cX8_copy 192 = .ok (.iconst 1, 1) := by decide +kernel
theorem dX8_copy_193 : decode cX8_copy 193 = .ok (.ireturn, 1) := by decide +kernel
set_option maxRecDepth 20000 in
theorem m_X8_copy {h : Hp} {a1 : Int32} {a2 : Int32} {a3 : Int32} {a4 : Int32} {a5 : Int32}  {u : (Hp × Int32)} (hu : f_X8_copy h a1 a2 a3 a4 a5 = some u) : Ct yX8_copy cX8_copy 7 (some .int) 2 [.ref 68, .int a1, .int a2, .int a3, .int a4, .int a5] h (eI u) := by
  refine ct_of eI hu (by decide) (Nat.le_of_ble_eq_true rfl) (fun κ hn C E => ?_)
  have n6 : 6 < kn κ := by rw [hn]; decide
  unfold f_X8_copy
  show Xz κ _ 0 [(0, .ref 68), (1, .int a1), (2, .int a2), (3, .int a3), (4, .int a4), (5, .int a5)] [] h
  refine x_iload_n 1 C dX8_copy_0 1 rfl rfl rfl ?_
  refine x_csi 4 [.int a1] [] C 1 dX8_copy_1 s_X8_95 (fun u hu => m_X8_isSheet hu) rfl rfl (Nat.le_of_ble_eq_true rfl) (Nat.le_of_ble_eq_true rfl) rfl (fun x1 => ?_)
  refine x_if_eq 7 14 C dX8_copy_4 (by decide) rfl (fun _ => ?_) (fun _ => ?_)
  · refine x_bipush 16 C dX8_copy_14 cb_m2 rfl ?_
    exact x_iret C E dX8_copy_16 rfl
  · refine x_iload_n 8 C dX8_copy_7 3 rfl rfl rfl ?_
    refine x_csi 11 [.int a3] [] C 1 dX8_copy_8 s_X8_95 (fun u hu => m_X8_isSheet hu) rfl rfl (Nat.le_of_ble_eq_true rfl) (Nat.le_of_ble_eq_true rfl) rfl (fun x2 => ?_)
    refine x_if_ne 14 17 C dX8_copy_11 (by decide) rfl (fun _ => ?_) (fun _ => ?_)
    · refine x_aload_n 18 C dX8_copy_17 0 rfl rfl rfl ?_
      refine x_getR (c := 69) 21 C dX8_copy_18 fl_X8_7 sk_68 rfl sr_68_0 rfl ?_
      refine x_iload_n 22 C dX8_copy_21 1 rfl rfl rfl ?_
      refine x_iald 23 C dX8_copy_22 sk_69 sl_69 rfl ?_
      refine x_lt1 (q := 35) (ls := fun u3 => [(0, .ref 68)]) (st := fun u3 => []) (hh := fun u3 => h) (fun u3 => ?_) (fun k1 J1 => ?_)
      · refine x_aload_n 36 C dX8_copy_35 0 rfl rfl rfl ?_
        refine x_iconst 37 C dX8_copy_36 ci_1 rfl ?_
        refine x_cvI 40 [.int (1 : Int32)] [] C 0 dX8_copy_37 v_X8_101 (fun u hu => m_X8_finds hu) rfl sk_68 rfl (Nat.le_of_ble_eq_true rfl) (Nat.le_of_ble_eq_true rfl) rfl (fun h4 x5 => ?_)
        exact x_iret C E dX8_copy_40 rfl
      refine x_if_lt 26 35 C dX8_copy_23 (by decide) rfl (fun _ => ?_) (fun _ => ?_)
      · exact x_ls [0] rfl (J1 (0 : Int32))
      · refine x_aload_n 27 C dX8_copy_26 0 rfl rfl rfl ?_
        refine x_getR (c := 69) 30 C dX8_copy_27 fl_X8_7 sk_68 rfl sr_68_0 rfl ?_
        refine x_iload_n 31 C dX8_copy_30 3 rfl rfl rfl ?_
        refine x_iald 32 C dX8_copy_31 sk_69 sl_69 rfl ?_
        refine x_if_ge 35 41 C dX8_copy_32 (by decide) rfl (fun _ => ?_) (fun _ => ?_)
        · refine x_aload_n 42 C dX8_copy_41 0 rfl rfl rfl ?_
          refine x_getR (c := 69) 45 C dX8_copy_42 fl_X8_7 sk_68 rfl sr_68_0 rfl ?_
          refine x_iload_n 46 C dX8_copy_45 1 rfl rfl rfl ?_
          refine x_iald 47 C dX8_copy_46 sk_69 sl_69 rfl ?_
          refine x_aload_n 48 C dX8_copy_47 0 rfl rfl rfl ?_
          refine x_getR (c := 69) 51 C dX8_copy_48 fl_X8_7 sk_68 rfl sr_68_0 rfl ?_
          refine x_iload_n 52 C dX8_copy_51 3 rfl rfl rfl ?_
          refine x_iald 53 C dX8_copy_52 sk_69 sl_69 rfl ?_
          refine x_icmp_eq 56 62 C dX8_copy_53 (by decide) rfl (fun _ => ?_) (fun _ => ?_)
          · refine x_iload_n 63 C dX8_copy_62 2 rfl rfl rfl ?_
            refine x_lt1 (q := 111) (ls := fun u6 => [(0, .ref 68)]) (st := fun u6 => []) (hh := fun u6 => h) (fun u6 => ?_) (fun k2 J2 => ?_)
            · refine x_aload_n 112 C dX8_copy_111 0 rfl rfl rfl ?_
              refine x_iconst 113 C dX8_copy_112 ci_2 rfl ?_
              refine x_cvI 116 [.int (2 : Int32)] [] C 0 dX8_copy_113 v_X8_101 (fun u hu => m_X8_finds hu) rfl sk_68 rfl (Nat.le_of_ble_eq_true rfl) (Nat.le_of_ble_eq_true rfl) rfl (fun h7 x8 => ?_)
              exact x_iret C E dX8_copy_116 rfl
            refine x_if_lt 66 111 C dX8_copy_63 (by decide) rfl (fun _ => ?_) (fun _ => ?_)
            · exact x_ls [0] rfl (J2 (0 : Int32))
            · refine x_iload 68 C dX8_copy_66 4 rfl rfl ?_
              refine x_if_lt 71 111 C dX8_copy_68 (by decide) rfl (fun _ => ?_) (fun _ => ?_)
              · exact x_ls [0] rfl (J2 (0 : Int32))
              · refine x_iload 73 C dX8_copy_71 5 rfl rfl ?_
                refine x_if_lt 76 111 C dX8_copy_73 (by decide) rfl (fun _ => ?_) (fun _ => ?_)
                · exact x_ls [0] rfl (J2 (0 : Int32))
                · refine x_iload_n 77 C dX8_copy_76 2 rfl rfl rfl ?_
                  refine x_i2l 78 C dX8_copy_77 rfl ?_
                  refine x_iload 80 C dX8_copy_78 5 rfl rfl ?_
                  refine x_i2l 81 C dX8_copy_80 rfl ?_
                  refine x_ladd 82 C dX8_copy_81 rfl ?_
                  refine x_aload_n 83 C dX8_copy_82 0 rfl rfl rfl ?_
                  refine x_getR (c := 70) 86 C dX8_copy_83 fl_X8_13 sk_68 rfl sr_68_1 rfl ?_
                  refine x_iload_n 87 C dX8_copy_86 1 rfl rfl rfl ?_
                  refine x_iald 88 C dX8_copy_87 sk_70 sl_70 rfl ?_
                  refine x_i2l 89 C dX8_copy_88 rfl ?_
                  refine x_lcmp 90 C dX8_copy_89 rfl ?_
                  refine x_if_gt 93 111 C dX8_copy_90 (by decide) rfl (fun _ => ?_) (fun _ => ?_)
                  · exact x_ls [0] rfl (J2 (0 : Int32))
                  · refine x_iload 95 C dX8_copy_93 4 rfl rfl ?_
                    refine x_i2l 96 C dX8_copy_95 rfl ?_
                    refine x_iload 98 C dX8_copy_96 5 rfl rfl ?_
                    refine x_i2l 99 C dX8_copy_98 rfl ?_
                    refine x_ladd 100 C dX8_copy_99 rfl ?_
                    refine x_aload_n 101 C dX8_copy_100 0 rfl rfl rfl ?_
                    refine x_getR (c := 70) 104 C dX8_copy_101 fl_X8_13 sk_68 rfl sr_68_1 rfl ?_
                    refine x_iload_n 105 C dX8_copy_104 3 rfl rfl rfl ?_
                    refine x_iald 106 C dX8_copy_105 sk_70 sl_70 rfl ?_
                    refine x_i2l 107 C dX8_copy_106 rfl ?_
                    refine x_lcmp 108 C dX8_copy_107 rfl ?_
                    refine x_if_le 111 117 C dX8_copy_108 (by decide) rfl (fun _ => ?_) (fun _ => ?_)
                    · refine x_iconst 118 C dX8_copy_117 ci_0 rfl ?_
                      refine x_istore 120 [(6, .int (0 : Int32)), (0, .ref 68), (1, .int a1), (2, .int a2), (3, .int a3), (4, .int a4), (5, .int a5)] C dX8_copy_118 n6 rfl rfl ?_
                      refine x_lt1 (q := 154) (ls := fun h9 => [(0, .ref 68), (3, .int a3), (4, .int a4), (5, .int a5)]) (st := fun h9 => []) (hh := fun h9 => h9) (fun h9 => ?_) (fun k3 J3 => ?_)
                      · refine x_iconst 155 C dX8_copy_154 ci_0 rfl ?_
                        refine x_istore 157 [(6, .int (0 : Int32)), (0, .ref 68), (3, .int a3), (4, .int a4), (5, .int a5)] C dX8_copy_155 n6 rfl rfl ?_
                        refine x_ls [1, 2, 3, 4, 0] rfl (x_fx2 (ls := fun h10 x11 => [(0, .ref 68), (3, .int a3), (4, .int a4), (5, .int a5), (6, .int x11)]) (st := fun h10 x11 => []) (hh := fun h10 x11 => h10) (fun s4 J4 h10 x11 => ?_))
                        refine x_iload 159 C dX8_copy_157 4 rfl rfl ?_
                        refine x_iload 161 C dX8_copy_159 3 rfl rfl ?_
                        refine x_icmp_ge 164 192 C dX8_copy_161 (by decide) rfl (fun _ => ?_) (fun _ => ?_)
                        · refine x_iconst 193 C dX8_copy_192 ci_1 rfl ?_
                          exact x_iret C E dX8_copy_193 rfl
                        · refine x_aload_n 165 C dX8_copy_164 0 rfl rfl rfl ?_
                          refine x_getR (c := 71) 168 C dX8_copy_165 fl_X8_16 sk_68 rfl sr_68_2 rfl ?_
                          refine x_bipush 170 C dX8_copy_168 cb_60 rfl ?_
                          refine x_iload_n 171 C dX8_copy_170 1 rfl rfl rfl ?_
                          refine x_imul 172 C dX8_copy_171 rfl ?_
                          refine x_iload 174 C dX8_copy_172 2 rfl rfl ?_
                          refine x_iadd 175 C dX8_copy_174 rfl ?_
                          refine x_iload 177 C dX8_copy_175 4 rfl rfl ?_
                          refine x_iadd 178 C dX8_copy_177 rfl ?_
                          refine x_aload_n 179 C dX8_copy_178 0 rfl rfl rfl ?_
                          refine x_getR (c := 72) 182 C dX8_copy_179 fl_X8_19 sk_68 rfl sr_68_3 rfl ?_
                          refine x_iload 184 C dX8_copy_182 4 rfl rfl ?_
                          refine x_iald 185 C dX8_copy_184 sk_72 sl_72 rfl ?_
                          refine x_iast 186 C dX8_copy_185 sk_71 sl_71 rfl (fun h12 => ?_)
                          refine x_iinc 189 (fun x13 => [(6, .int x13), (0, .ref 68), (3, .int a3), (4, .int a4), (5, .int a5)]) C dX8_copy_186 4 rfl ci_1 n6 (fun _ => rfl) rfl (fun x13 => ?_)
                          refine x_goto 157 C dX8_copy_189 (by decide) ?_
                          exact x_ls [1, 2, 3, 4, 0] rfl (J4 h12 x13)
                      refine x_ls [1, 2, 3, 4, 5, 6, 0] rfl (x_fx2 (ls := fun h14 x15 => [(0, .ref 68), (1, .int a1), (2, .int a2), (3, .int a3), (4, .int a4), (5, .int a5), (6, .int x15)]) (st := fun h14 x15 => []) (hh := fun h14 x15 => h14) (fun s5 J5 h14 x15 => ?_))
                      refine x_iload 122 C dX8_copy_120 6 rfl rfl ?_
                      refine x_iload 124 C dX8_copy_122 5 rfl rfl ?_
                      refine x_icmp_ge 127 154 C dX8_copy_124 (by decide) rfl (fun _ => ?_) (fun _ => ?_)
                      · exact x_ls [0, 3, 4, 5] rfl (J3 h14)
                      · refine x_aload_n 128 C dX8_copy_127 0 rfl rfl rfl ?_
                        refine x_getR (c := 72) 131 C dX8_copy_128 fl_X8_19 sk_68 rfl sr_68_3 rfl ?_
                        refine x_iload 133 C dX8_copy_131 6 rfl rfl ?_
                        refine x_aload_n 134 C dX8_copy_133 0 rfl rfl rfl ?_
                        refine x_getR (c := 71) 137 C dX8_copy_134 fl_X8_16 sk_68 rfl sr_68_2 rfl ?_
                        refine x_bipush 139 C dX8_copy_137 cb_60 rfl ?_
                        refine x_iload_n 140 C dX8_copy_139 1 rfl rfl rfl ?_
                        refine x_imul 141 C dX8_copy_140 rfl ?_
                        refine x_iload_n 142 C dX8_copy_141 2 rfl rfl rfl ?_
                        refine x_iadd 143 C dX8_copy_142 rfl ?_
                        refine x_iload 145 C dX8_copy_143 6 rfl rfl ?_
                        refine x_iadd 146 C dX8_copy_145 rfl ?_
                        refine x_iald 147 C dX8_copy_146 sk_71 sl_71 rfl ?_
                        refine x_iast 148 C dX8_copy_147 sk_72 sl_72 rfl (fun h16 => ?_)
                        refine x_iinc 151 (fun x17 => [(6, .int x17), (0, .ref 68), (1, .int a1), (2, .int a2), (3, .int a3), (4, .int a4), (5, .int a5)]) C dX8_copy_148 6 rfl ci_1 n6 (fun _ => rfl) rfl (fun x17 => ?_)
                        refine x_goto 120 C dX8_copy_151 (by decide) ?_
                        exact x_ls [1, 2, 3, 4, 5, 6, 0] rfl (J5 h16 x17)
                    · exact x_ls [0] rfl (J2 (0 : Int32))
          · refine x_aload_n 57 C dX8_copy_56 0 rfl rfl rfl ?_
            refine x_iconst 58 C dX8_copy_57 ci_4 rfl ?_
            refine x_cvI 61 [.int (4 : Int32)] [] C 0 dX8_copy_58 v_X8_101 (fun u hu => m_X8_finds hu) rfl sk_68 rfl (Nat.le_of_ble_eq_true rfl) (Nat.le_of_ble_eq_true rfl) rfl (fun h18 x19 => ?_)
            exact x_iret C E dX8_copy_61 rfl
        · exact x_ls [0] rfl (J1 (0 : Int32))
    · refine x_bipush 16 C dX8_copy_14 cb_m2 rfl ?_
      exact x_iret C E dX8_copy_16 rfl

def f_X8_type (h : Hp) (a1 : Int32) (a2 : Int32) : Option (Hp × Int32) :=
  bdr (f_X8_isTwo a1) fun x1 =>
  if x1 = 0 then (
    some (h, (-2 : Int32)))
  else (
    bdr (f_X8_in (a2.toInt64) (0 : Int64) (255 : Int64)) fun x2 =>
    if x2 = 0 then (
      some (h, (-2 : Int32)))
    else (
      ck a1 2 (
        lt1 (fun (x3 : Int32) =>
          if (ia h 74 a1) = x3 then (
            some (h, (-4 : Int32)))
          else (
            ck a1 2 (
              ck (((24 : Int32) * a1) + (ia h 74 a1)) 48 (nm (ux h 73 (((24 : Int32) * a1) + (ia h 74 a1)) a2) fun h4 =>
              ck a1 2 (
                ck a1 2 (nm (ux h4 74 a1 ((ia h4 74 a1) + (1 : Int32))) fun h5 =>
                ck a1 2 (
                  some (h5, (ia h5 74 a1))))))))) fun k1 =>
        if a1 = 0 then (
          k1 (23 : Int32))
        else (
          k1 (24 : Int32)))))
theorem dX8_type_0 : decode cX8_type 0 = .ok (.iload_n 1, 1) := by decide +kernel
theorem dX8_type_1 : decode cX8_type 1 = .ok (.invokestatic 114, 3) := by decide +kernel
theorem dX8_type_4 : decode cX8_type 4 = .ok (.ifCond .eq 15, 3) := by decide +kernel
theorem dX8_type_7 : decode cX8_type 7 = .ok (.iload_n 2, 1) := by decide +kernel
theorem dX8_type_8 : decode cX8_type 8 = .ok (.i2l, 1) := by decide +kernel
theorem dX8_type_9 : decode cX8_type 9 = .ok (.lconst 0, 1) := by decide +kernel
theorem dX8_type_10 : decode cX8_type 10 = .ok (.ldc2_w 117, 3) := by decide +kernel
theorem dX8_type_13 : decode cX8_type 13 = .ok (.invokestatic 85, 3) := by decide +kernel
theorem dX8_type_16 : decode cX8_type 16 = .ok (.ifCond .ne 6, 3) := by decide +kernel
theorem dX8_type_19 : decode cX8_type 19 = .ok (.bipush (-2), 2) := by decide +kernel
theorem dX8_type_21 : decode cX8_type 21 = .ok (.ireturn, 1) := by decide +kernel
theorem dX8_type_22 : decode cX8_type 22 = .ok (.aload_n 0, 1) := by decide +kernel
theorem dX8_type_23 : decode cX8_type 23 = .ok (.getfield 25, 3) := by decide +kernel
theorem dX8_type_26 : decode cX8_type 26 = .ok (.iload_n 1, 1) := by decide +kernel
theorem dX8_type_27 : decode cX8_type 27 = .ok (.iaload, 1) := by decide +kernel
theorem dX8_type_28 : decode cX8_type 28 = .ok (.iload_n 1, 1) := by decide +kernel
theorem dX8_type_29 : decode cX8_type 29 = .ok (.ifCond .ne 8, 3) := by decide +kernel
theorem dX8_type_32 : decode cX8_type 32 = .ok (.bipush 23, 2) := by decide +kernel
theorem dX8_type_34 : decode cX8_type 34 = .ok (.goto 5, 3) := by decide +kernel
theorem dX8_type_37 : decode cX8_type 37 = .ok (.bipush 24, 2) := by decide +kernel
theorem dX8_type_39 : decode cX8_type 39 = .ok (.if_icmp .ne 6, 3) := by decide +kernel
theorem dX8_type_42 : decode cX8_type 42 = .ok (.bipush (-4), 2) := by decide +kernel
theorem dX8_type_44 : decode cX8_type 44 = .ok (.ireturn, 1) := by decide +kernel
theorem dX8_type_45 : decode cX8_type 45 = .ok (.aload_n 0, 1) := by decide +kernel
theorem dX8_type_46 : decode cX8_type 46 = .ok (.getfield 22, 3) := by decide +kernel
theorem dX8_type_49 : decode cX8_type 49 = .ok (.bipush 24, 2) := by decide +kernel
theorem dX8_type_51 : decode cX8_type 51 = .ok (.iload_n 1, 1) := by decide +kernel
theorem dX8_type_52 : decode cX8_type 52 = .ok (.imul, 1) := by decide +kernel
theorem dX8_type_53 : decode cX8_type 53 = .ok (.aload_n 0, 1) := by decide +kernel
theorem dX8_type_54 : decode cX8_type 54 = .ok (.getfield 25, 3) := by decide +kernel
theorem dX8_type_57 : decode cX8_type 57 = .ok (.iload_n 1, 1) := by decide +kernel
theorem dX8_type_58 : decode cX8_type 58 = .ok (.iaload, 1) := by decide +kernel
theorem dX8_type_59 : decode cX8_type 59 = .ok (.iadd, 1) := by decide +kernel
theorem dX8_type_60 : decode cX8_type 60 = .ok (.iload_n 2, 1) := by decide +kernel
theorem dX8_type_61 : decode cX8_type 61 = .ok (.iastore, 1) := by decide +kernel
theorem dX8_type_62 : decode cX8_type 62 = .ok (.aload_n 0, 1) := by decide +kernel
theorem dX8_type_63 : decode cX8_type 63 = .ok (.getfield 25, 3) := by decide +kernel
theorem dX8_type_66 : decode cX8_type 66 = .ok (.iload_n 1, 1) := by decide +kernel
theorem dX8_type_67 : decode cX8_type 67 = .ok (.dup2, 1) := by decide +kernel
theorem dX8_type_68 : decode cX8_type 68 = .ok (.iaload, 1) := by decide +kernel
theorem dX8_type_69 : decode cX8_type 69 = .ok (.iconst 1, 1) := by decide +kernel
theorem dX8_type_70 : decode cX8_type 70 = .ok (.iadd, 1) := by decide +kernel
theorem dX8_type_71 : decode cX8_type 71 = .ok (.iastore, 1) := by decide +kernel
theorem dX8_type_72 : decode cX8_type 72 = .ok (.aload_n 0, 1) := by decide +kernel
theorem dX8_type_73 : decode cX8_type 73 = .ok (.getfield 25, 3) := by decide +kernel
theorem dX8_type_76 : decode cX8_type 76 = .ok (.iload_n 1, 1) := by decide +kernel
theorem dX8_type_77 : decode cX8_type 77 = .ok (.iaload, 1) := by decide +kernel
theorem dX8_type_78 : decode cX8_type 78 = .ok (.ireturn, 1) := by decide +kernel
set_option maxRecDepth 20000 in
theorem m_X8_type {h : Hp} {a1 : Int32} {a2 : Int32}  {u : (Hp × Int32)} (hu : f_X8_type h a1 a2 = some u) : Ct yX8_type cX8_type 3 (some .int) 2 [.ref 68, .int a1, .int a2] h (eI u) := by
  refine ct_of eI hu (by decide) (Nat.le_of_ble_eq_true rfl) (fun κ hn C E => ?_)
  unfold f_X8_type
  show Xz κ _ 0 [(0, .ref 68), (1, .int a1), (2, .int a2)] [] h
  refine x_iload_n 1 C dX8_type_0 1 rfl rfl rfl ?_
  refine x_csi 4 [.int a1] [] C 1 dX8_type_1 s_X8_114 (fun u hu => m_X8_isTwo hu) rfl rfl (Nat.le_of_ble_eq_true rfl) (Nat.le_of_ble_eq_true rfl) rfl (fun x1 => ?_)
  refine x_if_eq 7 19 C dX8_type_4 (by decide) rfl (fun _ => ?_) (fun _ => ?_)
  · refine x_bipush 21 C dX8_type_19 cb_m2 rfl ?_
    exact x_iret C E dX8_type_21 rfl
  · refine x_iload_n 8 C dX8_type_7 2 rfl rfl rfl ?_
    refine x_i2l 9 C dX8_type_8 rfl ?_
    refine x_lconst 10 C dX8_type_9 cl_0 rfl ?_
    refine x_ldc2 13 C dX8_type_10 kw_X8_117 rfl ?_
    refine x_csi 16 [.long (a2.toInt64), .long (0 : Int64), .long (255 : Int64)] [] C 0 dX8_type_13 s_X8_85 (fun u hu => m_X8_in hu) rfl rfl (Nat.le_of_ble_eq_true rfl) (Nat.le_of_ble_eq_true rfl) rfl (fun x2 => ?_)
    refine x_if_ne 19 22 C dX8_type_16 (by decide) rfl (fun _ => ?_) (fun _ => ?_)
    · refine x_aload_n 23 C dX8_type_22 0 rfl rfl rfl ?_
      refine x_getR (c := 74) 26 C dX8_type_23 fl_X8_25 sk_68 rfl sr_68_6 rfl ?_
      refine x_iload_n 27 C dX8_type_26 1 rfl rfl rfl ?_
      refine x_iald 28 C dX8_type_27 sk_74 sl_74 rfl ?_
      refine x_iload_n 29 C dX8_type_28 1 rfl rfl rfl ?_
      refine x_lt1 (q := 39) (ls := fun x3 => [(0, .ref 68), (1, .int a1), (2, .int a2)]) (st := fun x3 => [.int x3, .int (ia h 74 a1)]) (hh := fun x3 => h) (fun x3 => ?_) (fun k1 J1 => ?_)
      · refine x_icmp_ne 42 45 C dX8_type_39 (by decide) rfl (fun _ => ?_) (fun _ => ?_)
        · refine x_aload_n 46 C dX8_type_45 0 rfl rfl rfl ?_
          refine x_getR (c := 73) 49 C dX8_type_46 fl_X8_22 sk_68 rfl sr_68_5 rfl ?_
          refine x_bipush 51 C dX8_type_49 cb_24 rfl ?_
          refine x_iload_n 52 C dX8_type_51 1 rfl rfl rfl ?_
          refine x_imul 53 C dX8_type_52 rfl ?_
          refine x_aload_n 54 C dX8_type_53 0 rfl rfl rfl ?_
          refine x_getR (c := 74) 57 C dX8_type_54 fl_X8_25 sk_68 rfl sr_68_6 rfl ?_
          refine x_iload_n 58 C dX8_type_57 1 rfl rfl rfl ?_
          refine x_iald 59 C dX8_type_58 sk_74 sl_74 rfl ?_
          refine x_iadd 60 C dX8_type_59 rfl ?_
          refine x_iload_n 61 C dX8_type_60 2 rfl rfl rfl ?_
          refine x_iast 62 C dX8_type_61 sk_73 sl_73 rfl (fun h4 => ?_)
          refine x_aload_n 63 C dX8_type_62 0 rfl rfl rfl ?_
          refine x_getR (c := 74) 66 C dX8_type_63 fl_X8_25 sk_68 rfl sr_68_6 rfl ?_
          refine x_iload_n 67 C dX8_type_66 1 rfl rfl rfl ?_
          refine x_dup2 68 C dX8_type_67 rfl rfl rfl ?_
          refine x_iald 69 C dX8_type_68 sk_74 sl_74 rfl ?_
          refine x_iconst 70 C dX8_type_69 ci_1 rfl ?_
          refine x_iadd 71 C dX8_type_70 rfl ?_
          refine x_iast 72 C dX8_type_71 sk_74 sl_74 rfl (fun h5 => ?_)
          refine x_aload_n 73 C dX8_type_72 0 rfl rfl rfl ?_
          refine x_getR (c := 74) 76 C dX8_type_73 fl_X8_25 sk_68 rfl sr_68_6 rfl ?_
          refine x_iload_n 77 C dX8_type_76 1 rfl rfl rfl ?_
          refine x_iald 78 C dX8_type_77 sk_74 sl_74 rfl ?_
          exact x_iret C E dX8_type_78 rfl
        · refine x_bipush 44 C dX8_type_42 cb_m4 rfl ?_
          exact x_iret C E dX8_type_44 rfl
      refine x_if_ne 32 37 C dX8_type_29 (by decide) rfl (fun _ => ?_) (fun _ => ?_)
      · refine x_bipush 39 C dX8_type_37 cb_24 rfl ?_
        exact x_ls [0, 1, 2] rfl (J1 (24 : Int32))
      · refine x_bipush 34 C dX8_type_32 cb_23 rfl ?_
        refine x_goto 39 C dX8_type_34 (by decide) ?_
        exact x_ls [0, 1, 2] rfl (J1 (23 : Int32))
    · refine x_bipush 21 C dX8_type_19 cb_m2 rfl ?_
      exact x_iret C E dX8_type_21 rfl

def f_X8_wipe (h : Hp) (a1 : Int32) : Option (Hp × Int32) :=
  bdr (f_X8_isTwo a1) fun x1 =>
  if x1 = 0 then (
    some (h, (-2 : Int32)))
  else (
    ck a1 2 (
      nm (ia h 74 a1) fun x2 =>
      ck a1 2 (nm (ux h 74 a1 (0 : Int32)) fun h3 =>
      some (h3, x2))))
theorem dX8_wipe_0 : decode cX8_wipe 0 = .ok (.iload_n 1, 1) := by decide +kernel
theorem dX8_wipe_1 : decode cX8_wipe 1 = .ok (.invokestatic 114, 3) := by decide +kernel
theorem dX8_wipe_4 : decode cX8_wipe 4 = .ok (.ifCond .ne 6, 3) := by decide +kernel
theorem dX8_wipe_7 : decode cX8_wipe 7 = .ok (.bipush (-2), 2) := by decide +kernel
theorem dX8_wipe_9 : decode cX8_wipe 9 = .ok (.ireturn, 1) := by decide +kernel
theorem dX8_wipe_10 : decode cX8_wipe 10 = .ok (.aload_n 0, 1) := by decide +kernel
theorem dX8_wipe_11 : decode cX8_wipe 11 = .ok (.getfield 25, 3) := by decide +kernel
theorem dX8_wipe_14 : decode cX8_wipe 14 = .ok (.iload_n 1, 1) := by decide +kernel
theorem dX8_wipe_15 : decode cX8_wipe 15 = .ok (.iaload, 1) := by decide +kernel
theorem dX8_wipe_16 : decode cX8_wipe 16 = .ok (.istore_n 2, 1) := by decide +kernel
theorem dX8_wipe_17 : decode cX8_wipe 17 = .ok (.aload_n 0, 1) := by decide +kernel
theorem dX8_wipe_18 : decode cX8_wipe 18 = .ok (.getfield 25, 3) := by decide +kernel
theorem dX8_wipe_21 : decode cX8_wipe 21 = .ok (.iload_n 1, 1) := by decide +kernel
theorem dX8_wipe_22 : decode cX8_wipe 22 = .ok (.iconst 0, 1) := by decide +kernel
theorem dX8_wipe_23 : decode cX8_wipe 23 = .ok (.iastore, 1) := by decide +kernel
theorem dX8_wipe_24 : decode cX8_wipe 24 = .ok (.iload_n 2, 1) := by decide +kernel
theorem dX8_wipe_25 : decode cX8_wipe 25 = .ok (.ireturn, 1) := by decide +kernel
set_option maxRecDepth 20000 in
theorem m_X8_wipe {h : Hp} {a1 : Int32}  {u : (Hp × Int32)} (hu : f_X8_wipe h a1 = some u) : Ct yX8_wipe cX8_wipe 3 (some .int) 2 [.ref 68, .int a1] h (eI u) := by
  refine ct_of eI hu (by decide) (Nat.le_of_ble_eq_true rfl) (fun κ hn C E => ?_)
  have n2 : 2 < kn κ := by rw [hn]; decide
  unfold f_X8_wipe
  show Xz κ _ 0 [(0, .ref 68), (1, .int a1)] [] h
  refine x_iload_n 1 C dX8_wipe_0 1 rfl rfl rfl ?_
  refine x_csi 4 [.int a1] [] C 1 dX8_wipe_1 s_X8_114 (fun u hu => m_X8_isTwo hu) rfl rfl (Nat.le_of_ble_eq_true rfl) (Nat.le_of_ble_eq_true rfl) rfl (fun x1 => ?_)
  refine x_if_ne 7 10 C dX8_wipe_4 (by decide) rfl (fun _ => ?_) (fun _ => ?_)
  · refine x_aload_n 11 C dX8_wipe_10 0 rfl rfl rfl ?_
    refine x_getR (c := 74) 14 C dX8_wipe_11 fl_X8_25 sk_68 rfl sr_68_6 rfl ?_
    refine x_iload_n 15 C dX8_wipe_14 1 rfl rfl rfl ?_
    refine x_iald 16 C dX8_wipe_15 sk_74 sl_74 rfl ?_
    refine x_ni (fun x2 => ?_)
    refine x_istore_n 17 [(2, .int x2), (0, .ref 68), (1, .int a1)] C dX8_wipe_16 n2 rfl rfl rfl ?_
    refine x_aload_n 18 C dX8_wipe_17 1 rfl rfl rfl ?_
    refine x_getR (c := 74) 21 C dX8_wipe_18 fl_X8_25 sk_68 rfl sr_68_6 rfl ?_
    refine x_iload_n 22 C dX8_wipe_21 2 rfl rfl rfl ?_
    refine x_iconst 23 C dX8_wipe_22 ci_0 rfl ?_
    refine x_iast 24 C dX8_wipe_23 sk_74 sl_74 rfl (fun h3 => ?_)
    refine x_iload_n 25 C dX8_wipe_24 0 rfl rfl rfl ?_
    exact x_iret C E dX8_wipe_25 rfl
  · refine x_bipush 9 C dX8_wipe_7 cb_m2 rfl ?_
    exact x_iret C E dX8_wipe_9 rfl

def f_X8_undo (h : Hp) (a1 : Int32) : Option (Hp × Int32) :=
  bdr (f_X8_isTwo a1) fun x1 =>
  if x1 = 0 then (
    some (h, (-2 : Int32)))
  else (
    ck a1 2 (
      if (ia h 74 a1) = 0 then (
        some (h, (-3 : Int32)))
      else (
        ck a1 2 (
          ck a1 2 (nm (ux h 74 a1 ((ia h 74 a1) - (1 : Int32))) fun h2 =>
          ck a1 2 (
            some (h2, (ia h2 74 a1))))))))
theorem dX8_undo_0 : decode cX8_undo 0 = .ok (.iload_n 1, 1) := by decide +kernel
theorem dX8_undo_1 : decode cX8_undo 1 = .ok (.invokestatic 114, 3) := by decide +kernel
theorem dX8_undo_4 : decode cX8_undo 4 = .ok (.ifCond .ne 6, 3) := by decide +kernel
theorem dX8_undo_7 : decode cX8_undo 7 = .ok (.bipush (-2), 2) := by decide +kernel
theorem dX8_undo_9 : decode cX8_undo 9 = .ok (.ireturn, 1) := by decide +kernel
theorem dX8_undo_10 : decode cX8_undo 10 = .ok (.aload_n 0, 1) := by decide +kernel
theorem dX8_undo_11 : decode cX8_undo 11 = .ok (.getfield 25, 3) := by decide +kernel
theorem dX8_undo_14 : decode cX8_undo 14 = .ok (.iload_n 1, 1) := by decide +kernel
theorem dX8_undo_15 : decode cX8_undo 15 = .ok (.iaload, 1) := by decide +kernel
theorem dX8_undo_16 : decode cX8_undo 16 = .ok (.ifCond .ne 6, 3) := by decide +kernel
theorem dX8_undo_19 : decode cX8_undo 19 = .ok (.bipush (-3), 2) := by decide +kernel
theorem dX8_undo_21 : decode cX8_undo 21 = .ok (.ireturn, 1) := by decide +kernel
theorem dX8_undo_22 : decode cX8_undo 22 = .ok (.aload_n 0, 1) := by decide +kernel
theorem dX8_undo_23 : decode cX8_undo 23 = .ok (.getfield 25, 3) := by decide +kernel
theorem dX8_undo_26 : decode cX8_undo 26 = .ok (.iload_n 1, 1) := by decide +kernel
theorem dX8_undo_27 : decode cX8_undo 27 = .ok (.dup2, 1) := by decide +kernel
theorem dX8_undo_28 : decode cX8_undo 28 = .ok (.iaload, 1) := by decide +kernel
theorem dX8_undo_29 : decode cX8_undo 29 = .ok (.iconst 1, 1) := by decide +kernel
theorem dX8_undo_30 : decode cX8_undo 30 = .ok (.isub, 1) := by decide +kernel
theorem dX8_undo_31 : decode cX8_undo 31 = .ok (.iastore, 1) := by decide +kernel
theorem dX8_undo_32 : decode cX8_undo 32 = .ok (.aload_n 0, 1) := by decide +kernel
theorem dX8_undo_33 : decode cX8_undo 33 = .ok (.getfield 25, 3) := by decide +kernel
theorem dX8_undo_36 : decode cX8_undo 36 = .ok (.iload_n 1, 1) := by decide +kernel
theorem dX8_undo_37 : decode cX8_undo 37 = .ok (.iaload, 1) := by decide +kernel
theorem dX8_undo_38 : decode cX8_undo 38 = .ok (.ireturn, 1) := by decide +kernel
set_option maxRecDepth 20000 in
theorem m_X8_undo {h : Hp} {a1 : Int32}  {u : (Hp × Int32)} (hu : f_X8_undo h a1 = some u) : Ct yX8_undo cX8_undo 2 (some .int) 2 [.ref 68, .int a1] h (eI u) := by
  refine ct_of eI hu (by decide) (Nat.le_of_ble_eq_true rfl) (fun κ hn C E => ?_)
  unfold f_X8_undo
  show Xz κ _ 0 [(0, .ref 68), (1, .int a1)] [] h
  refine x_iload_n 1 C dX8_undo_0 1 rfl rfl rfl ?_
  refine x_csi 4 [.int a1] [] C 1 dX8_undo_1 s_X8_114 (fun u hu => m_X8_isTwo hu) rfl rfl (Nat.le_of_ble_eq_true rfl) (Nat.le_of_ble_eq_true rfl) rfl (fun x1 => ?_)
  refine x_if_ne 7 10 C dX8_undo_4 (by decide) rfl (fun _ => ?_) (fun _ => ?_)
  · refine x_aload_n 11 C dX8_undo_10 0 rfl rfl rfl ?_
    refine x_getR (c := 74) 14 C dX8_undo_11 fl_X8_25 sk_68 rfl sr_68_6 rfl ?_
    refine x_iload_n 15 C dX8_undo_14 1 rfl rfl rfl ?_
    refine x_iald 16 C dX8_undo_15 sk_74 sl_74 rfl ?_
    refine x_if_ne 19 22 C dX8_undo_16 (by decide) rfl (fun _ => ?_) (fun _ => ?_)
    · refine x_aload_n 23 C dX8_undo_22 0 rfl rfl rfl ?_
      refine x_getR (c := 74) 26 C dX8_undo_23 fl_X8_25 sk_68 rfl sr_68_6 rfl ?_
      refine x_iload_n 27 C dX8_undo_26 1 rfl rfl rfl ?_
      refine x_dup2 28 C dX8_undo_27 rfl rfl rfl ?_
      refine x_iald 29 C dX8_undo_28 sk_74 sl_74 rfl ?_
      refine x_iconst 30 C dX8_undo_29 ci_1 rfl ?_
      refine x_isub 31 C dX8_undo_30 rfl ?_
      refine x_iast 32 C dX8_undo_31 sk_74 sl_74 rfl (fun h2 => ?_)
      refine x_aload_n 33 C dX8_undo_32 0 rfl rfl rfl ?_
      refine x_getR (c := 74) 36 C dX8_undo_33 fl_X8_25 sk_68 rfl sr_68_6 rfl ?_
      refine x_iload_n 37 C dX8_undo_36 1 rfl rfl rfl ?_
      refine x_iald 38 C dX8_undo_37 sk_74 sl_74 rfl ?_
      exact x_iret C E dX8_undo_38 rfl
    · refine x_bipush 21 C dX8_undo_19 cb_m3 rfl ?_
      exact x_iret C E dX8_undo_21 rfl
  · refine x_bipush 9 C dX8_undo_7 cb_m2 rfl ?_
    exact x_iret C E dX8_undo_9 rfl
