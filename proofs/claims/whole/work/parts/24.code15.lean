def f_X8_event (h : Hp) (a1 : Int32) (a2 : Int32) (a3 : Int32) : Option (Hp × Int32) :=
  bdr (f_X8_in (a1.toInt64) (0 : Int64) (2 : Int64)) fun x1 =>
  if x1 = 0 then (
    some (h, (-2 : Int32)))
  else (
    bdr (f_X8_isBeat a2) fun x2 =>
    if x2 = 0 then (
      some (h, (-2 : Int32)))
    else (
      bdr (f_X8_in (a3.toInt64) (0 : Int64) (5 : Int64)) fun x3 =>
      if x3 = 0 then (
        some (h, (-2 : Int32)))
      else (
        if (h.1 68 12) = (8 : Int32) then (
          some (h, (-4 : Int32)))
        else (
          ck ((3 : Int32) * (h.1 68 12)) 24 (nm (ux h 78 ((3 : Int32) * (h.1 68 12)) a1) fun h4 =>
          ck (((3 : Int32) * (h4.1 68 12)) + (1 : Int32)) 24 (nm (ux h4 78 (((3 : Int32) * (h4.1 68 12)) + (1 : Int32)) a2) fun h5 =>
          ck (((3 : Int32) * (h5.1 68 12)) + (2 : Int32)) 24 (nm (ux h5 78 (((3 : Int32) * (h5.1 68 12)) + (2 : Int32)) a3) fun h6 =>
          nm (uf h6 68 12 ((h6.1 68 12) + (1 : Int32))) fun h7 =>
          some (h7, (h7.1 68 12)))))))))
theorem dX8_event_0 : decode cX8_event 0 = .ok (.iload_n 1, 1) := by decide +kernel
theorem dX8_event_1 : decode cX8_event 1 = .ok (.i2l, 1) := by decide +kernel
theorem dX8_event_2 : decode cX8_event 2 = .ok (.lconst 0, 1) := by decide +kernel
theorem dX8_event_3 : decode cX8_event 3 = .ok (.ldc2_w 99, 3) := by decide +kernel
theorem dX8_event_6 : decode cX8_event 6 = .ok (.invokestatic 85, 3) := by decide +kernel
theorem dX8_event_9 : decode cX8_event 9 = .ok (.ifCond .eq 22, 3) := by decide +kernel
theorem dX8_event_12 : decode cX8_event 12 = .ok (.iload_n 2, 1) := by decide +kernel
theorem dX8_event_13 : decode cX8_event 13 = .ok (.invokestatic 154, 3) := by decide +kernel
theorem dX8_event_16 : decode cX8_event 16 = .ok (.ifCond .eq 15, 3) := by decide +kernel
theorem dX8_event_19 : decode cX8_event 19 = .ok (.iload_n 3, 1) := by decide +kernel
theorem dX8_event_20 : decode cX8_event 20 = .ok (.i2l, 1) := by decide +kernel
theorem dX8_event_21 : decode cX8_event 21 = .ok (.lconst 0, 1) := by decide +kernel
theorem dX8_event_22 : decode cX8_event 22 = .ok (.ldc2_w 157, 3) := by decide +kernel
theorem dX8_event_25 : decode cX8_event 25 = .ok (.invokestatic 85, 3) := by decide +kernel
theorem dX8_event_28 : decode cX8_event 28 = .ok (.ifCond .ne 6, 3) := by decide +kernel
theorem dX8_event_31 : decode cX8_event 31 = .ok (.bipush (-2), 2) := by decide +kernel
theorem dX8_event_33 : decode cX8_event 33 = .ok (.ireturn, 1) := by decide +kernel
theorem dX8_event_34 : decode cX8_event 34 = .ok (.aload_n 0, 1) := by decide +kernel
theorem dX8_event_35 : decode cX8_event 35 = .ok (.getfield 169, 3) := by decide +kernel
theorem dX8_event_38 : decode cX8_event 38 = .ok (.bipush 8, 2) := by decide +kernel
theorem dX8_event_40 : decode cX8_event 40 = .ok (.if_icmp .ne 6, 3) := by decide +kernel
theorem dX8_event_43 : decode cX8_event 43 = .ok (.bipush (-4), 2) := by decide +kernel
theorem dX8_event_45 : decode cX8_event 45 = .ok (.ireturn, 1) := by decide +kernel
theorem dX8_event_46 : decode cX8_event 46 = .ok (.aload_n 0, 1) := by decide +kernel
theorem dX8_event_47 : decode cX8_event 47 = .ok (.getfield 37, 3) := by decide +kernel
theorem dX8_event_50 : decode cX8_event 50 = .ok (.iconst 3, 1) := by decide +kernel
theorem dX8_event_51 : decode cX8_event 51 = .ok (.aload_n 0, 1) := by decide +kernel
theorem dX8_event_52 : decode cX8_event 52 = .ok (.getfield 169, 3) := by decide +kernel
theorem dX8_event_55 : decode cX8_event 55 = .ok (.imul, 1) := by decide +kernel
theorem dX8_event_56 : decode cX8_event 56 = .ok (.iload_n 1, 1) := by decide +kernel
theorem dX8_event_57 : decode cX8_event 57 = .ok (.iastore, 1) := by decide +kernel
theorem dX8_event_58 : decode cX8_event 58 = .ok (.aload_n 0, 1) := by decide +kernel
theorem dX8_event_59 : decode cX8_event 59 = .ok (.getfield 37, 3) := by decide +kernel
theorem dX8_event_62 : decode cX8_event 62 = .ok (.iconst 3, 1) := by decide +kernel
theorem dX8_event_63 : decode cX8_event 63 = .ok (.aload_n 0, 1) := by decide +kernel
theorem dX8_event_64 : decode cX8_event 64 = .ok (.getfield 169, 3) := by decide +kernel
theorem dX8_event_67 : decode cX8_event 67 = .ok (.imul, 1) := by decide +kernel
theorem dX8_event_68 : decode cX8_event 68 = .ok (.iconst 1, 1) := by decide +kernel
theorem dX8_event_69 : decode cX8_event 69 = .ok (.iadd, 1) := by decide +kernel
theorem dX8_event_70 : decode cX8_event 70 = .ok (.iload_n 2, 1) := by decide +kernel
theorem dX8_event_71 : decode cX8_event 71 = .ok (.iastore, 1) := by decide +kernel
theorem dX8_event_72 : decode cX8_event 72 = .ok (.aload_n 0, 1) := by decide +kernel
theorem dX8_event_73 : decode cX8_event 73 = .ok (.getfield 37, 3) := by decide +kernel
theorem dX8_event_76 : decode cX8_event 76 = .ok (.iconst 3, 1) := by decide +kernel
theorem dX8_event_77 : decode cX8_event 77 = .ok (.aload_n 0, 1) := by decide +kernel
theorem dX8_event_78 : decode cX8_event 78 = .ok (.getfield 169, 3) := by decide +kernel
theorem dX8_event_81 : decode cX8_event 81 = .ok (.imul, 1) := by decide +kernel
theorem dX8_event_82 : decode cX8_event 82 = .ok (.iconst 2, 1) := by decide +kernel
theorem dX8_event_83 : decode cX8_event 83 = .ok (.iadd, 1) := by decide +kernel
theorem dX8_event_84 : decode cX8_event 84 = .ok (.iload_n 3, 1) := by decide +kernel
theorem dX8_event_85 : decode cX8_event 85 = .ok (.iastore, 1) := by decide +kernel
theorem dX8_event_86 : decode cX8_event 86 = .ok (.aload_n 0, 1) := by decide +kernel
theorem dX8_event_87 : decode cX8_event 87 = .ok (.dup, 1) := by decide +kernel
theorem dX8_event_88 : decode cX8_event 88 = .ok (.getfield 169, 3) := by decide +kernel
theorem dX8_event_91 : decode cX8_event 91 = .ok (.iconst 1, 1) := by decide +kernel
theorem dX8_event_92 : decode cX8_event 92 = .ok (.iadd, 1) := by decide +kernel
theorem dX8_event_93 : decode cX8_event 93 = .ok (.putfield 169, 3) := by decide +kernel
theorem dX8_event_96 : decode cX8_event 96 = .ok (.aload_n 0, 1) := by decide +kernel
theorem dX8_event_97 : decode cX8_event 97 = .ok (.getfield 169, 3) := by decide +kernel
theorem dX8_event_100 : decode cX8_event 100 = .ok (.ireturn, 1) := by decide +kernel
set_option maxRecDepth 20000 in
theorem m_X8_event {h : Hp} {a1 : Int32} {a2 : Int32} {a3 : Int32}  {u : (Hp × Int32)} (hu : f_X8_event h a1 a2 a3 = some u) : Ct yX8_event cX8_event 4 (some .int) 2 [.ref 68, .int a1, .int a2, .int a3] h (eI u) := by
  refine ct_of eI hu (by decide) (Nat.le_of_ble_eq_true rfl) (fun κ hn C E => ?_)
  unfold f_X8_event
  show Xz κ _ 0 [(0, .ref 68), (1, .int a1), (2, .int a2), (3, .int a3)] [] h
  refine x_iload_n 1 C dX8_event_0 1 rfl rfl rfl ?_
  refine x_i2l 2 C dX8_event_1 rfl ?_
  refine x_lconst 3 C dX8_event_2 cl_0 rfl ?_
  refine x_ldc2 6 C dX8_event_3 kw_X8_99 rfl ?_
  refine x_csi 9 [.long (a1.toInt64), .long (0 : Int64), .long (2 : Int64)] [] C 0 dX8_event_6 s_X8_85 (fun u hu => m_X8_in hu) rfl rfl (Nat.le_of_ble_eq_true rfl) (Nat.le_of_ble_eq_true rfl) rfl (fun x1 => ?_)
  refine x_if_eq 12 31 C dX8_event_9 (by decide) rfl (fun _ => ?_) (fun _ => ?_)
  · refine x_bipush 33 C dX8_event_31 cb_m2 rfl ?_
    exact x_iret C E dX8_event_33 rfl
  · refine x_iload_n 13 C dX8_event_12 2 rfl rfl rfl ?_
    refine x_csi 16 [.int a2] [] C 1 dX8_event_13 s_X8_154 (fun u hu => m_X8_isBeat hu) rfl rfl (Nat.le_of_ble_eq_true rfl) (Nat.le_of_ble_eq_true rfl) rfl (fun x2 => ?_)
    refine x_if_eq 19 31 C dX8_event_16 (by decide) rfl (fun _ => ?_) (fun _ => ?_)
    · refine x_bipush 33 C dX8_event_31 cb_m2 rfl ?_
      exact x_iret C E dX8_event_33 rfl
    · refine x_iload_n 20 C dX8_event_19 3 rfl rfl rfl ?_
      refine x_i2l 21 C dX8_event_20 rfl ?_
      refine x_lconst 22 C dX8_event_21 cl_0 rfl ?_
      refine x_ldc2 25 C dX8_event_22 kw_X8_157 rfl ?_
      refine x_csi 28 [.long (a3.toInt64), .long (0 : Int64), .long (5 : Int64)] [] C 0 dX8_event_25 s_X8_85 (fun u hu => m_X8_in hu) rfl rfl (Nat.le_of_ble_eq_true rfl) (Nat.le_of_ble_eq_true rfl) rfl (fun x3 => ?_)
      refine x_if_ne 31 34 C dX8_event_28 (by decide) rfl (fun _ => ?_) (fun _ => ?_)
      · refine x_aload_n 35 C dX8_event_34 0 rfl rfl rfl ?_
        refine x_getI 38 C dX8_event_35 fl_X8_169 sk_68 rfl rfl ?_
        refine x_bipush 40 C dX8_event_38 cb_8 rfl ?_
        refine x_icmp_ne 43 46 C dX8_event_40 (by decide) rfl (fun _ => ?_) (fun _ => ?_)
        · refine x_aload_n 47 C dX8_event_46 0 rfl rfl rfl ?_
          refine x_getR (c := 78) 50 C dX8_event_47 fl_X8_37 sk_68 rfl sr_68_13 rfl ?_
          refine x_iconst 51 C dX8_event_50 ci_3 rfl ?_
          refine x_aload_n 52 C dX8_event_51 0 rfl rfl rfl ?_
          refine x_getI 55 C dX8_event_52 fl_X8_169 sk_68 rfl rfl ?_
          refine x_imul 56 C dX8_event_55 rfl ?_
          refine x_iload_n 57 C dX8_event_56 1 rfl rfl rfl ?_
          refine x_iast 58 C dX8_event_57 sk_78 sl_78 rfl (fun h4 => ?_)
          refine x_aload_n 59 C dX8_event_58 0 rfl rfl rfl ?_
          refine x_getR (c := 78) 62 C dX8_event_59 fl_X8_37 sk_68 rfl sr_68_13 rfl ?_
          refine x_iconst 63 C dX8_event_62 ci_3 rfl ?_
          refine x_aload_n 64 C dX8_event_63 0 rfl rfl rfl ?_
          refine x_getI 67 C dX8_event_64 fl_X8_169 sk_68 rfl rfl ?_
          refine x_imul 68 C dX8_event_67 rfl ?_
          refine x_iconst 69 C dX8_event_68 ci_1 rfl ?_
          refine x_iadd 70 C dX8_event_69 rfl ?_
          refine x_iload_n 71 C dX8_event_70 2 rfl rfl rfl ?_
          refine x_iast 72 C dX8_event_71 sk_78 sl_78 rfl (fun h5 => ?_)
          refine x_aload_n 73 C dX8_event_72 0 rfl rfl rfl ?_
          refine x_getR (c := 78) 76 C dX8_event_73 fl_X8_37 sk_68 rfl sr_68_13 rfl ?_
          refine x_iconst 77 C dX8_event_76 ci_3 rfl ?_
          refine x_aload_n 78 C dX8_event_77 0 rfl rfl rfl ?_
          refine x_getI 81 C dX8_event_78 fl_X8_169 sk_68 rfl rfl ?_
          refine x_imul 82 C dX8_event_81 rfl ?_
          refine x_iconst 83 C dX8_event_82 ci_2 rfl ?_
          refine x_iadd 84 C dX8_event_83 rfl ?_
          refine x_iload_n 85 C dX8_event_84 3 rfl rfl rfl ?_
          refine x_iast 86 C dX8_event_85 sk_78 sl_78 rfl (fun h6 => ?_)
          refine x_aload_n 87 C dX8_event_86 0 rfl rfl rfl ?_
          refine x_dup 88 C dX8_event_87 rfl rfl ?_
          refine x_getI 91 C dX8_event_88 fl_X8_169 sk_68 rfl rfl ?_
          refine x_iconst 92 C dX8_event_91 ci_1 rfl ?_
          refine x_iadd 93 C dX8_event_92 rfl ?_
          refine x_put 96 C dX8_event_93 fp_X8_169 sk_68 rfl rfl rfl rfl (fun h7 => ?_)
          refine x_aload_n 97 C dX8_event_96 0 rfl rfl rfl ?_
          refine x_getI 100 C dX8_event_97 fl_X8_169 sk_68 rfl rfl ?_
          exact x_iret C E dX8_event_100 rfl
        · refine x_bipush 45 C dX8_event_43 cb_m4 rfl ?_
          exact x_iret C E dX8_event_45 rfl
      · refine x_bipush 33 C dX8_event_31 cb_m2 rfl ?_
        exact x_iret C E dX8_event_33 rfl

def f_X8_back (h : Hp) : Option (Hp × Int32) :=
  if (h.1 68 12) = 0 then (
    some (h, (-3 : Int32)))
  else (
    nm (uf h 68 12 ((h.1 68 12) - (1 : Int32))) fun h1 =>
    some (h1, (h1.1 68 12)))
theorem dX8_back_0 : decode cX8_back 0 = .ok (.aload_n 0, 1) := by decide +kernel
theorem dX8_back_1 : decode cX8_back 1 = .ok (.getfield 169, 3) := by decide +kernel
theorem dX8_back_4 : decode cX8_back 4 = .ok (.ifCond .ne 6, 3) := by decide +kernel
theorem dX8_back_7 : decode cX8_back 7 = .ok (.bipush (-3), 2) := by decide +kernel
theorem dX8_back_9 : decode cX8_back 9 = .ok (.ireturn, 1) := by decide +kernel
theorem dX8_back_10 : decode cX8_back 10 = .ok (.aload_n 0, 1) := by decide +kernel
theorem dX8_back_11 : decode cX8_back 11 = .ok (.dup, 1) := by decide +kernel
theorem dX8_back_12 : decode cX8_back 12 = .ok (.getfield 169, 3) := by decide +kernel
theorem dX8_back_15 : decode cX8_back 15 = .ok (.iconst 1, 1) := by decide +kernel
theorem dX8_back_16 : decode cX8_back 16 = .ok (.isub, 1) := by decide +kernel
theorem dX8_back_17 : decode cX8_back 17 = .ok (.putfield 169, 3) := by decide +kernel
theorem dX8_back_20 : decode cX8_back 20 = .ok (.aload_n 0, 1) := by decide +kernel
theorem dX8_back_21 : decode cX8_back 21 = .ok (.getfield 169, 3) := by decide +kernel
theorem dX8_back_24 : decode cX8_back 24 = .ok (.ireturn, 1) := by decide +kernel
set_option maxRecDepth 20000 in
theorem m_X8_back {h : Hp}  {u : (Hp × Int32)} (hu : f_X8_back h = some u) : Ct yX8_back cX8_back 1 (some .int) 0 [.ref 68] h (eI u) := by
  refine ct_of eI hu (by decide) (Nat.le_of_ble_eq_true rfl) (fun κ hn C E => ?_)
  unfold f_X8_back
  show Xz κ _ 0 [(0, .ref 68)] [] h
  refine x_aload_n 1 C dX8_back_0 0 rfl rfl rfl ?_
  refine x_getI 4 C dX8_back_1 fl_X8_169 sk_68 rfl rfl ?_
  refine x_if_ne 7 10 C dX8_back_4 (by decide) rfl (fun _ => ?_) (fun _ => ?_)
  · refine x_aload_n 11 C dX8_back_10 0 rfl rfl rfl ?_
    refine x_dup 12 C dX8_back_11 rfl rfl ?_
    refine x_getI 15 C dX8_back_12 fl_X8_169 sk_68 rfl rfl ?_
    refine x_iconst 16 C dX8_back_15 ci_1 rfl ?_
    refine x_isub 17 C dX8_back_16 rfl ?_
    refine x_put 20 C dX8_back_17 fp_X8_169 sk_68 rfl rfl rfl rfl (fun h1 => ?_)
    refine x_aload_n 21 C dX8_back_20 0 rfl rfl rfl ?_
    refine x_getI 24 C dX8_back_21 fl_X8_169 sk_68 rfl rfl ?_
    exact x_iret C E dX8_back_24 rfl
  · refine x_bipush 9 C dX8_back_7 cb_m3 rfl ?_
    exact x_iret C E dX8_back_9 rfl

def f_X8_read (h : Hp) (a1 : Int32) : Option (Hp × Int32) :=
  bdr (f_X8_isSheet a1) fun x1 =>
  if x1 = 0 then (
    some (h, (-2 : Int32)))
  else (
    ck a1 4 (
      if 0 ≤ (ia h 69 a1) then (
        fx3 FU (fun s1 (h2 : Hp) (x3 : Int32) (x4 : Int32) =>
          if x4 = 0 then (
            some (h2, x3))
          else (
            ck a1 4 (
              if (ia h2 70 a1) < (((3 : Int32) * x3) + (3 : Int32)) then (
                some (h2, x3))
              else (
                nm (((60 : Int32) * a1) + ((3 : Int32) * x3)) fun x5 =>
                ck x5 240 (
                  ck (x5 + (1 : Int32)) 240 (
                    ck (x5 + (2 : Int32)) 240 (
                      bnd (f_X8_event h2 (ia h2 71 x5) (ia h2 71 (x5 + (1 : Int32))) (ia h2 71 (x5 + (2 : Int32)))) fun h6 x7 =>
                      lt1 (fun (x8 : Int32) =>
                        lt1 (fun (x9 : Int32) =>
                          nm (x3 + x9) fun x10 =>
                          s1 h6 x10 x8) fun k3 =>
                        if x8 = 0 then (
                          k3 (0 : Int32))
                        else (
                          k3 (1 : Int32))) fun k2 =>
                      if x7 < 0 then (
                        k2 (0 : Int32))
                      else (
                        k2 (1 : Int32))))))))) h (0 : Int32) (1 : Int32))
      else (
        bnd (f_X8_finds h (1 : Int32)) fun h11 x12 =>
        some (h11, x12))))
theorem dX8_read_0 : decode cX8_read 0 = .ok (.iload_n 1, 1) := by decide +kernel
theorem dX8_read_1 : decode cX8_read 1 = .ok (.invokestatic 95, 3) := by decide +kernel
theorem dX8_read_4 : decode cX8_read 4 = .ok (.ifCond .ne 6, 3) := by decide +kernel
theorem dX8_read_7 : decode cX8_read 7 = .ok (.bipush (-2), 2) := by decide +kernel
theorem dX8_read_9 : decode cX8_read 9 = .ok (.ireturn, 1) := by decide +kernel
theorem dX8_read_10 : decode cX8_read 10 = .ok (.aload_n 0, 1) := by decide +kernel
theorem dX8_read_11 : decode cX8_read 11 = .ok (.getfield 7, 3) := by decide +kernel
theorem dX8_read_14 : decode cX8_read 14 = .ok (.iload_n 1, 1) := by decide +kernel
theorem dX8_read_15 : decode cX8_read 15 = .ok (.iaload, 1) := by decide +kernel
theorem dX8_read_16 : decode cX8_read 16 = .ok (.ifCond .ge 9, 3) := by decide +kernel
theorem dX8_read_19 : decode cX8_read 19 = .ok (.aload_n 0, 1) := by decide +kernel
theorem dX8_read_20 : decode cX8_read 20 = .ok (.iconst 1, 1) := by decide +kernel
theorem dX8_read_21 : decode cX8_read 21 = .ok (.invokevirtual 101, 3) := by decide +kernel
theorem dX8_read_24 : decode cX8_read 24 = .ok (.ireturn, 1) := by decide +kernel
theorem dX8_read_25 : decode cX8_read 25 = .ok (.iconst 0, 1) := by decide +kernel
theorem dX8_read_26 : decode cX8_read 26 = .ok (.istore_n 2, 1) := by decide +kernel
theorem dX8_read_27 : decode cX8_read 27 = .ok (.iconst 1, 1) := by decide +kernel
theorem dX8_read_28 : decode cX8_read 28 = .ok (.istore_n 3, 1) := by decide +kernel
theorem dX8_read_29 : decode cX8_read 29 = .ok (.iload_n 3, 1) := by decide +kernel
theorem dX8_read_30 : decode cX8_read 30 = .ok (.ifCond .eq 80, 3) := by decide +kernel
theorem dX8_read_33 : decode cX8_read 33 = .ok (.iconst 3, 1) := by decide +kernel
theorem dX8_read_34 : decode cX8_read 34 = .ok (.iload_n 2, 1) := by decide +kernel
theorem dX8_read_35 : decode cX8_read 35 = .ok (.imul, 1) := by decide +kernel
theorem dX8_read_36 : decode cX8_read 36 = .ok (.iconst 3, 1) := by decide +kernel
theorem dX8_read_37 : decode cX8_read 37 = .ok (.iadd, 1) := by decide +kernel
theorem dX8_read_38 : decode cX8_read 38 = .ok (.aload_n 0, 1) := by decide +kernel
theorem dX8_read_39 : decode cX8_read 39 = .ok (.getfield 13, 3) := by decide +kernel
theorem dX8_read_42 : decode cX8_read 42 = .ok (.iload_n 1, 1) := by decide +kernel
theorem dX8_read_43 : decode cX8_read 43 = .ok (.iaload, 1) := by decide +kernel
theorem dX8_read_44 : decode cX8_read 44 = .ok (.if_icmp .gt 66, 3) := by decide +kernel
theorem dX8_read_47 : decode cX8_read 47 = .ok (.bipush 60, 2) := by decide +kernel
theorem dX8_read_49 : decode cX8_read 49 = .ok (.iload_n 1, 1) := by decide +kernel
theorem dX8_read_50 : decode cX8_read 50 = .ok (.imul, 1) := by decide +kernel
theorem dX8_read_51 : decode cX8_read 51 = .ok (.iconst 3, 1) := by decide +kernel
theorem dX8_read_52 : decode cX8_read 52 = .ok (.iload_n 2, 1) := by decide +kernel
theorem dX8_read_53 : decode cX8_read 53 = .ok (.imul, 1) := by decide +kernel
theorem dX8_read_54 : decode cX8_read 54 = .ok (.iadd, 1) := by decide +kernel
theorem dX8_read_55 : decode cX8_read 55 = .ok (.istore 4, 2) := by decide +kernel
theorem dX8_read_57 : decode cX8_read 57 = .ok (.aload_n 0, 1) := by decide +kernel
theorem dX8_read_58 : decode cX8_read 58 = .ok (.aload_n 0, 1) := by decide +kernel
theorem dX8_read_59 : decode cX8_read 59 = .ok (.getfield 16, 3) := by decide +kernel
theorem dX8_read_62 : decode cX8_read 62 = .ok (.iload 4, 2) := by decide +kernel
theorem dX8_read_64 : decode cX8_read 64 = .ok (.iaload, 1) := by decide +kernel
theorem dX8_read_65 : decode cX8_read 65 = .ok (.aload_n 0, 1) := by decide +kernel
theorem dX8_read_66 : decode cX8_read 66 = .ok (.getfield 16, 3) := by decide +kernel
theorem dX8_read_69 : decode cX8_read 69 = .ok (.iload 4, 2) := by decide +kernel
theorem dX8_read_71 : decode cX8_read 71 = .ok (.iconst 1, 1) := by decide +kernel
theorem dX8_read_72 : decode cX8_read 72 = .ok (.iadd, 1) := by decide +kernel
theorem dX8_read_73 : decode cX8_read 73 = .ok (.iaload, 1) := by decide +kernel
theorem dX8_read_74 : decode cX8_read 74 = .ok (.aload_n 0, 1) := by decide +kernel
theorem dX8_read_75 : decode cX8_read 75 = .ok (.getfield 16, 3) := by decide +kernel
theorem dX8_read_78 : decode cX8_read 78 = .ok (.iload 4, 2) := by decide +kernel
theorem dX8_read_80 : decode cX8_read 80 = .ok (.iconst 2, 1) := by decide +kernel
theorem dX8_read_81 : decode cX8_read 81 = .ok (.iadd, 1) := by decide +kernel
theorem dX8_read_82 : decode cX8_read 82 = .ok (.iaload, 1) := by decide +kernel
theorem dX8_read_83 : decode cX8_read 83 = .ok (.invokevirtual 172, 3) := by decide +kernel
theorem dX8_read_86 : decode cX8_read 86 = .ok (.ifCond .lt 7, 3) := by decide +kernel
theorem dX8_read_89 : decode cX8_read 89 = .ok (.iconst 1, 1) := by decide +kernel
theorem dX8_read_90 : decode cX8_read 90 = .ok (.goto 4, 3) := by decide +kernel
theorem dX8_read_93 : decode cX8_read 93 = .ok (.iconst 0, 1) := by decide +kernel
theorem dX8_read_94 : decode cX8_read 94 = .ok (.istore_n 3, 1) := by decide +kernel
theorem dX8_read_95 : decode cX8_read 95 = .ok (.iload_n 2, 1) := by decide +kernel
theorem dX8_read_96 : decode cX8_read 96 = .ok (.iload_n 3, 1) := by decide +kernel
theorem dX8_read_97 : decode cX8_read 97 = .ok (.ifCond .eq 7, 3) := by decide +kernel
theorem dX8_read_100 : decode cX8_read 100 = .ok (.iconst 1, 1) := by decide +kernel
theorem dX8_read_101 : decode cX8_read 101 = .ok (.goto 4, 3) := by decide +kernel
theorem dX8_read_104 : decode cX8_read 104 = .ok (.iconst 0, 1) := by decide +kernel
theorem dX8_read_105 : decode cX8_read 105 = .ok (.iadd, 1) := by decide +kernel
theorem dX8_read_106 : decode cX8_read 106 = .ok (.istore_n 2, 1) := by decide +kernel
theorem dX8_read_107 : decode cX8_read 107 = .ok (.goto (-78), 3) := by decide +kernel
theorem dX8_read_110 : decode cX8_read 110 = .ok (.iload_n 2, 1) := by decide +kernel
theorem dX8_read_111 : decode cX8_read 111 = .ok (.ireturn, 1) := by decide +kernel
set_option maxRecDepth 20000 in
theorem m_X8_read {h : Hp} {a1 : Int32}  {u : (Hp × Int32)} (hu : f_X8_read h a1 = some u) : Ct yX8_read cX8_read 5 (some .int) 3 [.ref 68, .int a1] h (eI u) := by
  refine ct_of eI hu (by decide) (Nat.le_of_ble_eq_true rfl) (fun κ hn C E => ?_)
  have n2 : 2 < kn κ := by rw [hn]; decide
  have n3 : 3 < kn κ := by rw [hn]; decide
  have n4 : 4 < kn κ := by rw [hn]; decide
  unfold f_X8_read
  show Xz κ _ 0 [(0, .ref 68), (1, .int a1)] [] h
  refine x_iload_n 1 C dX8_read_0 1 rfl rfl rfl ?_
  refine x_csi 4 [.int a1] [] C 1 dX8_read_1 s_X8_95 (fun u hu => m_X8_isSheet hu) rfl rfl (Nat.le_of_ble_eq_true rfl) (Nat.le_of_ble_eq_true rfl) rfl (fun x1 => ?_)
  refine x_if_ne 7 10 C dX8_read_4 (by decide) rfl (fun _ => ?_) (fun _ => ?_)
  · refine x_aload_n 11 C dX8_read_10 0 rfl rfl rfl ?_
    refine x_getR (c := 69) 14 C dX8_read_11 fl_X8_7 sk_68 rfl sr_68_0 rfl ?_
    refine x_iload_n 15 C dX8_read_14 1 rfl rfl rfl ?_
    refine x_iald 16 C dX8_read_15 sk_69 sl_69 rfl ?_
    refine x_if_ge 19 25 C dX8_read_16 (by decide) rfl (fun _ => ?_) (fun _ => ?_)
    · refine x_iconst 26 C dX8_read_25 ci_0 rfl ?_
      refine x_istore_n 27 [(2, .int (0 : Int32)), (0, .ref 68), (1, .int a1)] C dX8_read_26 n2 rfl rfl rfl ?_
      refine x_iconst 28 C dX8_read_27 ci_1 rfl ?_
      refine x_istore_n 29 [(3, .int (1 : Int32)), (2, .int (0 : Int32)), (0, .ref 68), (1, .int a1)] C dX8_read_28 n3 rfl rfl rfl ?_
      refine x_ls [2, 3, 1, 0] rfl (x_fx3 (ls := fun h2 x3 x4 => [(0, .ref 68), (1, .int a1), (2, .int x3), (3, .int x4)]) (st := fun h2 x3 x4 => []) (hh := fun h2 x3 x4 => h2) (fun s1 J1 h2 x3 x4 => ?_))
      refine x_iload_n 30 C dX8_read_29 3 rfl rfl rfl ?_
      refine x_if_eq 33 110 C dX8_read_30 (by decide) rfl (fun _ => ?_) (fun _ => ?_)
      · refine x_iload_n 111 C dX8_read_110 2 rfl rfl rfl ?_
        exact x_iret C E dX8_read_111 rfl
      · refine x_iconst 34 C dX8_read_33 ci_3 rfl ?_
        refine x_iload_n 35 C dX8_read_34 2 rfl rfl rfl ?_
        refine x_imul 36 C dX8_read_35 rfl ?_
        refine x_iconst 37 C dX8_read_36 ci_3 rfl ?_
        refine x_iadd 38 C dX8_read_37 rfl ?_
        refine x_aload_n 39 C dX8_read_38 0 rfl rfl rfl ?_
        refine x_getR (c := 70) 42 C dX8_read_39 fl_X8_13 sk_68 rfl sr_68_1 rfl ?_
        refine x_iload_n 43 C dX8_read_42 1 rfl rfl rfl ?_
        refine x_iald 44 C dX8_read_43 sk_70 sl_70 rfl ?_
        refine x_icmp_gt 47 110 C dX8_read_44 (by decide) rfl (fun _ => ?_) (fun _ => ?_)
        · refine x_iload_n 111 C dX8_read_110 2 rfl rfl rfl ?_
          exact x_iret C E dX8_read_111 rfl
        · refine x_bipush 49 C dX8_read_47 cb_60 rfl ?_
          refine x_iload_n 50 C dX8_read_49 1 rfl rfl rfl ?_
          refine x_imul 51 C dX8_read_50 rfl ?_
          refine x_iconst 52 C dX8_read_51 ci_3 rfl ?_
          refine x_iload_n 53 C dX8_read_52 2 rfl rfl rfl ?_
          refine x_imul 54 C dX8_read_53 rfl ?_
          refine x_iadd 55 C dX8_read_54 rfl ?_
          refine x_ni (fun x5 => ?_)
          refine x_istore 57 [(4, .int x5), (0, .ref 68), (1, .int a1), (2, .int x3), (3, .int x4)] C dX8_read_55 n4 rfl rfl ?_
          refine x_aload_n 58 C dX8_read_57 1 rfl rfl rfl ?_
          refine x_aload_n 59 C dX8_read_58 1 rfl rfl rfl ?_
          refine x_getR (c := 71) 62 C dX8_read_59 fl_X8_16 sk_68 rfl sr_68_2 rfl ?_
          refine x_iload 64 C dX8_read_62 0 rfl rfl ?_
          refine x_iald 65 C dX8_read_64 sk_71 sl_71 rfl ?_
          refine x_aload_n 66 C dX8_read_65 1 rfl rfl rfl ?_
          refine x_getR (c := 71) 69 C dX8_read_66 fl_X8_16 sk_68 rfl sr_68_2 rfl ?_
          refine x_iload 71 C dX8_read_69 0 rfl rfl ?_
          refine x_iconst 72 C dX8_read_71 ci_1 rfl ?_
          refine x_iadd 73 C dX8_read_72 rfl ?_
          refine x_iald 74 C dX8_read_73 sk_71 sl_71 rfl ?_
          refine x_aload_n 75 C dX8_read_74 1 rfl rfl rfl ?_
          refine x_getR (c := 71) 78 C dX8_read_75 fl_X8_16 sk_68 rfl sr_68_2 rfl ?_
          refine x_iload 80 C dX8_read_78 0 rfl rfl ?_
          refine x_iconst 81 C dX8_read_80 ci_2 rfl ?_
          refine x_iadd 82 C dX8_read_81 rfl ?_
          refine x_iald 83 C dX8_read_82 sk_71 sl_71 rfl ?_
          refine x_cvI 86 [.int (ia h2 71 x5), .int (ia h2 71 (x5 + (1 : Int32))), .int (ia h2 71 (x5 + (2 : Int32)))] [] C 2 dX8_read_83 v_X8_172 (fun u hu => m_X8_event hu) rfl sk_68 rfl (Nat.le_of_ble_eq_true rfl) (Nat.le_of_ble_eq_true rfl) rfl (fun h6 x7 => ?_)
          refine x_lt1 (q := 94) (ls := fun x8 => [(0, .ref 68), (1, .int a1), (2, .int x3)]) (st := fun x8 => [.int x8]) (hh := fun x8 => h6) (fun x8 => ?_) (fun k2 J2 => ?_)
          · refine x_istore_n 95 [(3, .int x8), (0, .ref 68), (1, .int a1), (2, .int x3)] C dX8_read_94 n3 rfl rfl rfl ?_
            refine x_iload_n 96 C dX8_read_95 3 rfl rfl rfl ?_
            refine x_iload_n 97 C dX8_read_96 0 rfl rfl rfl ?_
            refine x_lt1 (q := 105) (ls := fun x9 => [(0, .ref 68), (1, .int a1), (3, .int x8)]) (st := fun x9 => [.int x9, .int x3]) (hh := fun x9 => h6) (fun x9 => ?_) (fun k3 J3 => ?_)
            · refine x_iadd 106 C dX8_read_105 rfl ?_
              refine x_ni (fun x10 => ?_)
              refine x_istore_n 107 [(2, .int x10), (0, .ref 68), (1, .int a1), (3, .int x8)] C dX8_read_106 n2 rfl rfl rfl ?_
              refine x_goto 29 C dX8_read_107 (by decide) ?_
              exact x_ls [1, 2, 0, 3] rfl (J1 h6 x10 x8)
            refine x_if_eq 100 104 C dX8_read_97 (by decide) rfl (fun _ => ?_) (fun _ => ?_)
            · refine x_iconst 105 C dX8_read_104 ci_0 rfl ?_
              exact x_ls [1, 2, 0] rfl (J3 (0 : Int32))
            · refine x_iconst 101 C dX8_read_100 ci_1 rfl ?_
              refine x_goto 105 C dX8_read_101 (by decide) ?_
              exact x_ls [1, 2, 0] rfl (J3 (1 : Int32))
          refine x_if_lt 89 93 C dX8_read_86 (by decide) rfl (fun _ => ?_) (fun _ => ?_)
          · refine x_iconst 94 C dX8_read_93 ci_0 rfl ?_
            exact x_ls [1, 2, 3] rfl (J2 (0 : Int32))
          · refine x_iconst 90 C dX8_read_89 ci_1 rfl ?_
            refine x_goto 94 C dX8_read_90 (by decide) ?_
            exact x_ls [1, 2, 3] rfl (J2 (1 : Int32))
    · refine x_aload_n 20 C dX8_read_19 0 rfl rfl rfl ?_
      refine x_iconst 21 C dX8_read_20 ci_1 rfl ?_
      refine x_cvI 24 [.int (1 : Int32)] [] C 0 dX8_read_21 v_X8_101 (fun u hu => m_X8_finds hu) rfl sk_68 rfl (Nat.le_of_ble_eq_true rfl) (Nat.le_of_ble_eq_true rfl) rfl (fun h11 x12 => ?_)
      exact x_iret C E dX8_read_24 rfl
  · refine x_bipush 9 C dX8_read_7 cb_m2 rfl ?_
    exact x_iret C E dX8_read_9 rfl

def f_X8_leans (h : Hp) (a1 : Int32) : Option Hp :=
  fx2 FU (fun s1 (h1 : Hp) (x2 : Int32) =>
    if (h1.1 68 7) ≤ x2 then (
      some h1)
    else (
      ck x2 6 (
        ck x2 6 (
          lt1 (fun (x3 : Int32) =>
            ck x2 6 (nm (ux h1 81 x2 ((ia h1 81 x2) + x3)) fun h4 =>
            nm (x2 + (1 : Int32)) fun x5 =>
            s1 h4 x5)) fun k2 =>
          if (ia h1 79 x2) = (1 : Int32) then (
            k2 a1)
          else (
            k2 (0 : Int32)))))) h (0 : Int32)
theorem dX8_leans_0 : decode cX8_leans 0 = .ok (.iconst 0, 1) := by decide +kernel
theorem dX8_leans_1 : decode cX8_leans 1 = .ok (.istore_n 2, 1) := by decide +kernel
theorem dX8_leans_2 : decode cX8_leans 2 = .ok (.iload_n 2, 1) := by decide +kernel
theorem dX8_leans_3 : decode cX8_leans 3 = .ok (.aload_n 0, 1) := by decide +kernel
theorem dX8_leans_4 : decode cX8_leans 4 = .ok (.getfield 127, 3) := by decide +kernel
theorem dX8_leans_7 : decode cX8_leans 7 = .ok (.if_icmp .ge 33, 3) := by decide +kernel
theorem dX8_leans_10 : decode cX8_leans 10 = .ok (.aload_n 0, 1) := by decide +kernel
theorem dX8_leans_11 : decode cX8_leans 11 = .ok (.getfield 46, 3) := by decide +kernel
theorem dX8_leans_14 : decode cX8_leans 14 = .ok (.iload_n 2, 1) := by decide +kernel
theorem dX8_leans_15 : decode cX8_leans 15 = .ok (.dup2, 1) := by decide +kernel
theorem dX8_leans_16 : decode cX8_leans 16 = .ok (.iaload, 1) := by decide +kernel
theorem dX8_leans_17 : decode cX8_leans 17 = .ok (.aload_n 0, 1) := by decide +kernel
theorem dX8_leans_18 : decode cX8_leans 18 = .ok (.getfield 40, 3) := by decide +kernel
theorem dX8_leans_21 : decode cX8_leans 21 = .ok (.iload_n 2, 1) := by decide +kernel
theorem dX8_leans_22 : decode cX8_leans 22 = .ok (.iaload, 1) := by decide +kernel
theorem dX8_leans_23 : decode cX8_leans 23 = .ok (.iconst 1, 1) := by decide +kernel
theorem dX8_leans_24 : decode cX8_leans 24 = .ok (.if_icmp .ne 7, 3) := by decide +kernel
theorem dX8_leans_27 : decode cX8_leans 27 = .ok (.iload_n 1, 1) := by decide +kernel
theorem dX8_leans_28 : decode cX8_leans 28 = .ok (.goto 4, 3) := by decide +kernel
theorem dX8_leans_31 : decode cX8_leans 31 = .ok (.iconst 0, 1) := by decide +kernel
theorem dX8_leans_32 : decode cX8_leans 32 = .ok (.iadd, 1) := by decide +kernel
theorem dX8_leans_33 : decode cX8_leans 33 = .ok (.iastore, 1) := by decide +kernel
theorem dX8_leans_34 : decode cX8_leans 34 = .ok (.iinc 2 1, 3) := by decide +kernel
theorem dX8_leans_37 : decode cX8_leans 37 = .ok (.goto (-35), 3) := by decide +kernel
theorem dX8_leans_40 : decode cX8_leans 40 = .ok (.return_, 1) := by decide +kernel
set_option maxRecDepth 20000 in
theorem m_X8_leans {h : Hp} {a1 : Int32}  {u : Hp} (hu : f_X8_leans h a1 = some u) : Ct yX8_leans cX8_leans 3 none 0 [.ref 68, .int a1] h (eV u) := by
  refine ct_of eV hu (by decide) (Nat.le_of_ble_eq_true rfl) (fun κ hn C E => ?_)
  have n2 : 2 < kn κ := by rw [hn]; decide
  unfold f_X8_leans
  show Xz κ _ 0 [(0, .ref 68), (1, .int a1)] [] h
  refine x_iconst 1 C dX8_leans_0 ci_0 rfl ?_
  refine x_istore_n 2 [(2, .int (0 : Int32)), (0, .ref 68), (1, .int a1)] C dX8_leans_1 n2 rfl rfl rfl ?_
  refine x_ls [1, 2, 0] rfl (x_fx2 (ls := fun h1 x2 => [(0, .ref 68), (1, .int a1), (2, .int x2)]) (st := fun h1 x2 => []) (hh := fun h1 x2 => h1) (fun s1 J1 h1 x2 => ?_))
  refine x_iload_n 3 C dX8_leans_2 2 rfl rfl rfl ?_
  refine x_aload_n 4 C dX8_leans_3 0 rfl rfl rfl ?_
  refine x_getI 7 C dX8_leans_4 fl_X8_127 sk_68 rfl rfl ?_
  refine x_icmp_ge 10 40 C dX8_leans_7 (by decide) rfl (fun _ => ?_) (fun _ => ?_)
  · exact x_vret C E dX8_leans_40 rfl
  · refine x_aload_n 11 C dX8_leans_10 0 rfl rfl rfl ?_
    refine x_getR (c := 81) 14 C dX8_leans_11 fl_X8_46 sk_68 rfl sr_68_17 rfl ?_
    refine x_iload_n 15 C dX8_leans_14 2 rfl rfl rfl ?_
    refine x_dup2 16 C dX8_leans_15 rfl rfl rfl ?_
    refine x_iald 17 C dX8_leans_16 sk_81 sl_81 rfl ?_
    refine x_aload_n 18 C dX8_leans_17 0 rfl rfl rfl ?_
    refine x_getR (c := 79) 21 C dX8_leans_18 fl_X8_40 sk_68 rfl sr_68_15 rfl ?_
    refine x_iload_n 22 C dX8_leans_21 2 rfl rfl rfl ?_
    refine x_iald 23 C dX8_leans_22 sk_79 sl_79 rfl ?_
    refine x_iconst 24 C dX8_leans_23 ci_1 rfl ?_
    refine x_lt1 (q := 32) (ls := fun x3 => [(0, .ref 68), (1, .int a1), (2, .int x2)]) (st := fun x3 => [.int x3, .int (ia h1 81 x2), .int x2, .ref 81]) (hh := fun x3 => h1) (fun x3 => ?_) (fun k2 J2 => ?_)
    · refine x_iadd 33 C dX8_leans_32 rfl ?_
      refine x_iast 34 C dX8_leans_33 sk_81 sl_81 rfl (fun h4 => ?_)
      refine x_iinc 37 (fun x5 => [(2, .int x5), (0, .ref 68), (1, .int a1)]) C dX8_leans_34 2 rfl ci_1 n2 (fun _ => rfl) rfl (fun x5 => ?_)
      refine x_goto 2 C dX8_leans_37 (by decide) ?_
      exact x_ls [1, 2, 0] rfl (J1 h4 x5)
    refine x_icmp_ne 27 31 C dX8_leans_24 (by decide) rfl (fun _ => ?_) (fun _ => ?_)
    · refine x_iconst 32 C dX8_leans_31 ci_0 rfl ?_
      exact x_ls [0, 1, 2] rfl (J2 (0 : Int32))
    · refine x_iload_n 28 C dX8_leans_27 1 rfl rfl rfl ?_
      refine x_goto 32 C dX8_leans_28 (by decide) ?_
      exact x_ls [0, 1, 2] rfl (J2 a1)

def f_X8_happens (h : Hp) (a1 : Int32) : Option Hp :=
  nm (uf h 68 28 (0 : Int32)) fun h1 =>
  fx2 FU (fun s1 (h2 : Hp) (x3 : Int32) =>
    if (h2.1 68 12) ≤ x3 then (
      some h2)
    else (
      ck (((3 : Int32) * x3) + (2 : Int32)) 24 (
        nm (ia h2 78 (((3 : Int32) * x3) + (2 : Int32))) fun x4 =>
        ck (((3 : Int32) * x3) + (1 : Int32)) 24 (
          lt1 (fun (h5 : Hp) =>
            nm (x3 + (1 : Int32)) fun x6 =>
            s1 h5 x6) fun k2 =>
          if (ia h2 78 (((3 : Int32) * x3) + (1 : Int32))) = a1 then (
            bdr (f_X8_isIn (h2.1 68 14) x3) fun x7 =>
            if x7 = 0 then (
              ck ((3 : Int32) * x3) 24 (
                if (ia h2 78 ((3 : Int32) * x3)) = (0 : Int32) then (
                  lt1 (fun (x8 : Int32) =>
                    bdv (f_X8_leans h2 x8) fun h9 =>
                    k2 h9) fun k3 =>
                  if (x4 - x4 / (2 : Int32) * (2 : Int32)) = (1 : Int32) then (
                    k3 (3 : Int32))
                  else (
                    k3 (-3 : Int32)))
                else (
                  if (ia h2 78 ((3 : Int32) * x3)) = (1 : Int32) then (
                    ck x4 6 (nm (ux h2 82 x4 (0 : Int32)) fun h10 =>
                    k2 h10))
                  else (
                    nm (uf h2 68 28 (1 : Int32)) fun h11 =>
                    k2 h11))))
            else (
              k2 h2))
          else (
            k2 h2))))) h1 (0 : Int32)
theorem dX8_happens_0 : decode cX8_happens 0 = .ok (.aload_n 0, 1) := by decide +kernel
theorem dX8_happens_1 : decode cX8_happens 1 = .ok (.iconst 0, 1) := by decide +kernel
theorem dX8_happens_2 : decode cX8_happens 2 = .ok (.putfield 174, 3) := by decide +kernel
theorem dX8_happens_5 : decode cX8_happens 5 = .ok (.iconst 0, 1) := by decide +kernel
theorem dX8_happens_6 : decode cX8_happens 6 = .ok (.istore_n 2, 1) := by decide +kernel
theorem dX8_happens_7 : decode cX8_happens 7 = .ok (.iload_n 2, 1) := by decide +kernel
theorem dX8_happens_8 : decode cX8_happens 8 = .ok (.aload_n 0, 1) := by decide +kernel
theorem dX8_happens_9 : decode cX8_happens 9 = .ok (.getfield 169, 3) := by decide +kernel
theorem dX8_happens_12 : decode cX8_happens 12 = .ok (.if_icmp .ge 113, 3) := by decide +kernel
theorem dX8_happens_15 : decode cX8_happens 15 = .ok (.aload_n 0, 1) := by decide +kernel
theorem dX8_happens_16 : decode cX8_happens 16 = .ok (.getfield 37, 3) := by decide +kernel
theorem dX8_happens_19 : decode cX8_happens 19 = .ok (.iconst 3, 1) := by decide +kernel
theorem dX8_happens_20 : decode cX8_happens 20 = .ok (.iload_n 2, 1) := by decide +kernel
theorem dX8_happens_21 : decode cX8_happens 21 = .ok (.imul, 1) := by decide +kernel
theorem dX8_happens_22 : decode cX8_happens 22 = .ok (.iconst 2, 1) := by decide +kernel
theorem dX8_happens_23 : decode cX8_happens 23 = .ok (.iadd, 1) := by decide +kernel
theorem dX8_happens_24 : decode cX8_happens 24 = .ok (.iaload, 1) := by decide +kernel
theorem dX8_happens_25 : decode cX8_happens 25 = .ok (.istore_n 3, 1) := by decide +kernel
theorem dX8_happens_26 : decode cX8_happens 26 = .ok (.aload_n 0, 1) := by decide +kernel
theorem dX8_happens_27 : decode cX8_happens 27 = .ok (.getfield 37, 3) := by decide +kernel
theorem dX8_happens_30 : decode cX8_happens 30 = .ok (.iconst 3, 1) := by decide +kernel
theorem dX8_happens_31 : decode cX8_happens 31 = .ok (.iload_n 2, 1) := by decide +kernel
theorem dX8_happens_32 : decode cX8_happens 32 = .ok (.imul, 1) := by decide +kernel
theorem dX8_happens_33 : decode cX8_happens 33 = .ok (.iconst 1, 1) := by decide +kernel
theorem dX8_happens_34 : decode cX8_happens 34 = .ok (.iadd, 1) := by decide +kernel
theorem dX8_happens_35 : decode cX8_happens 35 = .ok (.iaload, 1) := by decide +kernel
theorem dX8_happens_36 : decode cX8_happens 36 = .ok (.iload_n 1, 1) := by decide +kernel
theorem dX8_happens_37 : decode cX8_happens 37 = .ok (.if_icmp .ne 82, 3) := by decide +kernel
theorem dX8_happens_40 : decode cX8_happens 40 = .ok (.aload_n 0, 1) := by decide +kernel
theorem dX8_happens_41 : decode cX8_happens 41 = .ok (.getfield 178, 3) := by decide +kernel
theorem dX8_happens_44 : decode cX8_happens 44 = .ok (.iload_n 2, 1) := by decide +kernel
theorem dX8_happens_45 : decode cX8_happens 45 = .ok (.invokestatic 181, 3) := by decide +kernel
theorem dX8_happens_48 : decode cX8_happens 48 = .ok (.ifCond .ne 71, 3) := by decide +kernel
theorem dX8_happens_51 : decode cX8_happens 51 = .ok (.aload_n 0, 1) := by decide +kernel
theorem dX8_happens_52 : decode cX8_happens 52 = .ok (.getfield 37, 3) := by decide +kernel
theorem dX8_happens_55 : decode cX8_happens 55 = .ok (.iconst 3, 1) := by decide +kernel
theorem dX8_happens_56 : decode cX8_happens 56 = .ok (.iload_n 2, 1) := by decide +kernel
theorem dX8_happens_57 : decode cX8_happens 57 = .ok (.imul, 1) := by decide +kernel
theorem dX8_happens_58 : decode cX8_happens 58 = .ok (.iaload, 1) := by decide +kernel
theorem dX8_happens_59 : decode cX8_happens 59 = .ok (.lookupswitch 55 #[(0, 25), (1, 45)], 25) := by decide +kernel
theorem dX8_happens_84 : decode cX8_happens 84 = .ok (.aload_n 0, 1) := by decide +kernel
theorem dX8_happens_85 : decode cX8_happens 85 = .ok (.iload_n 3, 1) := by decide +kernel
theorem dX8_happens_86 : decode cX8_happens 86 = .ok (.iconst 2, 1) := by decide +kernel
theorem dX8_happens_87 : decode cX8_happens 87 = .ok (.irem, 1) := by decide +kernel
theorem dX8_happens_88 : decode cX8_happens 88 = .ok (.iconst 1, 1) := by decide +kernel
theorem dX8_happens_89 : decode cX8_happens 89 = .ok (.if_icmp .ne 7, 3) := by decide +kernel
theorem dX8_happens_92 : decode cX8_happens 92 = .ok (.iconst 3, 1) := by decide +kernel
theorem dX8_happens_93 : decode cX8_happens 93 = .ok (.goto 5, 3) := by decide +kernel
theorem dX8_happens_96 : decode cX8_happens 96 = .ok (.bipush (-3), 2) := by decide +kernel
theorem dX8_happens_98 : decode cX8_happens 98 = .ok (.invokevirtual 184, 3) := by decide +kernel
theorem dX8_happens_101 : decode cX8_happens 101 = .ok (.goto 18, 3) := by decide +kernel
theorem dX8_happens_104 : decode cX8_happens 104 = .ok (.aload_n 0, 1) := by decide +kernel
theorem dX8_happens_105 : decode cX8_happens 105 = .ok (.getfield 49, 3) := by decide +kernel
theorem dX8_happens_108 : decode cX8_happens 108 = .ok (.iload_n 3, 1) := by decide +kernel
theorem dX8_happens_109 : decode cX8_happens 109 = .ok (.iconst 0, 1) := by decide +kernel
theorem dX8_happens_110 : decode cX8_happens 110 = .ok (.iastore, 1) := by decide +kernel
theorem dX8_happens_111 : decode cX8_happens 111 = .ok (.goto 8, 3) := by decide +kernel
theorem dX8_happens_114 : decode cX8_happens 114 = .ok (.aload_n 0, 1) := by decide +kernel
theorem dX8_happens_115 : decode cX8_happens 115 = .ok (.iconst 1, 1) := by decide +kernel
theorem dX8_happens_116 : decode cX8_happens 116 = .ok (.putfield 174, 3) := by decide +kernel
theorem dX8_happens_119 : decode cX8_happens 119 = .ok (.iinc 2 1, 3) := by decide +kernel
theorem dX8_happens_122 : decode cX8_happens 122 = .ok (.goto (-115), 3) := by decide +kernel
theorem dX8_happens_125 : decode cX8_happens 125 = .ok (.return_, 1) := by decide +kernel
set_option maxRecDepth 20000 in
theorem m_X8_happens {h : Hp} {a1 : Int32}  {u : Hp} (hu : f_X8_happens h a1 = some u) : Ct yX8_happens cX8_happens 4 none 1 [.ref 68, .int a1] h (eV u) := by
  refine ct_of eV hu (by decide) (Nat.le_of_ble_eq_true rfl) (fun κ hn C E => ?_)
  have n2 : 2 < kn κ := by rw [hn]; decide
  have n3 : 3 < kn κ := by rw [hn]; decide
  unfold f_X8_happens
  show Xz κ _ 0 [(0, .ref 68), (1, .int a1)] [] h
  refine x_aload_n 1 C dX8_happens_0 0 rfl rfl rfl ?_
  refine x_iconst 2 C dX8_happens_1 ci_0 rfl ?_
  refine x_put 5 C dX8_happens_2 fp_X8_174 sk_68 rfl rfl rfl rfl (fun h1 => ?_)
  refine x_iconst 6 C dX8_happens_5 ci_0 rfl ?_
  refine x_istore_n 7 [(2, .int (0 : Int32)), (0, .ref 68), (1, .int a1)] C dX8_happens_6 n2 rfl rfl rfl ?_
  refine x_ls [1, 2, 0] rfl (x_fx2 (ls := fun h2 x3 => [(0, .ref 68), (1, .int a1), (2, .int x3)]) (st := fun h2 x3 => []) (hh := fun h2 x3 => h2) (fun s1 J1 h2 x3 => ?_))
  refine x_iload_n 8 C dX8_happens_7 2 rfl rfl rfl ?_
  refine x_aload_n 9 C dX8_happens_8 0 rfl rfl rfl ?_
  refine x_getI 12 C dX8_happens_9 fl_X8_169 sk_68 rfl rfl ?_
  refine x_icmp_ge 15 125 C dX8_happens_12 (by decide) rfl (fun _ => ?_) (fun _ => ?_)
  · exact x_vret C E dX8_happens_125 rfl
  · refine x_aload_n 16 C dX8_happens_15 0 rfl rfl rfl ?_
    refine x_getR (c := 78) 19 C dX8_happens_16 fl_X8_37 sk_68 rfl sr_68_13 rfl ?_
    refine x_iconst 20 C dX8_happens_19 ci_3 rfl ?_
    refine x_iload_n 21 C dX8_happens_20 2 rfl rfl rfl ?_
    refine x_imul 22 C dX8_happens_21 rfl ?_
    refine x_iconst 23 C dX8_happens_22 ci_2 rfl ?_
    refine x_iadd 24 C dX8_happens_23 rfl ?_
    refine x_iald 25 C dX8_happens_24 sk_78 sl_78 rfl ?_
    refine x_ni (fun x4 => ?_)
    refine x_istore_n 26 [(3, .int x4), (0, .ref 68), (1, .int a1), (2, .int x3)] C dX8_happens_25 n3 rfl rfl rfl ?_
    refine x_aload_n 27 C dX8_happens_26 1 rfl rfl rfl ?_
    refine x_getR (c := 78) 30 C dX8_happens_27 fl_X8_37 sk_68 rfl sr_68_13 rfl ?_
    refine x_iconst 31 C dX8_happens_30 ci_3 rfl ?_
    refine x_iload_n 32 C dX8_happens_31 3 rfl rfl rfl ?_
    refine x_imul 33 C dX8_happens_32 rfl ?_
    refine x_iconst 34 C dX8_happens_33 ci_1 rfl ?_
    refine x_iadd 35 C dX8_happens_34 rfl ?_
    refine x_iald 36 C dX8_happens_35 sk_78 sl_78 rfl ?_
    refine x_iload_n 37 C dX8_happens_36 2 rfl rfl rfl ?_
    refine x_lt1 (q := 119) (ls := fun h5 => [(0, .ref 68), (1, .int a1), (2, .int x3)]) (st := fun h5 => []) (hh := fun h5 => h5) (fun h5 => ?_) (fun k2 J2 => ?_)
    · refine x_iinc 122 (fun x6 => [(2, .int x6), (0, .ref 68), (1, .int a1)]) C dX8_happens_119 2 rfl ci_1 n2 (fun _ => rfl) rfl (fun x6 => ?_)
      refine x_goto 7 C dX8_happens_122 (by decide) ?_
      exact x_ls [1, 2, 0] rfl (J1 h5 x6)
    refine x_icmp_ne 40 119 C dX8_happens_37 (by decide) rfl (fun _ => ?_) (fun _ => ?_)
    · exact x_ls [1, 2, 3] rfl (J2 h2)
    · refine x_aload_n 41 C dX8_happens_40 1 rfl rfl rfl ?_
      refine x_getI 44 C dX8_happens_41 fl_X8_178 sk_68 rfl rfl ?_
      refine x_iload_n 45 C dX8_happens_44 3 rfl rfl rfl ?_
      refine x_csi 48 [.int (h2.1 68 14), .int x3] [] C 0 dX8_happens_45 s_X8_181 (fun u hu => m_X8_isIn hu) rfl rfl (Nat.le_of_ble_eq_true rfl) (Nat.le_of_ble_eq_true rfl) rfl (fun x7 => ?_)
      refine x_if_ne 51 119 C dX8_happens_48 (by decide) rfl (fun _ => ?_) (fun _ => ?_)
      · exact x_ls [1, 2, 3] rfl (J2 h2)
      · refine x_aload_n 52 C dX8_happens_51 1 rfl rfl rfl ?_
        refine x_getR (c := 78) 55 C dX8_happens_52 fl_X8_37 sk_68 rfl sr_68_13 rfl ?_
        refine x_iconst 56 C dX8_happens_55 ci_3 rfl ?_
        refine x_iload_n 57 C dX8_happens_56 3 rfl rfl rfl ?_
        refine x_imul 58 C dX8_happens_57 rfl ?_
        refine x_iald 59 C dX8_happens_58 sk_78 sl_78 rfl ?_
        refine x_ite (fun e0 => ?_) (fun e0 => ?_)
        · refine x_lkp (off := 25) 84 C dX8_happens_59 (by decide) (by rw [e0]; first | done | decide) (by decide) ?_
          refine x_aload_n 85 C dX8_happens_84 1 rfl rfl rfl ?_
          refine x_iload_n 86 C dX8_happens_85 0 rfl rfl rfl ?_
          refine x_iconst 87 C dX8_happens_86 ci_2 rfl ?_
          refine x_irem 88 C dX8_happens_87 nz_2 rfl ?_
          refine x_iconst 89 C dX8_happens_88 ci_1 rfl ?_
          refine x_lt1 (q := 98) (ls := fun x8 => [(0, .ref 68), (1, .int a1), (2, .int x3)]) (st := fun x8 => [.int x8, .ref 68]) (hh := fun x8 => h2) (fun x8 => ?_) (fun k3 J3 => ?_)
          · refine x_cvV 101 [.int x8] [] C 0 dX8_happens_98 v_X8_184 (fun u hu => m_X8_leans hu) rfl sk_68 rfl (Nat.le_of_ble_eq_true rfl) (Nat.le_of_ble_eq_true rfl) rfl (fun h9 => ?_)
            refine x_goto 119 C dX8_happens_101 (by decide) ?_
            exact x_ls [0, 1, 2] rfl (J2 h9)
          refine x_icmp_ne 92 96 C dX8_happens_89 (by decide) rfl (fun _ => ?_) (fun _ => ?_)
          · refine x_bipush 98 C dX8_happens_96 cb_m3 rfl ?_
            exact x_ls [1, 2, 3] rfl (J3 (-3 : Int32))
          · refine x_iconst 93 C dX8_happens_92 ci_3 rfl ?_
            refine x_goto 98 C dX8_happens_93 (by decide) ?_
            exact x_ls [1, 2, 3] rfl (J3 (3 : Int32))
        refine x_ite (fun e1 => ?_) (fun e1 => ?_)
        · refine x_lkp (off := 45) 104 C dX8_happens_59 (by decide) (by rw [e1]; first | done | decide) (by decide) ?_
          refine x_aload_n 105 C dX8_happens_104 1 rfl rfl rfl ?_
          refine x_getR (c := 82) 108 C dX8_happens_105 fl_X8_49 sk_68 rfl sr_68_18 rfl ?_
          refine x_iload_n 109 C dX8_happens_108 0 rfl rfl rfl ?_
          refine x_iconst 110 C dX8_happens_109 ci_0 rfl ?_
          refine x_iast 111 C dX8_happens_110 sk_82 sl_82 rfl (fun h10 => ?_)
          refine x_goto 119 C dX8_happens_111 (by decide) ?_
          exact x_ls [1, 2, 3] rfl (J2 h10)
        refine x_lkp (off := 55) 114 C dX8_happens_59 (by decide) (by show Op.lookupswitch.offset [(0, 25), (1, 45)] _ _ = _; rw [lv_osw e0 (show (0 : Int32).toInt = 0 by decide), lv_osw e1 (show (1 : Int32).toInt = 1 by decide)]; first | done | rfl) (by decide) ?_
        refine x_aload_n 115 C dX8_happens_114 1 rfl rfl rfl ?_
        refine x_iconst 116 C dX8_happens_115 ci_1 rfl ?_
        refine x_put 119 C dX8_happens_116 fp_X8_174 sk_68 rfl rfl rfl rfl (fun h11 => ?_)
        exact x_ls [1, 2, 3] rfl (J2 h11)

def f_X8_whoAt (h : Hp) (a1 : Int32) : Option Int32 :=
  fx2 FU (fun s1 (x1 : Int32) (x2 : Int32) =>
    if (h.1 68 7) ≤ x2 then (
      some x1)
    else (
      ck x2 6 (
        lt1 (fun (x3 : Int32) =>
          nm (x2 + (1 : Int32)) fun x4 =>
          s1 x3 x4) fun k2 =>
        lt1 (fun (u5 : Int32) =>
          k2 x1) fun k3 =>
        if (ia h 79 x2) = (1 : Int32) then (
          ck x2 6 (
            if (ia h 80 x2) = a1 then (
              k2 x2)
            else (
              k3 (0 : Int32))))
        else (
          k3 (0 : Int32))))) (-1 : Int32) (0 : Int32)
theorem dX8_whoAt_0 : decode cX8_whoAt 0 = .ok (.iconst (-1), 1) := by decide +kernel
theorem dX8_whoAt_1 : decode cX8_whoAt 1 = .ok (.istore_n 2, 1) := by decide +kernel
theorem dX8_whoAt_2 : decode cX8_whoAt 2 = .ok (.iconst 0, 1) := by decide +kernel
theorem dX8_whoAt_3 : decode cX8_whoAt 3 = .ok (.istore_n 3, 1) := by decide +kernel
theorem dX8_whoAt_4 : decode cX8_whoAt 4 = .ok (.iload_n 3, 1) := by decide +kernel
theorem dX8_whoAt_5 : decode cX8_whoAt 5 = .ok (.aload_n 0, 1) := by decide +kernel
theorem dX8_whoAt_6 : decode cX8_whoAt 6 = .ok (.getfield 127, 3) := by decide +kernel
theorem dX8_whoAt_9 : decode cX8_whoAt 9 = .ok (.if_icmp .ge 35, 3) := by decide +kernel
theorem dX8_whoAt_12 : decode cX8_whoAt 12 = .ok (.aload_n 0, 1) := by decide +kernel
theorem dX8_whoAt_13 : decode cX8_whoAt 13 = .ok (.getfield 40, 3) := by decide +kernel
theorem dX8_whoAt_16 : decode cX8_whoAt 16 = .ok (.iload_n 3, 1) := by decide +kernel
theorem dX8_whoAt_17 : decode cX8_whoAt 17 = .ok (.iaload, 1) := by decide +kernel
theorem dX8_whoAt_18 : decode cX8_whoAt 18 = .ok (.iconst 1, 1) := by decide +kernel
theorem dX8_whoAt_19 : decode cX8_whoAt 19 = .ok (.if_icmp .ne 17, 3) := by decide +kernel
theorem dX8_whoAt_22 : decode cX8_whoAt 22 = .ok (.aload_n 0, 1) := by decide +kernel
theorem dX8_whoAt_23 : decode cX8_whoAt 23 = .ok (.getfield 43, 3) := by decide +kernel
theorem dX8_whoAt_26 : decode cX8_whoAt 26 = .ok (.iload_n 3, 1) := by decide +kernel
theorem dX8_whoAt_27 : decode cX8_whoAt 27 = .ok (.iaload, 1) := by decide +kernel
theorem dX8_whoAt_28 : decode cX8_whoAt 28 = .ok (.iload_n 1, 1) := by decide +kernel
theorem dX8_whoAt_29 : decode cX8_whoAt 29 = .ok (.if_icmp .ne 7, 3) := by decide +kernel
theorem dX8_whoAt_32 : decode cX8_whoAt 32 = .ok (.iload_n 3, 1) := by decide +kernel
theorem dX8_whoAt_33 : decode cX8_whoAt 33 = .ok (.goto 4, 3) := by decide +kernel
theorem dX8_whoAt_36 : decode cX8_whoAt 36 = .ok (.iload_n 2, 1) := by decide +kernel
theorem dX8_whoAt_37 : decode cX8_whoAt 37 = .ok (.istore_n 2, 1) := by decide +kernel
theorem dX8_whoAt_38 : decode cX8_whoAt 38 = .ok (.iinc 3 1, 3) := by decide +kernel
theorem dX8_whoAt_41 : decode cX8_whoAt 41 = .ok (.goto (-37), 3) := by decide +kernel
theorem dX8_whoAt_44 : decode cX8_whoAt 44 = .ok (.iload_n 2, 1) := by decide +kernel
theorem dX8_whoAt_45 : decode cX8_whoAt 45 = .ok (.ireturn, 1) := by decide +kernel
set_option maxRecDepth 20000 in
theorem m_X8_whoAt {h : Hp} {a1 : Int32}  {u : Int32} (hu : f_X8_whoAt h a1 = some u) : Ct yX8_whoAt cX8_whoAt 4 (some .int) 0 [.ref 68, .int a1] h ((rI h) u) := by
  refine ct_of (rI h) hu (by decide) (Nat.le_of_ble_eq_true rfl) (fun κ hn C E => ?_)
  have n2 : 2 < kn κ := by rw [hn]; decide
  have n3 : 3 < kn κ := by rw [hn]; decide
  unfold f_X8_whoAt
  show Xz κ _ 0 [(0, .ref 68), (1, .int a1)] [] h
  refine x_iconst 1 C dX8_whoAt_0 ci_m1 rfl ?_
  refine x_istore_n 2 [(2, .int (-1 : Int32)), (0, .ref 68), (1, .int a1)] C dX8_whoAt_1 n2 rfl rfl rfl ?_
  refine x_iconst 3 C dX8_whoAt_2 ci_0 rfl ?_
  refine x_istore_n 4 [(3, .int (0 : Int32)), (2, .int (-1 : Int32)), (0, .ref 68), (1, .int a1)] C dX8_whoAt_3 n3 rfl rfl rfl ?_
  refine x_ls [2, 3, 1, 0] rfl (x_fx2 (ls := fun x1 x2 => [(0, .ref 68), (1, .int a1), (2, .int x1), (3, .int x2)]) (st := fun x1 x2 => []) (hh := fun x1 x2 => h) (fun s1 J1 x1 x2 => ?_))
  refine x_iload_n 5 C dX8_whoAt_4 3 rfl rfl rfl ?_
  refine x_aload_n 6 C dX8_whoAt_5 0 rfl rfl rfl ?_
  refine x_getI 9 C dX8_whoAt_6 fl_X8_127 sk_68 rfl rfl ?_
  refine x_icmp_ge 12 44 C dX8_whoAt_9 (by decide) rfl (fun _ => ?_) (fun _ => ?_)
  · refine x_iload_n 45 C dX8_whoAt_44 2 rfl rfl rfl ?_
    exact x_iret C E dX8_whoAt_45 rfl
  · refine x_aload_n 13 C dX8_whoAt_12 0 rfl rfl rfl ?_
    refine x_getR (c := 79) 16 C dX8_whoAt_13 fl_X8_40 sk_68 rfl sr_68_15 rfl ?_
    refine x_iload_n 17 C dX8_whoAt_16 3 rfl rfl rfl ?_
    refine x_iald 18 C dX8_whoAt_17 sk_79 sl_79 rfl ?_
    refine x_iconst 19 C dX8_whoAt_18 ci_1 rfl ?_
    refine x_lt1 (q := 37) (ls := fun x3 => [(0, .ref 68), (1, .int a1), (3, .int x2)]) (st := fun x3 => [.int x3]) (hh := fun x3 => h) (fun x3 => ?_) (fun k2 J2 => ?_)
    · refine x_istore_n 38 [(2, .int x3), (0, .ref 68), (1, .int a1), (3, .int x2)] C dX8_whoAt_37 n2 rfl rfl rfl ?_
      refine x_iinc 41 (fun x4 => [(3, .int x4), (2, .int x3), (0, .ref 68), (1, .int a1)]) C dX8_whoAt_38 3 rfl ci_1 n3 (fun _ => rfl) rfl (fun x4 => ?_)
      refine x_goto 4 C dX8_whoAt_41 (by decide) ?_
      exact x_ls [2, 3, 1, 0] rfl (J1 x3 x4)
    refine x_lt1 (q := 36) (ls := fun u5 => [(0, .ref 68), (1, .int a1), (2, .int x1), (3, .int x2)]) (st := fun u5 => []) (hh := fun u5 => h) (fun u5 => ?_) (fun k3 J3 => ?_)
    · refine x_iload_n 37 C dX8_whoAt_36 2 rfl rfl rfl ?_
      exact x_ls [0, 1, 3] rfl (J2 x1)
    refine x_icmp_ne 22 36 C dX8_whoAt_19 (by decide) rfl (fun _ => ?_) (fun _ => ?_)
    · exact x_ls [0, 1, 2, 3] rfl (J3 (0 : Int32))
    · refine x_aload_n 23 C dX8_whoAt_22 0 rfl rfl rfl ?_
      refine x_getR (c := 80) 26 C dX8_whoAt_23 fl_X8_43 sk_68 rfl sr_68_16 rfl ?_
      refine x_iload_n 27 C dX8_whoAt_26 3 rfl rfl rfl ?_
      refine x_iald 28 C dX8_whoAt_27 sk_80 sl_80 rfl ?_
      refine x_iload_n 29 C dX8_whoAt_28 1 rfl rfl rfl ?_
      refine x_icmp_ne 32 36 C dX8_whoAt_29 (by decide) rfl (fun _ => ?_) (fun _ => ?_)
      · exact x_ls [0, 1, 2, 3] rfl (J3 (0 : Int32))
      · refine x_iload_n 33 C dX8_whoAt_32 3 rfl rfl rfl ?_
        refine x_goto 37 C dX8_whoAt_33 (by decide) ?_
        exact x_ls [0, 1, 3] rfl (J2 x2)
