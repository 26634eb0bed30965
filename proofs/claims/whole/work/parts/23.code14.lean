def f_X8_walkerOf (a1 : Int32) (a2 : Int32) : Option Int32 :=
  if a1 = (0 : Int32) then (
    bdr (f_X8_in (a2.toInt64) (97 : Int64) (120 : Int64)) fun x1 =>
    if x1 = 0 then (
      some (-9 : Int32))
    else (
      some (a2 - (97 : Int32))))
  else (
    if a1 = (1 : Int32) then (
      if a2 = (115 : Int32) then (
        some (0 : Int32))
      else (
        if a2 = (98 : Int32) then (
          some (1 : Int32))
        else (
          if a2 = (111 : Int32) then (
            some (2 : Int32))
          else (
            some (-9 : Int32)))))
    else (
      if a1 = (2 : Int32) then (
        bdr (f_X8_in (a2.toInt64) (48 : Int64) (57 : Int64)) fun x2 =>
        if x2 = 0 then (
          some (-9 : Int32))
        else (
          some (a2 - (48 : Int32))))
      else (
        if a2 = (59 : Int32) then (
          some (0 : Int32))
        else (
          some (-9 : Int32)))))
theorem dX8_walkerOf_0 : decode cX8_walkerOf 0 = .ok (.iload_n 0, 1) := by decide +kernel
theorem dX8_walkerOf_1 : decode cX8_walkerOf 1 = .ok (.tableswitch 108 0 2 #[27, 51, 84], 27) := by decide +kernel
theorem dX8_walkerOf_28 : decode cX8_walkerOf 28 = .ok (.iload_n 1, 1) := by decide +kernel
theorem dX8_walkerOf_29 : decode cX8_walkerOf 29 = .ok (.i2l, 1) := by decide +kernel
theorem dX8_walkerOf_30 : decode cX8_walkerOf 30 = .ok (.ldc2_w 119, 3) := by decide +kernel
theorem dX8_walkerOf_33 : decode cX8_walkerOf 33 = .ok (.ldc2_w 121, 3) := by decide +kernel
theorem dX8_walkerOf_36 : decode cX8_walkerOf 36 = .ok (.invokestatic 85, 3) := by decide +kernel
theorem dX8_walkerOf_39 : decode cX8_walkerOf 39 = .ok (.ifCond .eq 10, 3) := by decide +kernel
theorem dX8_walkerOf_42 : decode cX8_walkerOf 42 = .ok (.iload_n 1, 1) := by decide +kernel
theorem dX8_walkerOf_43 : decode cX8_walkerOf 43 = .ok (.bipush 97, 2) := by decide +kernel
theorem dX8_walkerOf_45 : decode cX8_walkerOf 45 = .ok (.isub, 1) := by decide +kernel
theorem dX8_walkerOf_46 : decode cX8_walkerOf 46 = .ok (.goto 5, 3) := by decide +kernel
theorem dX8_walkerOf_49 : decode cX8_walkerOf 49 = .ok (.bipush (-9), 2) := by decide +kernel
theorem dX8_walkerOf_51 : decode cX8_walkerOf 51 = .ok (.ireturn, 1) := by decide +kernel
theorem dX8_walkerOf_52 : decode cX8_walkerOf 52 = .ok (.iload_n 1, 1) := by decide +kernel
theorem dX8_walkerOf_53 : decode cX8_walkerOf 53 = .ok (.bipush 115, 2) := by decide +kernel
theorem dX8_walkerOf_55 : decode cX8_walkerOf 55 = .ok (.if_icmp .ne 7, 3) := by decide +kernel
theorem dX8_walkerOf_58 : decode cX8_walkerOf 58 = .ok (.iconst 0, 1) := by decide +kernel
theorem dX8_walkerOf_59 : decode cX8_walkerOf 59 = .ok (.goto 25, 3) := by decide +kernel
theorem dX8_walkerOf_62 : decode cX8_walkerOf 62 = .ok (.iload_n 1, 1) := by decide +kernel
theorem dX8_walkerOf_63 : decode cX8_walkerOf 63 = .ok (.bipush 98, 2) := by decide +kernel
theorem dX8_walkerOf_65 : decode cX8_walkerOf 65 = .ok (.if_icmp .ne 7, 3) := by decide +kernel
theorem dX8_walkerOf_68 : decode cX8_walkerOf 68 = .ok (.iconst 1, 1) := by decide +kernel
theorem dX8_walkerOf_69 : decode cX8_walkerOf 69 = .ok (.goto 15, 3) := by decide +kernel
theorem dX8_walkerOf_72 : decode cX8_walkerOf 72 = .ok (.iload_n 1, 1) := by decide +kernel
theorem dX8_walkerOf_73 : decode cX8_walkerOf 73 = .ok (.bipush 111, 2) := by decide +kernel
theorem dX8_walkerOf_75 : decode cX8_walkerOf 75 = .ok (.if_icmp .ne 7, 3) := by decide +kernel
theorem dX8_walkerOf_78 : decode cX8_walkerOf 78 = .ok (.iconst 2, 1) := by decide +kernel
theorem dX8_walkerOf_79 : decode cX8_walkerOf 79 = .ok (.goto 5, 3) := by decide +kernel
theorem dX8_walkerOf_82 : decode cX8_walkerOf 82 = .ok (.bipush (-9), 2) := by decide +kernel
theorem dX8_walkerOf_84 : decode cX8_walkerOf 84 = .ok (.ireturn, 1) := by decide +kernel
theorem dX8_walkerOf_85 : decode cX8_walkerOf 85 = .ok (.iload_n 1, 1) := by decide +kernel
theorem dX8_walkerOf_86 : decode cX8_walkerOf 86 = .ok (.i2l, 1) := by decide +kernel
theorem dX8_walkerOf_87 : decode cX8_walkerOf 87 = .ok (.ldc2_w 123, 3) := by decide +kernel
theorem dX8_walkerOf_90 : decode cX8_walkerOf 90 = .ok (.ldc2_w 125, 3) := by decide +kernel
theorem dX8_walkerOf_93 : decode cX8_walkerOf 93 = .ok (.invokestatic 85, 3) := by decide +kernel
theorem dX8_walkerOf_96 : decode cX8_walkerOf 96 = .ok (.ifCond .eq 10, 3) := by decide +kernel
theorem dX8_walkerOf_99 : decode cX8_walkerOf 99 = .ok (.iload_n 1, 1) := by decide +kernel
theorem dX8_walkerOf_100 : decode cX8_walkerOf 100 = .ok (.bipush 48, 2) := by decide +kernel
theorem dX8_walkerOf_102 : decode cX8_walkerOf 102 = .ok (.isub, 1) := by decide +kernel
theorem dX8_walkerOf_103 : decode cX8_walkerOf 103 = .ok (.goto 5, 3) := by decide +kernel
theorem dX8_walkerOf_106 : decode cX8_walkerOf 106 = .ok (.bipush (-9), 2) := by decide +kernel
theorem dX8_walkerOf_108 : decode cX8_walkerOf 108 = .ok (.ireturn, 1) := by decide +kernel
theorem dX8_walkerOf_109 : decode cX8_walkerOf 109 = .ok (.iload_n 1, 1) := by decide +kernel
theorem dX8_walkerOf_110 : decode cX8_walkerOf 110 = .ok (.bipush 59, 2) := by decide +kernel
theorem dX8_walkerOf_112 : decode cX8_walkerOf 112 = .ok (.if_icmp .ne 7, 3) := by decide +kernel
theorem dX8_walkerOf_115 : decode cX8_walkerOf 115 = .ok (.iconst 0, 1) := by decide +kernel
theorem dX8_walkerOf_116 : decode cX8_walkerOf 116 = .ok (.goto 5, 3) := by decide +kernel
theorem dX8_walkerOf_119 : decode cX8_walkerOf 119 = .ok (.bipush (-9), 2) := by decide +kernel
theorem dX8_walkerOf_121 : decode cX8_walkerOf 121 = .ok (.ireturn, 1) := by decide +kernel
set_option maxRecDepth 20000 in
theorem m_X8_walkerOf {h : Hp} {a1 : Int32} {a2 : Int32}  {u : Int32} (hu : f_X8_walkerOf a1 a2 = some u) : Ct yX8_walkerOf cX8_walkerOf 2 (some .int) 1 [.int a1, .int a2] h ((rI h) u) := by
  refine ct_of (rI h) hu (by decide) (Nat.le_of_ble_eq_true rfl) (fun κ hn C E => ?_)
  unfold f_X8_walkerOf
  show Xz κ _ 0 [(0, .int a1), (1, .int a2)] [] h
  refine x_iload_n 1 C dX8_walkerOf_0 0 rfl rfl rfl ?_
  refine x_ite (fun e0 => ?_) (fun e0 => ?_)
  · refine x_tabI (off := 27) 28 C dX8_walkerOf_1 e0 (by decide) (by decide) (by decide) (by decide) ?_
    refine x_iload_n 29 C dX8_walkerOf_28 1 rfl rfl rfl ?_
    refine x_i2l 30 C dX8_walkerOf_29 rfl ?_
    refine x_ldc2 33 C dX8_walkerOf_30 kw_X8_119 rfl ?_
    refine x_ldc2 36 C dX8_walkerOf_33 kw_X8_121 rfl ?_
    refine x_csi 39 [.long (a2.toInt64), .long (97 : Int64), .long (120 : Int64)] [] C 0 dX8_walkerOf_36 s_X8_85 (fun u hu => m_X8_in hu) rfl rfl (Nat.le_of_ble_eq_true rfl) (Nat.le_of_ble_eq_true rfl) rfl (fun x1 => ?_)
    refine x_if_eq 42 49 C dX8_walkerOf_39 (by decide) rfl (fun _ => ?_) (fun _ => ?_)
    · refine x_bipush 51 C dX8_walkerOf_49 cb_m9 rfl ?_
      exact x_iret C E dX8_walkerOf_51 rfl
    · refine x_iload_n 43 C dX8_walkerOf_42 1 rfl rfl rfl ?_
      refine x_bipush 45 C dX8_walkerOf_43 cb_97 rfl ?_
      refine x_isub 46 C dX8_walkerOf_45 rfl ?_
      refine x_goto 51 C dX8_walkerOf_46 (by decide) ?_
      exact x_iret C E dX8_walkerOf_51 rfl
  refine x_ite (fun e1 => ?_) (fun e1 => ?_)
  · refine x_tabI (off := 51) 52 C dX8_walkerOf_1 e1 (by decide) (by decide) (by decide) (by decide) ?_
    refine x_iload_n 53 C dX8_walkerOf_52 1 rfl rfl rfl ?_
    refine x_bipush 55 C dX8_walkerOf_53 cb_115 rfl ?_
    refine x_icmp_ne 58 62 C dX8_walkerOf_55 (by decide) rfl (fun _ => ?_) (fun _ => ?_)
    · refine x_iload_n 63 C dX8_walkerOf_62 1 rfl rfl rfl ?_
      refine x_bipush 65 C dX8_walkerOf_63 cb_98 rfl ?_
      refine x_icmp_ne 68 72 C dX8_walkerOf_65 (by decide) rfl (fun _ => ?_) (fun _ => ?_)
      · refine x_iload_n 73 C dX8_walkerOf_72 1 rfl rfl rfl ?_
        refine x_bipush 75 C dX8_walkerOf_73 cb_111 rfl ?_
        refine x_icmp_ne 78 82 C dX8_walkerOf_75 (by decide) rfl (fun _ => ?_) (fun _ => ?_)
        · refine x_bipush 84 C dX8_walkerOf_82 cb_m9 rfl ?_
          exact x_iret C E dX8_walkerOf_84 rfl
        · refine x_iconst 79 C dX8_walkerOf_78 ci_2 rfl ?_
          refine x_goto 84 C dX8_walkerOf_79 (by decide) ?_
          exact x_iret C E dX8_walkerOf_84 rfl
      · refine x_iconst 69 C dX8_walkerOf_68 ci_1 rfl ?_
        refine x_goto 84 C dX8_walkerOf_69 (by decide) ?_
        exact x_iret C E dX8_walkerOf_84 rfl
    · refine x_iconst 59 C dX8_walkerOf_58 ci_0 rfl ?_
      refine x_goto 84 C dX8_walkerOf_59 (by decide) ?_
      exact x_iret C E dX8_walkerOf_84 rfl
  refine x_ite (fun e2 => ?_) (fun e2 => ?_)
  · refine x_tabI (off := 84) 85 C dX8_walkerOf_1 e2 (by decide) (by decide) (by decide) (by decide) ?_
    refine x_iload_n 86 C dX8_walkerOf_85 1 rfl rfl rfl ?_
    refine x_i2l 87 C dX8_walkerOf_86 rfl ?_
    refine x_ldc2 90 C dX8_walkerOf_87 kw_X8_123 rfl ?_
    refine x_ldc2 93 C dX8_walkerOf_90 kw_X8_125 rfl ?_
    refine x_csi 96 [.long (a2.toInt64), .long (48 : Int64), .long (57 : Int64)] [] C 0 dX8_walkerOf_93 s_X8_85 (fun u hu => m_X8_in hu) rfl rfl (Nat.le_of_ble_eq_true rfl) (Nat.le_of_ble_eq_true rfl) rfl (fun x2 => ?_)
    refine x_if_eq 99 106 C dX8_walkerOf_96 (by decide) rfl (fun _ => ?_) (fun _ => ?_)
    · refine x_bipush 108 C dX8_walkerOf_106 cb_m9 rfl ?_
      exact x_iret C E dX8_walkerOf_108 rfl
    · refine x_iload_n 100 C dX8_walkerOf_99 1 rfl rfl rfl ?_
      refine x_bipush 102 C dX8_walkerOf_100 cb_48 rfl ?_
      refine x_isub 103 C dX8_walkerOf_102 rfl ?_
      refine x_goto 108 C dX8_walkerOf_103 (by decide) ?_
      exact x_iret C E dX8_walkerOf_108 rfl
  refine x_tabO 109 C dX8_walkerOf_1 (by have := lv_neT e0 (show (0 : Int32).toInt = 0 by decide); have := lv_neT e1 (show (1 : Int32).toInt = 1 by decide); have := lv_neT e2 (show (2 : Int32).toInt = 2 by decide); omega) (by decide) ?_
  refine x_iload_n 110 C dX8_walkerOf_109 1 rfl rfl rfl ?_
  refine x_bipush 112 C dX8_walkerOf_110 cb_59 rfl ?_
  refine x_icmp_ne 115 119 C dX8_walkerOf_112 (by decide) rfl (fun _ => ?_) (fun _ => ?_)
  · refine x_bipush 121 C dX8_walkerOf_119 cb_m9 rfl ?_
    exact x_iret C E dX8_walkerOf_121 rfl
  · refine x_iconst 116 C dX8_walkerOf_115 ci_0 rfl ?_
    refine x_goto 121 C dX8_walkerOf_116 (by decide) ?_
    exact x_iret C E dX8_walkerOf_121 rfl

def f_X8_readsWalkers (h : Hp) : Option (Hp × Int32) :=
  nm (uf h 68 7 (0 : Int32)) fun h1 =>
  nm (h1.1 74 0) fun x2 =>
  lt1 (fun (h3 : Hp) =>
    if x2 ≤ 0 then (
      some (h3, (-1 : Int32)))
    else (
      if (x2 - x2 / (4 : Int32) * (4 : Int32)) = (3 : Int32) then (
        some (h3, (-1 : Int32)))
      else (
        nm (uf h3 68 7 (0 : Int32)) fun h4 =>
        some (h4, x2)))) fun k1 =>
  fx2 FU (fun s2 (h5 : Hp) (x6 : Int32) =>
    if x2 ≤ x6 then (
      k1 h5)
    else (
      nm (x6 - x6 / (4 : Int32) * (4 : Int32)) fun x7 =>
      ck x6 48 (
        bdr (f_X8_walkerOf x7 (ia h5 73 x6)) fun x8 =>
        if x8 = (-9 : Int32) then (
          nm (uf h5 68 7 (0 : Int32)) fun h14 =>
          some (h14, x6))
        else (
          lt1 (fun (h9 : Hp) =>
            lt1 (fun (x10 : Int32) =>
              nm (uf h9 68 7 ((h9.1 68 7) + x10)) fun h11 =>
              nm (x6 + (1 : Int32)) fun x12 =>
              s2 h11 x12) fun k4 =>
            if x7 = (2 : Int32) then (
              k4 (1 : Int32))
            else (
              k4 (0 : Int32))) fun k3 =>
          if (3 : Int32) ≤ x7 then (
            k3 h5)
          else (
            ck (((3 : Int32) * (x6 / (4 : Int32))) + x7) 18 (nm (ux h5 75 (((3 : Int32) * (x6 / (4 : Int32))) + x7) x8) fun h13 =>
            k3 h13)))))) h1 (0 : Int32)
theorem dX8_readsWalkers_0 : decode cX8_readsWalkers 0 = .ok (.aload_n 0, 1) := by decide +kernel
theorem dX8_readsWalkers_1 : decode cX8_readsWalkers 1 = .ok (.iconst 0, 1) := by decide +kernel
theorem dX8_readsWalkers_2 : decode cX8_readsWalkers 2 = .ok (.putfield 127, 3) := by decide +kernel
theorem dX8_readsWalkers_5 : decode cX8_readsWalkers 5 = .ok (.aload_n 0, 1) := by decide +kernel
theorem dX8_readsWalkers_6 : decode cX8_readsWalkers 6 = .ok (.getfield 25, 3) := by decide +kernel
theorem dX8_readsWalkers_9 : decode cX8_readsWalkers 9 = .ok (.iconst 0, 1) := by decide +kernel
theorem dX8_readsWalkers_10 : decode cX8_readsWalkers 10 = .ok (.iaload, 1) := by decide +kernel
theorem dX8_readsWalkers_11 : decode cX8_readsWalkers 11 = .ok (.istore_n 1, 1) := by decide +kernel
theorem dX8_readsWalkers_12 : decode cX8_readsWalkers 12 = .ok (.iconst 0, 1) := by decide +kernel
theorem dX8_readsWalkers_13 : decode cX8_readsWalkers 13 = .ok (.istore_n 2, 1) := by decide +kernel
theorem dX8_readsWalkers_14 : decode cX8_readsWalkers 14 = .ok (.iload_n 2, 1) := by decide +kernel
theorem dX8_readsWalkers_15 : decode cX8_readsWalkers 15 = .ok (.iload_n 1, 1) := by decide +kernel
theorem dX8_readsWalkers_16 : decode cX8_readsWalkers 16 = .ok (.if_icmp .ge 77, 3) := by decide +kernel
theorem dX8_readsWalkers_19 : decode cX8_readsWalkers 19 = .ok (.iload_n 2, 1) := by decide +kernel
theorem dX8_readsWalkers_20 : decode cX8_readsWalkers 20 = .ok (.iconst 4, 1) := by decide +kernel
theorem dX8_readsWalkers_21 : decode cX8_readsWalkers 21 = .ok (.irem, 1) := by decide +kernel
theorem dX8_readsWalkers_22 : decode cX8_readsWalkers 22 = .ok (.istore_n 3, 1) := by decide +kernel
theorem dX8_readsWalkers_23 : decode cX8_readsWalkers 23 = .ok (.iload_n 3, 1) := by decide +kernel
theorem dX8_readsWalkers_24 : decode cX8_readsWalkers 24 = .ok (.aload_n 0, 1) := by decide +kernel
theorem dX8_readsWalkers_25 : decode cX8_readsWalkers 25 = .ok (.getfield 22, 3) := by decide +kernel
theorem dX8_readsWalkers_28 : decode cX8_readsWalkers 28 = .ok (.iload_n 2, 1) := by decide +kernel
theorem dX8_readsWalkers_29 : decode cX8_readsWalkers 29 = .ok (.iaload, 1) := by decide +kernel
theorem dX8_readsWalkers_30 : decode cX8_readsWalkers 30 = .ok (.invokestatic 130, 3) := by decide +kernel
theorem dX8_readsWalkers_33 : decode cX8_readsWalkers 33 = .ok (.istore 4, 2) := by decide +kernel
theorem dX8_readsWalkers_35 : decode cX8_readsWalkers 35 = .ok (.iload 4, 2) := by decide +kernel
theorem dX8_readsWalkers_37 : decode cX8_readsWalkers 37 = .ok (.bipush (-9), 2) := by decide +kernel
theorem dX8_readsWalkers_39 : decode cX8_readsWalkers 39 = .ok (.if_icmp .ne 10, 3) := by decide +kernel
theorem dX8_readsWalkers_42 : decode cX8_readsWalkers 42 = .ok (.aload_n 0, 1) := by decide +kernel
theorem dX8_readsWalkers_43 : decode cX8_readsWalkers 43 = .ok (.iconst 0, 1) := by decide +kernel
theorem dX8_readsWalkers_44 : decode cX8_readsWalkers 44 = .ok (.putfield 127, 3) := by decide +kernel
theorem dX8_readsWalkers_47 : decode cX8_readsWalkers 47 = .ok (.iload_n 2, 1) := by decide +kernel
theorem dX8_readsWalkers_48 : decode cX8_readsWalkers 48 = .ok (.ireturn, 1) := by decide +kernel
theorem dX8_readsWalkers_49 : decode cX8_readsWalkers 49 = .ok (.iload_n 3, 1) := by decide +kernel
theorem dX8_readsWalkers_50 : decode cX8_readsWalkers 50 = .ok (.iconst 3, 1) := by decide +kernel
theorem dX8_readsWalkers_51 : decode cX8_readsWalkers 51 = .ok (.if_icmp .ge 17, 3) := by decide +kernel
theorem dX8_readsWalkers_54 : decode cX8_readsWalkers 54 = .ok (.aload_n 0, 1) := by decide +kernel
theorem dX8_readsWalkers_55 : decode cX8_readsWalkers 55 = .ok (.getfield 28, 3) := by decide +kernel
theorem dX8_readsWalkers_58 : decode cX8_readsWalkers 58 = .ok (.iconst 3, 1) := by decide +kernel
theorem dX8_readsWalkers_59 : decode cX8_readsWalkers 59 = .ok (.iload_n 2, 1) := by decide +kernel
theorem dX8_readsWalkers_60 : decode cX8_readsWalkers 60 = .ok (.iconst 4, 1) := by decide +kernel
theorem dX8_readsWalkers_61 : decode cX8_readsWalkers 61 = .ok (.idiv, 1) := by decide +kernel
theorem dX8_readsWalkers_62 : decode cX8_readsWalkers 62 = .ok (.imul, 1) := by decide +kernel
theorem dX8_readsWalkers_63 : decode cX8_readsWalkers 63 = .ok (.iload_n 3, 1) := by decide +kernel
theorem dX8_readsWalkers_64 : decode cX8_readsWalkers 64 = .ok (.iadd, 1) := by decide +kernel
theorem dX8_readsWalkers_65 : decode cX8_readsWalkers 65 = .ok (.iload 4, 2) := by decide +kernel
theorem dX8_readsWalkers_67 : decode cX8_readsWalkers 67 = .ok (.iastore, 1) := by decide +kernel
theorem dX8_readsWalkers_68 : decode cX8_readsWalkers 68 = .ok (.aload_n 0, 1) := by decide +kernel
theorem dX8_readsWalkers_69 : decode cX8_readsWalkers 69 = .ok (.dup, 1) := by decide +kernel
theorem dX8_readsWalkers_70 : decode cX8_readsWalkers 70 = .ok (.getfield 127, 3) := by decide +kernel
theorem dX8_readsWalkers_73 : decode cX8_readsWalkers 73 = .ok (.iload_n 3, 1) := by decide +kernel
theorem dX8_readsWalkers_74 : decode cX8_readsWalkers 74 = .ok (.iconst 2, 1) := by decide +kernel
theorem dX8_readsWalkers_75 : decode cX8_readsWalkers 75 = .ok (.if_icmp .ne 7, 3) := by decide +kernel
theorem dX8_readsWalkers_78 : decode cX8_readsWalkers 78 = .ok (.iconst 1, 1) := by decide +kernel
theorem dX8_readsWalkers_79 : decode cX8_readsWalkers 79 = .ok (.goto 4, 3) := by decide +kernel
theorem dX8_readsWalkers_82 : decode cX8_readsWalkers 82 = .ok (.iconst 0, 1) := by decide +kernel
theorem dX8_readsWalkers_83 : decode cX8_readsWalkers 83 = .ok (.iadd, 1) := by decide +kernel
theorem dX8_readsWalkers_84 : decode cX8_readsWalkers 84 = .ok (.putfield 127, 3) := by decide +kernel
theorem dX8_readsWalkers_87 : decode cX8_readsWalkers 87 = .ok (.iinc 2 1, 3) := by decide +kernel
theorem dX8_readsWalkers_90 : decode cX8_readsWalkers 90 = .ok (.goto (-76), 3) := by decide +kernel
theorem dX8_readsWalkers_93 : decode cX8_readsWalkers 93 = .ok (.iload_n 1, 1) := by decide +kernel
theorem dX8_readsWalkers_94 : decode cX8_readsWalkers 94 = .ok (.ifCond .le 17, 3) := by decide +kernel
theorem dX8_readsWalkers_97 : decode cX8_readsWalkers 97 = .ok (.iload_n 1, 1) := by decide +kernel
theorem dX8_readsWalkers_98 : decode cX8_readsWalkers 98 = .ok (.iconst 4, 1) := by decide +kernel
theorem dX8_readsWalkers_99 : decode cX8_readsWalkers 99 = .ok (.irem, 1) := by decide +kernel
theorem dX8_readsWalkers_100 : decode cX8_readsWalkers 100 = .ok (.iconst 3, 1) := by decide +kernel
theorem dX8_readsWalkers_101 : decode cX8_readsWalkers 101 = .ok (.if_icmp .eq 10, 3) := by decide +kernel
theorem dX8_readsWalkers_104 : decode cX8_readsWalkers 104 = .ok (.aload_n 0, 1) := by decide +kernel
theorem dX8_readsWalkers_105 : decode cX8_readsWalkers 105 = .ok (.iconst 0, 1) := by decide +kernel
theorem dX8_readsWalkers_106 : decode cX8_readsWalkers 106 = .ok (.putfield 127, 3) := by decide +kernel
theorem dX8_readsWalkers_109 : decode cX8_readsWalkers 109 = .ok (.iload_n 1, 1) := by decide +kernel
theorem dX8_readsWalkers_110 : decode cX8_readsWalkers 110 = .ok (.ireturn, 1) := by decide +kernel
theorem dX8_readsWalkers_111 : decode cX8_readsWalkers 111 = .ok (.iconst (-1), 1) := by decide +kernel
theorem dX8_readsWalkers_112 : decode cX8_readsWalkers 112 = .ok (.ireturn, 1) := by decide +kernel
set_option maxRecDepth 20000 in
theorem m_X8_readsWalkers {h : Hp}  {u : (Hp × Int32)} (hu : f_X8_readsWalkers h = some u) : Ct yX8_readsWalkers cX8_readsWalkers 5 (some .int) 2 [.ref 68] h (eI u) := by
  refine ct_of eI hu (by decide) (Nat.le_of_ble_eq_true rfl) (fun κ hn C E => ?_)
  have n1 : 1 < kn κ := by rw [hn]; decide
  have n2 : 2 < kn κ := by rw [hn]; decide
  have n3 : 3 < kn κ := by rw [hn]; decide
  have n4 : 4 < kn κ := by rw [hn]; decide
  unfold f_X8_readsWalkers
  show Xz κ _ 0 [(0, .ref 68)] [] h
  refine x_aload_n 1 C dX8_readsWalkers_0 0 rfl rfl rfl ?_
  refine x_iconst 2 C dX8_readsWalkers_1 ci_0 rfl ?_
  refine x_put 5 C dX8_readsWalkers_2 fp_X8_127 sk_68 rfl rfl rfl rfl (fun h1 => ?_)
  refine x_aload_n 6 C dX8_readsWalkers_5 0 rfl rfl rfl ?_
  refine x_getR (c := 74) 9 C dX8_readsWalkers_6 fl_X8_25 sk_68 rfl sr_68_6 rfl ?_
  refine x_iconst 10 C dX8_readsWalkers_9 ci_0 rfl ?_
  refine x_ialc 11 C dX8_readsWalkers_10 sk_74 sl_74 vi_0_2 vj_0 rfl ?_
  refine x_ni (fun x2 => ?_)
  refine x_istore_n 12 [(1, .int x2), (0, .ref 68)] C dX8_readsWalkers_11 n1 rfl rfl rfl ?_
  refine x_iconst 13 C dX8_readsWalkers_12 ci_0 rfl ?_
  refine x_istore_n 14 [(2, .int (0 : Int32)), (1, .int x2), (0, .ref 68)] C dX8_readsWalkers_13 n2 rfl rfl rfl ?_
  refine x_lt1 (q := 93) (ls := fun h3 => [(0, .ref 68), (1, .int x2)]) (st := fun h3 => []) (hh := fun h3 => h3) (fun h3 => ?_) (fun k1 J1 => ?_)
  · refine x_iload_n 94 C dX8_readsWalkers_93 1 rfl rfl rfl ?_
    refine x_if_le 97 111 C dX8_readsWalkers_94 (by decide) rfl (fun _ => ?_) (fun _ => ?_)
    · refine x_iconst 112 C dX8_readsWalkers_111 ci_m1 rfl ?_
      exact x_iret C E dX8_readsWalkers_112 rfl
    · refine x_iload_n 98 C dX8_readsWalkers_97 1 rfl rfl rfl ?_
      refine x_iconst 99 C dX8_readsWalkers_98 ci_4 rfl ?_
      refine x_irem 100 C dX8_readsWalkers_99 nz_4 rfl ?_
      refine x_iconst 101 C dX8_readsWalkers_100 ci_3 rfl ?_
      refine x_icmp_eq 104 111 C dX8_readsWalkers_101 (by decide) rfl (fun _ => ?_) (fun _ => ?_)
      · refine x_iconst 112 C dX8_readsWalkers_111 ci_m1 rfl ?_
        exact x_iret C E dX8_readsWalkers_112 rfl
      · refine x_aload_n 105 C dX8_readsWalkers_104 0 rfl rfl rfl ?_
        refine x_iconst 106 C dX8_readsWalkers_105 ci_0 rfl ?_
        refine x_put 109 C dX8_readsWalkers_106 fp_X8_127 sk_68 rfl rfl rfl rfl (fun h4 => ?_)
        refine x_iload_n 110 C dX8_readsWalkers_109 1 rfl rfl rfl ?_
        exact x_iret C E dX8_readsWalkers_110 rfl
  refine x_ls [2, 1, 0] rfl (x_fx2 (ls := fun h5 x6 => [(0, .ref 68), (1, .int x2), (2, .int x6)]) (st := fun h5 x6 => []) (hh := fun h5 x6 => h5) (fun s2 J2 h5 x6 => ?_))
  refine x_iload_n 15 C dX8_readsWalkers_14 2 rfl rfl rfl ?_
  refine x_iload_n 16 C dX8_readsWalkers_15 1 rfl rfl rfl ?_
  refine x_icmp_ge 19 93 C dX8_readsWalkers_16 (by decide) rfl (fun _ => ?_) (fun _ => ?_)
  · exact x_ls [0, 1] rfl (J1 h5)
  · refine x_iload_n 20 C dX8_readsWalkers_19 2 rfl rfl rfl ?_
    refine x_iconst 21 C dX8_readsWalkers_20 ci_4 rfl ?_
    refine x_irem 22 C dX8_readsWalkers_21 nz_4 rfl ?_
    refine x_ni (fun x7 => ?_)
    refine x_istore_n 23 [(3, .int x7), (0, .ref 68), (1, .int x2), (2, .int x6)] C dX8_readsWalkers_22 n3 rfl rfl rfl ?_
    refine x_iload_n 24 C dX8_readsWalkers_23 0 rfl rfl rfl ?_
    refine x_aload_n 25 C dX8_readsWalkers_24 1 rfl rfl rfl ?_
    refine x_getR (c := 73) 28 C dX8_readsWalkers_25 fl_X8_22 sk_68 rfl sr_68_5 rfl ?_
    refine x_iload_n 29 C dX8_readsWalkers_28 3 rfl rfl rfl ?_
    refine x_iald 30 C dX8_readsWalkers_29 sk_73 sl_73 rfl ?_
    refine x_csi 33 [.int x7, .int (ia h5 73 x6)] [] C 1 dX8_readsWalkers_30 s_X8_130 (fun u hu => m_X8_walkerOf hu) rfl rfl (Nat.le_of_ble_eq_true rfl) (Nat.le_of_ble_eq_true rfl) rfl (fun x8 => ?_)
    refine x_istore 35 [(4, .int x8), (3, .int x7), (0, .ref 68), (1, .int x2), (2, .int x6)] C dX8_readsWalkers_33 n4 rfl rfl ?_
    refine x_iload 37 C dX8_readsWalkers_35 0 rfl rfl ?_
    refine x_bipush 39 C dX8_readsWalkers_37 cb_m9 rfl ?_
    refine x_icmp_ne 42 49 C dX8_readsWalkers_39 (by decide) rfl (fun _ => ?_) (fun _ => ?_)
    · refine x_iload_n 50 C dX8_readsWalkers_49 1 rfl rfl rfl ?_
      refine x_iconst 51 C dX8_readsWalkers_50 ci_3 rfl ?_
      refine x_lt1 (q := 68) (ls := fun h9 => [(0, .ref 68), (1, .int x2), (2, .int x6), (3, .int x7)]) (st := fun h9 => []) (hh := fun h9 => h9) (fun h9 => ?_) (fun k3 J3 => ?_)
      · refine x_aload_n 69 C dX8_readsWalkers_68 0 rfl rfl rfl ?_
        refine x_dup 70 C dX8_readsWalkers_69 rfl rfl ?_
        refine x_getI 73 C dX8_readsWalkers_70 fl_X8_127 sk_68 rfl rfl ?_
        refine x_iload_n 74 C dX8_readsWalkers_73 3 rfl rfl rfl ?_
        refine x_iconst 75 C dX8_readsWalkers_74 ci_2 rfl ?_
        refine x_lt1 (q := 83) (ls := fun x10 => [(0, .ref 68), (1, .int x2), (2, .int x6)]) (st := fun x10 => [.int x10, .int (h9.1 68 7), .ref 68]) (hh := fun x10 => h9) (fun x10 => ?_) (fun k4 J4 => ?_)
        · refine x_iadd 84 C dX8_readsWalkers_83 rfl ?_
          refine x_put 87 C dX8_readsWalkers_84 fp_X8_127 sk_68 rfl rfl rfl rfl (fun h11 => ?_)
          refine x_iinc 90 (fun x12 => [(2, .int x12), (0, .ref 68), (1, .int x2)]) C dX8_readsWalkers_87 2 rfl ci_1 n2 (fun _ => rfl) rfl (fun x12 => ?_)
          refine x_goto 14 C dX8_readsWalkers_90 (by decide) ?_
          exact x_ls [1, 2, 0] rfl (J2 h11 x12)
        refine x_icmp_ne 78 82 C dX8_readsWalkers_75 (by decide) rfl (fun _ => ?_) (fun _ => ?_)
        · refine x_iconst 83 C dX8_readsWalkers_82 ci_0 rfl ?_
          exact x_ls [0, 1, 2] rfl (J4 (0 : Int32))
        · refine x_iconst 79 C dX8_readsWalkers_78 ci_1 rfl ?_
          refine x_goto 83 C dX8_readsWalkers_79 (by decide) ?_
          exact x_ls [0, 1, 2] rfl (J4 (1 : Int32))
      refine x_icmp_ge 54 68 C dX8_readsWalkers_51 (by decide) rfl (fun _ => ?_) (fun _ => ?_)
      · exact x_ls [2, 3, 4, 1] rfl (J3 h5)
      · refine x_aload_n 55 C dX8_readsWalkers_54 2 rfl rfl rfl ?_
        refine x_getR (c := 75) 58 C dX8_readsWalkers_55 fl_X8_28 sk_68 rfl sr_68_8 rfl ?_
        refine x_iconst 59 C dX8_readsWalkers_58 ci_3 rfl ?_
        refine x_iload_n 60 C dX8_readsWalkers_59 4 rfl rfl rfl ?_
        refine x_iconst 61 C dX8_readsWalkers_60 ci_4 rfl ?_
        refine x_idiv 62 C dX8_readsWalkers_61 nz_4 rfl ?_
        refine x_imul 63 C dX8_readsWalkers_62 rfl ?_
        refine x_iload_n 64 C dX8_readsWalkers_63 1 rfl rfl rfl ?_
        refine x_iadd 65 C dX8_readsWalkers_64 rfl ?_
        refine x_iload 67 C dX8_readsWalkers_65 0 rfl rfl ?_
        refine x_iast 68 C dX8_readsWalkers_67 sk_75 sl_75 rfl (fun h13 => ?_)
        exact x_ls [2, 3, 4, 1] rfl (J3 h13)
    · refine x_aload_n 43 C dX8_readsWalkers_42 2 rfl rfl rfl ?_
      refine x_iconst 44 C dX8_readsWalkers_43 ci_0 rfl ?_
      refine x_put 47 C dX8_readsWalkers_44 fp_X8_127 sk_68 rfl rfl rfl rfl (fun h14 => ?_)
      refine x_iload_n 48 C dX8_readsWalkers_47 4 rfl rfl rfl ?_
      exact x_iret C E dX8_readsWalkers_48 rfl

def f_X8_plain (h : Hp) : Option Hp :=
  nm (uf h 68 9 (0 : Int32)) fun h1 =>
  fx2 FU (fun s1 (h2 : Hp) (x3 : Int32) =>
    if (24 : Int32) ≤ x3 then (
      some h2)
    else (
      ck x3 24 (nm (ux h2 76 x3 (0 : Int32)) fun h4 =>
      nm (x3 + (1 : Int32)) fun x5 =>
      s1 h4 x5))) h1 (0 : Int32)
theorem dX8_plain_0 : decode cX8_plain 0 = .ok (.aload_n 0, 1) := by decide +kernel
theorem dX8_plain_1 : decode cX8_plain 1 = .ok (.iconst 0, 1) := by decide +kernel
theorem dX8_plain_2 : decode cX8_plain 2 = .ok (.putfield 133, 3) := by decide +kernel
theorem dX8_plain_5 : decode cX8_plain 5 = .ok (.iconst 0, 1) := by decide +kernel
theorem dX8_plain_6 : decode cX8_plain 6 = .ok (.istore_n 1, 1) := by decide +kernel
theorem dX8_plain_7 : decode cX8_plain 7 = .ok (.iload_n 1, 1) := by decide +kernel
theorem dX8_plain_8 : decode cX8_plain 8 = .ok (.bipush 24, 2) := by decide +kernel
theorem dX8_plain_10 : decode cX8_plain 10 = .ok (.if_icmp .ge 16, 3) := by decide +kernel
theorem dX8_plain_13 : decode cX8_plain 13 = .ok (.aload_n 0, 1) := by decide +kernel
theorem dX8_plain_14 : decode cX8_plain 14 = .ok (.getfield 31, 3) := by decide +kernel
theorem dX8_plain_17 : decode cX8_plain 17 = .ok (.iload_n 1, 1) := by decide +kernel
theorem dX8_plain_18 : decode cX8_plain 18 = .ok (.iconst 0, 1) := by decide +kernel
theorem dX8_plain_19 : decode cX8_plain 19 = .ok (.iastore, 1) := by decide +kernel
theorem dX8_plain_20 : decode cX8_plain 20 = .ok (.iinc 1 1, 3) := by decide +kernel
theorem dX8_plain_23 : decode cX8_plain 23 = .ok (.goto (-16), 3) := by decide +kernel
theorem dX8_plain_26 : decode cX8_plain 26 = .ok (.return_, 1) := by decide +kernel
set_option maxRecDepth 20000 in
theorem m_X8_plain {h : Hp}  {u : Hp} (hu : f_X8_plain h = some u) : Ct yX8_plain cX8_plain 2 none 0 [.ref 68] h (eV u) := by
  refine ct_of eV hu (by decide) (Nat.le_of_ble_eq_true rfl) (fun κ hn C E => ?_)
  have n1 : 1 < kn κ := by rw [hn]; decide
  unfold f_X8_plain
  show Xz κ _ 0 [(0, .ref 68)] [] h
  refine x_aload_n 1 C dX8_plain_0 0 rfl rfl rfl ?_
  refine x_iconst 2 C dX8_plain_1 ci_0 rfl ?_
  refine x_put 5 C dX8_plain_2 fp_X8_133 sk_68 rfl rfl rfl rfl (fun h1 => ?_)
  refine x_iconst 6 C dX8_plain_5 ci_0 rfl ?_
  refine x_istore_n 7 [(1, .int (0 : Int32)), (0, .ref 68)] C dX8_plain_6 n1 rfl rfl rfl ?_
  refine x_ls [1, 0] rfl (x_fx2 (ls := fun h2 x3 => [(0, .ref 68), (1, .int x3)]) (st := fun h2 x3 => []) (hh := fun h2 x3 => h2) (fun s1 J1 h2 x3 => ?_))
  refine x_iload_n 8 C dX8_plain_7 1 rfl rfl rfl ?_
  refine x_bipush 10 C dX8_plain_8 cb_24 rfl ?_
  refine x_icmp_ge 13 26 C dX8_plain_10 (by decide) rfl (fun _ => ?_) (fun _ => ?_)
  · exact x_vret C E dX8_plain_26 rfl
  · refine x_aload_n 14 C dX8_plain_13 0 rfl rfl rfl ?_
    refine x_getR (c := 76) 17 C dX8_plain_14 fl_X8_31 sk_68 rfl sr_68_10 rfl ?_
    refine x_iload_n 18 C dX8_plain_17 1 rfl rfl rfl ?_
    refine x_iconst 19 C dX8_plain_18 ci_0 rfl ?_
    refine x_iast 20 C dX8_plain_19 sk_76 sl_76 rfl (fun h4 => ?_)
    refine x_iinc 23 (fun x5 => [(1, .int x5), (0, .ref 68)]) C dX8_plain_20 1 rfl ci_1 n1 (fun _ => rfl) rfl (fun x5 => ?_)
    refine x_goto 7 C dX8_plain_23 (by decide) ?_
    exact x_ls [1, 0] rfl (J1 h4 x5)

def f_X8_readsRoutine (h : Hp) : Option (Hp × Int32) :=
  bdv (f_X8_plain h) fun h1 =>
  lt1 (fun (h2 : Hp) =>
    nm (uf h2 68 9 (h2.1 74 1)) fun h3 =>
    some (h3, (-1 : Int32))) fun k1 =>
  fx2 FU (fun s2 (h4 : Hp) (x5 : Int32) =>
    if (h4.1 74 1) ≤ x5 then (
      k1 h4)
    else (
      ck ((24 : Int32) + x5) 48 (
        nm (ia h4 73 ((24 : Int32) + x5)) fun x6 =>
        lt1 (fun (x7 : Int32) =>
          if x7 = (-9 : Int32) then (
            bdv (f_X8_plain h4) fun h10 =>
            some (h10, x5))
          else (
            ck x5 24 (nm (ux h4 76 x5 x7) fun h8 =>
            nm (x5 + (1 : Int32)) fun x9 =>
            s2 h8 x9))) fun k3 =>
        if x6 = (102 : Int32) then (
          k3 (0 : Int32))
        else (
          if x6 = (119 : Int32) then (
            k3 (1 : Int32))
          else (
            if x6 = (108 : Int32) then (
              k3 (2 : Int32))
            else (
              if x6 = (114 : Int32) then (
                k3 (3 : Int32))
              else (
                k3 (-9 : Int32)))))))) h1 (0 : Int32)
theorem dX8_readsRoutine_0 : decode cX8_readsRoutine 0 = .ok (.aload_n 0, 1) := by decide +kernel
theorem dX8_readsRoutine_1 : decode cX8_readsRoutine 1 = .ok (.invokevirtual 136, 3) := by decide +kernel
theorem dX8_readsRoutine_4 : decode cX8_readsRoutine 4 = .ok (.iconst 0, 1) := by decide +kernel
theorem dX8_readsRoutine_5 : decode cX8_readsRoutine 5 = .ok (.istore_n 1, 1) := by decide +kernel
theorem dX8_readsRoutine_6 : decode cX8_readsRoutine 6 = .ok (.iload_n 1, 1) := by decide +kernel
theorem dX8_readsRoutine_7 : decode cX8_readsRoutine 7 = .ok (.aload_n 0, 1) := by decide +kernel
theorem dX8_readsRoutine_8 : decode cX8_readsRoutine 8 = .ok (.getfield 25, 3) := by decide +kernel
theorem dX8_readsRoutine_11 : decode cX8_readsRoutine 11 = .ok (.iconst 1, 1) := by decide +kernel
theorem dX8_readsRoutine_12 : decode cX8_readsRoutine 12 = .ok (.iaload, 1) := by decide +kernel
theorem dX8_readsRoutine_13 : decode cX8_readsRoutine 13 = .ok (.if_icmp .ge 81, 3) := by decide +kernel
theorem dX8_readsRoutine_16 : decode cX8_readsRoutine 16 = .ok (.aload_n 0, 1) := by decide +kernel
theorem dX8_readsRoutine_17 : decode cX8_readsRoutine 17 = .ok (.getfield 22, 3) := by decide +kernel
theorem dX8_readsRoutine_20 : decode cX8_readsRoutine 20 = .ok (.bipush 24, 2) := by decide +kernel
theorem dX8_readsRoutine_22 : decode cX8_readsRoutine 22 = .ok (.iload_n 1, 1) := by decide +kernel
theorem dX8_readsRoutine_23 : decode cX8_readsRoutine 23 = .ok (.iadd, 1) := by decide +kernel
theorem dX8_readsRoutine_24 : decode cX8_readsRoutine 24 = .ok (.iaload, 1) := by decide +kernel
theorem dX8_readsRoutine_25 : decode cX8_readsRoutine 25 = .ok (.istore_n 2, 1) := by decide +kernel
theorem dX8_readsRoutine_26 : decode cX8_readsRoutine 26 = .ok (.iload_n 2, 1) := by decide +kernel
theorem dX8_readsRoutine_27 : decode cX8_readsRoutine 27 = .ok (.bipush 102, 2) := by decide +kernel
theorem dX8_readsRoutine_29 : decode cX8_readsRoutine 29 = .ok (.if_icmp .ne 7, 3) := by decide +kernel
theorem dX8_readsRoutine_32 : decode cX8_readsRoutine 32 = .ok (.iconst 0, 1) := by decide +kernel
theorem dX8_readsRoutine_33 : decode cX8_readsRoutine 33 = .ok (.goto 35, 3) := by decide +kernel
theorem dX8_readsRoutine_36 : decode cX8_readsRoutine 36 = .ok (.iload_n 2, 1) := by decide +kernel
theorem dX8_readsRoutine_37 : decode cX8_readsRoutine 37 = .ok (.bipush 119, 2) := by decide +kernel
theorem dX8_readsRoutine_39 : decode cX8_readsRoutine 39 = .ok (.if_icmp .ne 7, 3) := by decide +kernel
theorem dX8_readsRoutine_42 : decode cX8_readsRoutine 42 = .ok (.iconst 1, 1) := by decide +kernel
theorem dX8_readsRoutine_43 : decode cX8_readsRoutine 43 = .ok (.goto 25, 3) := by decide +kernel
theorem dX8_readsRoutine_46 : decode cX8_readsRoutine 46 = .ok (.iload_n 2, 1) := by decide +kernel
theorem dX8_readsRoutine_47 : decode cX8_readsRoutine 47 = .ok (.bipush 108, 2) := by decide +kernel
theorem dX8_readsRoutine_49 : decode cX8_readsRoutine 49 = .ok (.if_icmp .ne 7, 3) := by decide +kernel
theorem dX8_readsRoutine_52 : decode cX8_readsRoutine 52 = .ok (.iconst 2, 1) := by decide +kernel
theorem dX8_readsRoutine_53 : decode cX8_readsRoutine 53 = .ok (.goto 15, 3) := by decide +kernel
theorem dX8_readsRoutine_56 : decode cX8_readsRoutine 56 = .ok (.iload_n 2, 1) := by decide +kernel
theorem dX8_readsRoutine_57 : decode cX8_readsRoutine 57 = .ok (.bipush 114, 2) := by decide +kernel
theorem dX8_readsRoutine_59 : decode cX8_readsRoutine 59 = .ok (.if_icmp .ne 7, 3) := by decide +kernel
theorem dX8_readsRoutine_62 : decode cX8_readsRoutine 62 = .ok (.iconst 3, 1) := by decide +kernel
theorem dX8_readsRoutine_63 : decode cX8_readsRoutine 63 = .ok (.goto 5, 3) := by decide +kernel
theorem dX8_readsRoutine_66 : decode cX8_readsRoutine 66 = .ok (.bipush (-9), 2) := by decide +kernel
theorem dX8_readsRoutine_68 : decode cX8_readsRoutine 68 = .ok (.istore_n 3, 1) := by decide +kernel
theorem dX8_readsRoutine_69 : decode cX8_readsRoutine 69 = .ok (.iload_n 3, 1) := by decide +kernel
theorem dX8_readsRoutine_70 : decode cX8_readsRoutine 70 = .ok (.bipush (-9), 2) := by decide +kernel
theorem dX8_readsRoutine_72 : decode cX8_readsRoutine 72 = .ok (.if_icmp .ne 9, 3) := by decide +kernel
theorem dX8_readsRoutine_75 : decode cX8_readsRoutine 75 = .ok (.aload_n 0, 1) := by decide +kernel
theorem dX8_readsRoutine_76 : decode cX8_readsRoutine 76 = .ok (.invokevirtual 136, 3) := by decide +kernel
theorem dX8_readsRoutine_79 : decode cX8_readsRoutine 79 = .ok (.iload_n 1, 1) := by decide +kernel
theorem dX8_readsRoutine_80 : decode cX8_readsRoutine 80 = .ok (.ireturn, 1) := by decide +kernel
theorem dX8_readsRoutine_81 : decode cX8_readsRoutine 81 = .ok (.aload_n 0, 1) := by decide +kernel
theorem dX8_readsRoutine_82 : decode cX8_readsRoutine 82 = .ok (.getfield 31, 3) := by decide +kernel
theorem dX8_readsRoutine_85 : decode cX8_readsRoutine 85 = .ok (.iload_n 1, 1) := by decide +kernel
theorem dX8_readsRoutine_86 : decode cX8_readsRoutine 86 = .ok (.iload_n 3, 1) := by decide +kernel
theorem dX8_readsRoutine_87 : decode cX8_readsRoutine 87 = .ok (.iastore, 1) := by decide +kernel
theorem dX8_readsRoutine_88 : decode cX8_readsRoutine 88 = .ok (.iinc 1 1, 3) := by decide +kernel
theorem dX8_readsRoutine_91 : decode cX8_readsRoutine 91 = .ok (.goto (-85), 3) := by decide +kernel
theorem dX8_readsRoutine_94 : decode cX8_readsRoutine 94 = .ok (.aload_n 0, 1) := by decide +kernel
theorem dX8_readsRoutine_95 : decode cX8_readsRoutine 95 = .ok (.aload_n 0, 1) := by decide +kernel
theorem dX8_readsRoutine_96 : decode cX8_readsRoutine 96 = .ok (.getfield 25, 3) := by decide +kernel
theorem dX8_readsRoutine_99 : decode cX8_readsRoutine 99 = .ok (.iconst 1, 1) := by decide +kernel
theorem dX8_readsRoutine_100 : decode cX8_readsRoutine 100 = .ok (.iaload, 1) := by decide +kernel
theorem dX8_readsRoutine_101 : decode cX8_readsRoutine 101 = .ok (.putfield 133, 3) := by decide +kernel
theorem dX8_readsRoutine_104 : decode cX8_readsRoutine 104 = .ok (.iconst (-1), 1) := by decide +kernel
theorem dX8_readsRoutine_105 : decode cX8_readsRoutine 105 = .ok (.ireturn, 1) := by decide +kernel
set_option maxRecDepth 20000 in
theorem m_X8_readsRoutine {h : Hp}  {u : (Hp × Int32)} (hu : f_X8_readsRoutine h = some u) : Ct yX8_readsRoutine cX8_readsRoutine 4 (some .int) 1 [.ref 68] h (eI u) := by
  refine ct_of eI hu (by decide) (Nat.le_of_ble_eq_true rfl) (fun κ hn C E => ?_)
  have n1 : 1 < kn κ := by rw [hn]; decide
  have n2 : 2 < kn κ := by rw [hn]; decide
  have n3 : 3 < kn κ := by rw [hn]; decide
  unfold f_X8_readsRoutine
  show Xz κ _ 0 [(0, .ref 68)] [] h
  refine x_aload_n 1 C dX8_readsRoutine_0 0 rfl rfl rfl ?_
  refine x_cvV 4 [] [] C 0 dX8_readsRoutine_1 v_X8_136 (fun u hu => m_X8_plain hu) rfl sk_68 rfl (Nat.le_of_ble_eq_true rfl) (Nat.le_of_ble_eq_true rfl) rfl (fun h1 => ?_)
  refine x_iconst 5 C dX8_readsRoutine_4 ci_0 rfl ?_
  refine x_istore_n 6 [(1, .int (0 : Int32)), (0, .ref 68)] C dX8_readsRoutine_5 n1 rfl rfl rfl ?_
  refine x_lt1 (q := 94) (ls := fun h2 => [(0, .ref 68)]) (st := fun h2 => []) (hh := fun h2 => h2) (fun h2 => ?_) (fun k1 J1 => ?_)
  · refine x_aload_n 95 C dX8_readsRoutine_94 0 rfl rfl rfl ?_
    refine x_aload_n 96 C dX8_readsRoutine_95 0 rfl rfl rfl ?_
    refine x_getR (c := 74) 99 C dX8_readsRoutine_96 fl_X8_25 sk_68 rfl sr_68_6 rfl ?_
    refine x_iconst 100 C dX8_readsRoutine_99 ci_1 rfl ?_
    refine x_ialc 101 C dX8_readsRoutine_100 sk_74 sl_74 vi_1_2 vj_1 rfl ?_
    refine x_put 104 C dX8_readsRoutine_101 fp_X8_133 sk_68 rfl rfl rfl rfl (fun h3 => ?_)
    refine x_iconst 105 C dX8_readsRoutine_104 ci_m1 rfl ?_
    exact x_iret C E dX8_readsRoutine_105 rfl
  refine x_ls [1, 0] rfl (x_fx2 (ls := fun h4 x5 => [(0, .ref 68), (1, .int x5)]) (st := fun h4 x5 => []) (hh := fun h4 x5 => h4) (fun s2 J2 h4 x5 => ?_))
  refine x_iload_n 7 C dX8_readsRoutine_6 1 rfl rfl rfl ?_
  refine x_aload_n 8 C dX8_readsRoutine_7 0 rfl rfl rfl ?_
  refine x_getR (c := 74) 11 C dX8_readsRoutine_8 fl_X8_25 sk_68 rfl sr_68_6 rfl ?_
  refine x_iconst 12 C dX8_readsRoutine_11 ci_1 rfl ?_
  refine x_ialc 13 C dX8_readsRoutine_12 sk_74 sl_74 vi_1_2 vj_1 rfl ?_
  refine x_icmp_ge 16 94 C dX8_readsRoutine_13 (by decide) rfl (fun _ => ?_) (fun _ => ?_)
  · exact x_ls [0] rfl (J1 h4)
  · refine x_aload_n 17 C dX8_readsRoutine_16 0 rfl rfl rfl ?_
    refine x_getR (c := 73) 20 C dX8_readsRoutine_17 fl_X8_22 sk_68 rfl sr_68_5 rfl ?_
    refine x_bipush 22 C dX8_readsRoutine_20 cb_24 rfl ?_
    refine x_iload_n 23 C dX8_readsRoutine_22 1 rfl rfl rfl ?_
    refine x_iadd 24 C dX8_readsRoutine_23 rfl ?_
    refine x_iald 25 C dX8_readsRoutine_24 sk_73 sl_73 rfl ?_
    refine x_ni (fun x6 => ?_)
    refine x_istore_n 26 [(2, .int x6), (0, .ref 68), (1, .int x5)] C dX8_readsRoutine_25 n2 rfl rfl rfl ?_
    refine x_iload_n 27 C dX8_readsRoutine_26 0 rfl rfl rfl ?_
    refine x_bipush 29 C dX8_readsRoutine_27 cb_102 rfl ?_
    refine x_lt1 (q := 68) (ls := fun x7 => [(0, .ref 68), (1, .int x5)]) (st := fun x7 => [.int x7]) (hh := fun x7 => h4) (fun x7 => ?_) (fun k3 J3 => ?_)
    · refine x_istore_n 69 [(3, .int x7), (0, .ref 68), (1, .int x5)] C dX8_readsRoutine_68 n3 rfl rfl rfl ?_
      refine x_iload_n 70 C dX8_readsRoutine_69 0 rfl rfl rfl ?_
      refine x_bipush 72 C dX8_readsRoutine_70 cb_m9 rfl ?_
      refine x_icmp_ne 75 81 C dX8_readsRoutine_72 (by decide) rfl (fun _ => ?_) (fun _ => ?_)
      · refine x_aload_n 82 C dX8_readsRoutine_81 1 rfl rfl rfl ?_
        refine x_getR (c := 76) 85 C dX8_readsRoutine_82 fl_X8_31 sk_68 rfl sr_68_10 rfl ?_
        refine x_iload_n 86 C dX8_readsRoutine_85 2 rfl rfl rfl ?_
        refine x_iload_n 87 C dX8_readsRoutine_86 0 rfl rfl rfl ?_
        refine x_iast 88 C dX8_readsRoutine_87 sk_76 sl_76 rfl (fun h8 => ?_)
        refine x_iinc 91 (fun x9 => [(1, .int x9), (3, .int x7), (0, .ref 68)]) C dX8_readsRoutine_88 2 rfl ci_1 n1 (fun _ => rfl) rfl (fun x9 => ?_)
        refine x_goto 6 C dX8_readsRoutine_91 (by decide) ?_
        exact x_ls [2, 0] rfl (J2 h8 x9)
      · refine x_aload_n 76 C dX8_readsRoutine_75 1 rfl rfl rfl ?_
        refine x_cvV 79 [] [] C 0 dX8_readsRoutine_76 v_X8_136 (fun u hu => m_X8_plain hu) rfl sk_68 rfl (Nat.le_of_ble_eq_true rfl) (Nat.le_of_ble_eq_true rfl) rfl (fun h10 => ?_)
        refine x_iload_n 80 C dX8_readsRoutine_79 2 rfl rfl rfl ?_
        exact x_iret C E dX8_readsRoutine_80 rfl
    refine x_icmp_ne 32 36 C dX8_readsRoutine_29 (by decide) rfl (fun _ => ?_) (fun _ => ?_)
    · refine x_iload_n 37 C dX8_readsRoutine_36 0 rfl rfl rfl ?_
      refine x_bipush 39 C dX8_readsRoutine_37 cb_119 rfl ?_
      refine x_icmp_ne 42 46 C dX8_readsRoutine_39 (by decide) rfl (fun _ => ?_) (fun _ => ?_)
      · refine x_iload_n 47 C dX8_readsRoutine_46 0 rfl rfl rfl ?_
        refine x_bipush 49 C dX8_readsRoutine_47 cb_108 rfl ?_
        refine x_icmp_ne 52 56 C dX8_readsRoutine_49 (by decide) rfl (fun _ => ?_) (fun _ => ?_)
        · refine x_iload_n 57 C dX8_readsRoutine_56 0 rfl rfl rfl ?_
          refine x_bipush 59 C dX8_readsRoutine_57 cb_114 rfl ?_
          refine x_icmp_ne 62 66 C dX8_readsRoutine_59 (by decide) rfl (fun _ => ?_) (fun _ => ?_)
          · refine x_bipush 68 C dX8_readsRoutine_66 cb_m9 rfl ?_
            exact x_ls [1, 2] rfl (J3 (-9 : Int32))
          · refine x_iconst 63 C dX8_readsRoutine_62 ci_3 rfl ?_
            refine x_goto 68 C dX8_readsRoutine_63 (by decide) ?_
            exact x_ls [1, 2] rfl (J3 (3 : Int32))
        · refine x_iconst 53 C dX8_readsRoutine_52 ci_2 rfl ?_
          refine x_goto 68 C dX8_readsRoutine_53 (by decide) ?_
          exact x_ls [1, 2] rfl (J3 (2 : Int32))
      · refine x_iconst 43 C dX8_readsRoutine_42 ci_1 rfl ?_
        refine x_goto 68 C dX8_readsRoutine_43 (by decide) ?_
        exact x_ls [1, 2] rfl (J3 (1 : Int32))
    · refine x_iconst 33 C dX8_readsRoutine_32 ci_0 rfl ?_
      refine x_goto 68 C dX8_readsRoutine_33 (by decide) ?_
      exact x_ls [1, 2] rfl (J3 (0 : Int32))

def f_X8_readsText (h : Hp) (a1 : Int32) : Option (Hp × Int32) :=
  if a1 = 0 then (
    bnd (f_X8_readsWalkers h) fun h3 x4 =>
    some (h3, x4))
  else (
    bnd (f_X8_readsRoutine h) fun h1 x2 =>
    some (h1, x2))
theorem dX8_readsText_0 : decode cX8_readsText 0 = .ok (.iload_n 1, 1) := by decide +kernel
theorem dX8_readsText_1 : decode cX8_readsText 1 = .ok (.ifCond .ne 10, 3) := by decide +kernel
theorem dX8_readsText_4 : decode cX8_readsText 4 = .ok (.aload_n 0, 1) := by decide +kernel
theorem dX8_readsText_5 : decode cX8_readsText 5 = .ok (.invokevirtual 139, 3) := by decide +kernel
theorem dX8_readsText_8 : decode cX8_readsText 8 = .ok (.goto 7, 3) := by decide +kernel
theorem dX8_readsText_11 : decode cX8_readsText 11 = .ok (.aload_n 0, 1) := by decide +kernel
theorem dX8_readsText_12 : decode cX8_readsText 12 = .ok (.invokevirtual 143, 3) := by decide +kernel
theorem dX8_readsText_15 : decode cX8_readsText 15 = .ok (.ireturn, 1) := by decide +kernel
set_option maxRecDepth 20000 in
theorem m_X8_readsText {h : Hp} {a1 : Int32}  {u : (Hp × Int32)} (hu : f_X8_readsText h a1 = some u) : Ct yX8_readsText cX8_readsText 2 (some .int) 3 [.ref 68, .int a1] h (eI u) := by
  refine ct_of eI hu (by decide) (Nat.le_of_ble_eq_true rfl) (fun κ hn C E => ?_)
  unfold f_X8_readsText
  show Xz κ _ 0 [(0, .ref 68), (1, .int a1)] [] h
  refine x_iload_n 1 C dX8_readsText_0 1 rfl rfl rfl ?_
  refine x_if_ne 4 11 C dX8_readsText_1 (by decide) rfl (fun _ => ?_) (fun _ => ?_)
  · refine x_aload_n 12 C dX8_readsText_11 0 rfl rfl rfl ?_
    refine x_cvI 15 [] [] C 1 dX8_readsText_12 v_X8_143 (fun u hu => m_X8_readsRoutine hu) rfl sk_68 rfl (Nat.le_of_ble_eq_true rfl) (Nat.le_of_ble_eq_true rfl) rfl (fun h1 x2 => ?_)
    exact x_iret C E dX8_readsText_15 rfl
  · refine x_aload_n 5 C dX8_readsText_4 0 rfl rfl rfl ?_
    refine x_cvI 8 [] [] C 2 dX8_readsText_5 v_X8_139 (fun u hu => m_X8_readsWalkers hu) rfl sk_68 rfl (Nat.le_of_ble_eq_true rfl) (Nat.le_of_ble_eq_true rfl) rfl (fun h3 x4 => ?_)
    refine x_goto 15 C dX8_readsText_8 (by decide) ?_
    exact x_iret C E dX8_readsText_15 rfl

def f_X8_fault (h : Hp) (a1 : Int32) : Option (Hp × Int32) :=
  bdr (f_X8_isTwo a1) fun x1 =>
  if x1 = 0 then (
    some (h, (-2 : Int32)))
  else (
    bnd (f_X8_readsText h a1) fun h2 x3 =>
    some (h2, x3))
theorem dX8_fault_0 : decode cX8_fault 0 = .ok (.iload_n 1, 1) := by decide +kernel
theorem dX8_fault_1 : decode cX8_fault 1 = .ok (.invokestatic 114, 3) := by decide +kernel
theorem dX8_fault_4 : decode cX8_fault 4 = .ok (.ifCond .eq 11, 3) := by decide +kernel
theorem dX8_fault_7 : decode cX8_fault 7 = .ok (.aload_n 0, 1) := by decide +kernel
theorem dX8_fault_8 : decode cX8_fault 8 = .ok (.iload_n 1, 1) := by decide +kernel
theorem dX8_fault_9 : decode cX8_fault 9 = .ok (.invokevirtual 146, 3) := by decide +kernel
theorem dX8_fault_12 : decode cX8_fault 12 = .ok (.goto 5, 3) := by decide +kernel
theorem dX8_fault_15 : decode cX8_fault 15 = .ok (.bipush (-2), 2) := by decide +kernel
theorem dX8_fault_17 : decode cX8_fault 17 = .ok (.ireturn, 1) := by decide +kernel
set_option maxRecDepth 20000 in
theorem m_X8_fault {h : Hp} {a1 : Int32}  {u : (Hp × Int32)} (hu : f_X8_fault h a1 = some u) : Ct yX8_fault cX8_fault 2 (some .int) 4 [.ref 68, .int a1] h (eI u) := by
  refine ct_of eI hu (by decide) (Nat.le_of_ble_eq_true rfl) (fun κ hn C E => ?_)
  unfold f_X8_fault
  show Xz κ _ 0 [(0, .ref 68), (1, .int a1)] [] h
  refine x_iload_n 1 C dX8_fault_0 1 rfl rfl rfl ?_
  refine x_csi 4 [.int a1] [] C 1 dX8_fault_1 s_X8_114 (fun u hu => m_X8_isTwo hu) rfl rfl (Nat.le_of_ble_eq_true rfl) (Nat.le_of_ble_eq_true rfl) rfl (fun x1 => ?_)
  refine x_if_eq 7 15 C dX8_fault_4 (by decide) rfl (fun _ => ?_) (fun _ => ?_)
  · refine x_bipush 17 C dX8_fault_15 cb_m2 rfl ?_
    exact x_iret C E dX8_fault_17 rfl
  · refine x_aload_n 8 C dX8_fault_7 0 rfl rfl rfl ?_
    refine x_iload_n 9 C dX8_fault_8 1 rfl rfl rfl ?_
    refine x_cvI 12 [.int a1] [] C 3 dX8_fault_9 v_X8_146 (fun u hu => m_X8_readsText hu) rfl sk_68 rfl (Nat.le_of_ble_eq_true rfl) (Nat.le_of_ble_eq_true rfl) rfl (fun h2 x3 => ?_)
    refine x_goto 17 C dX8_fault_12 (by decide) ?_
    exact x_iret C E dX8_fault_17 rfl

def f_X8_isBeat (a1 : Int32) : Option Int32 :=
  bdr (f_X8_in (a1.toInt64) (0 : Int64) (23 : Int64)) fun x1 =>
  cy (x1 = 0 ∨ x1 = 1) (some x1)
theorem dX8_isBeat_0 : decode cX8_isBeat 0 = .ok (.iload_n 0, 1) := by decide +kernel
theorem dX8_isBeat_1 : decode cX8_isBeat 1 = .ok (.i2l, 1) := by decide +kernel
theorem dX8_isBeat_2 : decode cX8_isBeat 2 = .ok (.lconst 0, 1) := by decide +kernel
theorem dX8_isBeat_3 : decode cX8_isBeat 3 = .ok (.ldc2_w 149, 3) := by decide +kernel
theorem dX8_isBeat_6 : decode cX8_isBeat 6 = .ok (.invokestatic 85, 3) := by decide +kernel
theorem dX8_isBeat_9 : decode cX8_isBeat 9 = .ok (.ireturn, 1) := by decide +kernel
set_option maxRecDepth 20000 in
theorem m_X8_isBeat {h : Hp} {a1 : Int32}  {u : Int32} (hu : f_X8_isBeat a1 = some u) : Ct yX8_isBeat cX8_isBeat 1 (some .boolean) 1 [.int a1] h ((rI h) u) := by
  refine ct_of (rI h) hu (by decide) (Nat.le_of_ble_eq_true rfl) (fun κ hn C E => ?_)
  unfold f_X8_isBeat
  show Xz κ _ 0 [(0, .int a1)] [] h
  refine x_iload_n 1 C dX8_isBeat_0 0 rfl rfl rfl ?_
  refine x_i2l 2 C dX8_isBeat_1 rfl ?_
  refine x_lconst 3 C dX8_isBeat_2 cl_0 rfl ?_
  refine x_ldc2 6 C dX8_isBeat_3 kw_X8_149 rfl ?_
  refine x_csi 9 [.long (a1.toInt64), .long (0 : Int64), .long (23 : Int64)] [] C 0 dX8_isBeat_6 s_X8_85 (fun u hu => m_X8_in hu) rfl rfl (Nat.le_of_ble_eq_true rfl) (Nat.le_of_ble_eq_true rfl) rfl (fun x1 => ?_)
  exact x_zrc C E dX8_isBeat_9 rfl

def f_X8_isWalker (h : Hp) (a1 : Int32) : Option Int32 :=
  bdr (f_X8_in (a1.toInt64) (0 : Int64) (((h.1 68 7) - (1 : Int32)).toInt64)) fun x1 =>
  cy (x1 = 0 ∨ x1 = 1) (some x1)
theorem dX8_isWalker_0 : decode cX8_isWalker 0 = .ok (.iload_n 1, 1) := by decide +kernel
theorem dX8_isWalker_1 : decode cX8_isWalker 1 = .ok (.i2l, 1) := by decide +kernel
theorem dX8_isWalker_2 : decode cX8_isWalker 2 = .ok (.lconst 0, 1) := by decide +kernel
theorem dX8_isWalker_3 : decode cX8_isWalker 3 = .ok (.aload_n 0, 1) := by decide +kernel
theorem dX8_isWalker_4 : decode cX8_isWalker 4 = .ok (.getfield 127, 3) := by decide +kernel
theorem dX8_isWalker_7 : decode cX8_isWalker 7 = .ok (.iconst 1, 1) := by decide +kernel
theorem dX8_isWalker_8 : decode cX8_isWalker 8 = .ok (.isub, 1) := by decide +kernel
theorem dX8_isWalker_9 : decode cX8_isWalker 9 = .ok (.i2l, 1) := by decide +kernel
theorem dX8_isWalker_10 : decode cX8_isWalker 10 = .ok (.invokestatic 85, 3) := by decide +kernel
theorem dX8_isWalker_13 : decode cX8_isWalker 13 = .ok (.ireturn, 1) := by decide +kernel
set_option maxRecDepth 20000 in
theorem m_X8_isWalker {h : Hp} {a1 : Int32}  {u : Int32} (hu : f_X8_isWalker h a1 = some u) : Ct yX8_isWalker cX8_isWalker 2 (some .boolean) 1 [.ref 68, .int a1] h ((rI h) u) := by
  refine ct_of (rI h) hu (by decide) (Nat.le_of_ble_eq_true rfl) (fun κ hn C E => ?_)
  unfold f_X8_isWalker
  show Xz κ _ 0 [(0, .ref 68), (1, .int a1)] [] h
  refine x_iload_n 1 C dX8_isWalker_0 1 rfl rfl rfl ?_
  refine x_i2l 2 C dX8_isWalker_1 rfl ?_
  refine x_lconst 3 C dX8_isWalker_2 cl_0 rfl ?_
  refine x_aload_n 4 C dX8_isWalker_3 0 rfl rfl rfl ?_
  refine x_getI 7 C dX8_isWalker_4 fl_X8_127 sk_68 rfl rfl ?_
  refine x_iconst 8 C dX8_isWalker_7 ci_1 rfl ?_
  refine x_isub 9 C dX8_isWalker_8 rfl ?_
  refine x_i2l 10 C dX8_isWalker_9 rfl ?_
  refine x_csi 13 [.long (a1.toInt64), .long (0 : Int64), .long (((h.1 68 7) - (1 : Int32)).toInt64)] [] C 0 dX8_isWalker_10 s_X8_85 (fun u hu => m_X8_in hu) rfl rfl (Nat.le_of_ble_eq_true rfl) (Nat.le_of_ble_eq_true rfl) rfl (fun x1 => ?_)
  exact x_zrc C E dX8_isWalker_13 rfl

def f_X8_walker (h : Hp) (a1 : Int32) (a2 : Int32) : Option (Hp × Int32) :=
  bnd (f_X8_readsWalkers h) fun h1 x2 =>
  bdr (f_X8_isWalker h1 a1) fun x3 =>
  if x3 = 0 then (
    some (h1, (-2 : Int32)))
  else (
    bdr (f_X8_in (a2.toInt64) (0 : Int64) (2 : Int64)) fun x4 =>
    if x4 = 0 then (
      some (h1, (-2 : Int32)))
    else (
      ck (((3 : Int32) * a1) + a2) 18 (
        some (h1, (ia h1 75 (((3 : Int32) * a1) + a2))))))
theorem dX8_walker_0 : decode cX8_walker 0 = .ok (.aload_n 0, 1) := by decide +kernel
theorem dX8_walker_1 : decode cX8_walker 1 = .ok (.invokevirtual 139, 3) := by decide +kernel
theorem dX8_walker_4 : decode cX8_walker 4 = .ok (.pop, 1) := by decide +kernel
theorem dX8_walker_5 : decode cX8_walker 5 = .ok (.aload_n 0, 1) := by decide +kernel
theorem dX8_walker_6 : decode cX8_walker 6 = .ok (.iload_n 1, 1) := by decide +kernel
theorem dX8_walker_7 : decode cX8_walker 7 = .ok (.invokevirtual 151, 3) := by decide +kernel
theorem dX8_walker_10 : decode cX8_walker 10 = .ok (.ifCond .eq 28, 3) := by decide +kernel
theorem dX8_walker_13 : decode cX8_walker 13 = .ok (.iload_n 2, 1) := by decide +kernel
theorem dX8_walker_14 : decode cX8_walker 14 = .ok (.i2l, 1) := by decide +kernel
theorem dX8_walker_15 : decode cX8_walker 15 = .ok (.lconst 0, 1) := by decide +kernel
theorem dX8_walker_16 : decode cX8_walker 16 = .ok (.ldc2_w 99, 3) := by decide +kernel
theorem dX8_walker_19 : decode cX8_walker 19 = .ok (.invokestatic 85, 3) := by decide +kernel
theorem dX8_walker_22 : decode cX8_walker 22 = .ok (.ifCond .eq 16, 3) := by decide +kernel
theorem dX8_walker_25 : decode cX8_walker 25 = .ok (.aload_n 0, 1) := by decide +kernel
theorem dX8_walker_26 : decode cX8_walker 26 = .ok (.getfield 28, 3) := by decide +kernel
theorem dX8_walker_29 : decode cX8_walker 29 = .ok (.iconst 3, 1) := by decide +kernel
theorem dX8_walker_30 : decode cX8_walker 30 = .ok (.iload_n 1, 1) := by decide +kernel
theorem dX8_walker_31 : decode cX8_walker 31 = .ok (.imul, 1) := by decide +kernel
theorem dX8_walker_32 : decode cX8_walker 32 = .ok (.iload_n 2, 1) := by decide +kernel
theorem dX8_walker_33 : decode cX8_walker 33 = .ok (.iadd, 1) := by decide +kernel
theorem dX8_walker_34 : decode cX8_walker 34 = .ok (.iaload, 1) := by decide +kernel
theorem dX8_walker_35 : decode cX8_walker 35 = .ok (.goto 5, 3) := by decide +kernel
theorem dX8_walker_38 : decode cX8_walker 38 = .ok (.bipush (-2), 2) := by decide +kernel
theorem dX8_walker_40 : decode cX8_walker 40 = .ok (.ireturn, 1) := by decide +kernel
set_option maxRecDepth 20000 in
theorem m_X8_walker {h : Hp} {a1 : Int32} {a2 : Int32}  {u : (Hp × Int32)} (hu : f_X8_walker h a1 a2 = some u) : Ct yX8_walker cX8_walker 3 (some .int) 3 [.ref 68, .int a1, .int a2] h (eI u) := by
  refine ct_of eI hu (by decide) (Nat.le_of_ble_eq_true rfl) (fun κ hn C E => ?_)
  unfold f_X8_walker
  show Xz κ _ 0 [(0, .ref 68), (1, .int a1), (2, .int a2)] [] h
  refine x_aload_n 1 C dX8_walker_0 0 rfl rfl rfl ?_
  refine x_cvI 4 [] [] C 2 dX8_walker_1 v_X8_139 (fun u hu => m_X8_readsWalkers hu) rfl sk_68 rfl (Nat.le_of_ble_eq_true rfl) (Nat.le_of_ble_eq_true rfl) rfl (fun h1 x2 => ?_)
  refine x_pop 5 C dX8_walker_4 rfl rfl ?_
  refine x_aload_n 6 C dX8_walker_5 0 rfl rfl rfl ?_
  refine x_iload_n 7 C dX8_walker_6 1 rfl rfl rfl ?_
  refine x_cvi 10 [.int a1] [] C 1 dX8_walker_7 v_X8_151 (fun u hu => m_X8_isWalker hu) rfl sk_68 rfl (Nat.le_of_ble_eq_true rfl) (Nat.le_of_ble_eq_true rfl) rfl (fun x3 => ?_)
  refine x_if_eq 13 38 C dX8_walker_10 (by decide) rfl (fun _ => ?_) (fun _ => ?_)
  · refine x_bipush 40 C dX8_walker_38 cb_m2 rfl ?_
    exact x_iret C E dX8_walker_40 rfl
  · refine x_iload_n 14 C dX8_walker_13 2 rfl rfl rfl ?_
    refine x_i2l 15 C dX8_walker_14 rfl ?_
    refine x_lconst 16 C dX8_walker_15 cl_0 rfl ?_
    refine x_ldc2 19 C dX8_walker_16 kw_X8_99 rfl ?_
    refine x_csi 22 [.long (a2.toInt64), .long (0 : Int64), .long (2 : Int64)] [] C 0 dX8_walker_19 s_X8_85 (fun u hu => m_X8_in hu) rfl rfl (Nat.le_of_ble_eq_true rfl) (Nat.le_of_ble_eq_true rfl) rfl (fun x4 => ?_)
    refine x_if_eq 25 38 C dX8_walker_22 (by decide) rfl (fun _ => ?_) (fun _ => ?_)
    · refine x_bipush 40 C dX8_walker_38 cb_m2 rfl ?_
      exact x_iret C E dX8_walker_40 rfl
    · refine x_aload_n 26 C dX8_walker_25 0 rfl rfl rfl ?_
      refine x_getR (c := 75) 29 C dX8_walker_26 fl_X8_28 sk_68 rfl sr_68_8 rfl ?_
      refine x_iconst 30 C dX8_walker_29 ci_3 rfl ?_
      refine x_iload_n 31 C dX8_walker_30 1 rfl rfl rfl ?_
      refine x_imul 32 C dX8_walker_31 rfl ?_
      refine x_iload_n 33 C dX8_walker_32 2 rfl rfl rfl ?_
      refine x_iadd 34 C dX8_walker_33 rfl ?_
      refine x_iald 35 C dX8_walker_34 sk_75 sl_75 rfl ?_
      refine x_goto 40 C dX8_walker_35 (by decide) ?_
      exact x_iret C E dX8_walker_40 rfl

def f_X8_routine (h : Hp) (a1 : Int32) : Option (Hp × Int32) :=
  bnd (f_X8_readsRoutine h) fun h1 x2 =>
  bdr (f_X8_isBeat a1) fun x3 =>
  if x3 = 0 then (
    some (h1, (-2 : Int32)))
  else (
    ck a1 24 (
      some (h1, (ia h1 76 a1))))
theorem dX8_routine_0 : decode cX8_routine 0 = .ok (.aload_n 0, 1) := by decide +kernel
theorem dX8_routine_1 : decode cX8_routine 1 = .ok (.invokevirtual 143, 3) := by decide +kernel
theorem dX8_routine_4 : decode cX8_routine 4 = .ok (.pop, 1) := by decide +kernel
theorem dX8_routine_5 : decode cX8_routine 5 = .ok (.iload_n 1, 1) := by decide +kernel
theorem dX8_routine_6 : decode cX8_routine 6 = .ok (.invokestatic 154, 3) := by decide +kernel
theorem dX8_routine_9 : decode cX8_routine 9 = .ok (.ifCond .eq 12, 3) := by decide +kernel
theorem dX8_routine_12 : decode cX8_routine 12 = .ok (.aload_n 0, 1) := by decide +kernel
theorem dX8_routine_13 : decode cX8_routine 13 = .ok (.getfield 31, 3) := by decide +kernel
theorem dX8_routine_16 : decode cX8_routine 16 = .ok (.iload_n 1, 1) := by decide +kernel
theorem dX8_routine_17 : decode cX8_routine 17 = .ok (.iaload, 1) := by decide +kernel
theorem dX8_routine_18 : decode cX8_routine 18 = .ok (.goto 5, 3) := by decide +kernel
theorem dX8_routine_21 : decode cX8_routine 21 = .ok (.bipush (-2), 2) := by decide +kernel
theorem dX8_routine_23 : decode cX8_routine 23 = .ok (.ireturn, 1) := by decide +kernel
set_option maxRecDepth 20000 in
theorem m_X8_routine {h : Hp} {a1 : Int32}  {u : (Hp × Int32)} (hu : f_X8_routine h a1 = some u) : Ct yX8_routine cX8_routine 2 (some .int) 2 [.ref 68, .int a1] h (eI u) := by
  refine ct_of eI hu (by decide) (Nat.le_of_ble_eq_true rfl) (fun κ hn C E => ?_)
  unfold f_X8_routine
  show Xz κ _ 0 [(0, .ref 68), (1, .int a1)] [] h
  refine x_aload_n 1 C dX8_routine_0 0 rfl rfl rfl ?_
  refine x_cvI 4 [] [] C 1 dX8_routine_1 v_X8_143 (fun u hu => m_X8_readsRoutine hu) rfl sk_68 rfl (Nat.le_of_ble_eq_true rfl) (Nat.le_of_ble_eq_true rfl) rfl (fun h1 x2 => ?_)
  refine x_pop 5 C dX8_routine_4 rfl rfl ?_
  refine x_iload_n 6 C dX8_routine_5 1 rfl rfl rfl ?_
  refine x_csi 9 [.int a1] [] C 1 dX8_routine_6 s_X8_154 (fun u hu => m_X8_isBeat hu) rfl rfl (Nat.le_of_ble_eq_true rfl) (Nat.le_of_ble_eq_true rfl) rfl (fun x3 => ?_)
  refine x_if_eq 12 21 C dX8_routine_9 (by decide) rfl (fun _ => ?_) (fun _ => ?_)
  · refine x_bipush 23 C dX8_routine_21 cb_m2 rfl ?_
    exact x_iret C E dX8_routine_23 rfl
  · refine x_aload_n 13 C dX8_routine_12 0 rfl rfl rfl ?_
    refine x_getR (c := 76) 16 C dX8_routine_13 fl_X8_31 sk_68 rfl sr_68_10 rfl ?_
    refine x_iload_n 17 C dX8_routine_16 1 rfl rfl rfl ?_
    refine x_iald 18 C dX8_routine_17 sk_76 sl_76 rfl ?_
    refine x_goto 23 C dX8_routine_18 (by decide) ?_
    exact x_iret C E dX8_routine_23 rfl

def f_X8_isSet (a1 : Int32) (a2 : Int32) : Option Int32 :=
  if a1 = 0 then (
    bdr (f_X8_in (a2.toInt64) (5 : Int64) (40 : Int64)) fun x3 =>
    cy (x3 = 0 ∨ x3 = 1) (some x3))
  else (
    if a1 = (1 : Int32) then (
      bdr (f_X8_in (a2.toInt64) (0 : Int64) (9 : Int64)) fun x2 =>
      cy (x2 = 0 ∨ x2 = 1) (some x2))
    else (
      if a1 = (2 : Int32) then (
        bdr (f_X8_in (a2.toInt64) (3 : Int64) (20 : Int64)) fun x1 =>
        if x1 = 0 then (
          some (0 : Int32))
        else (
          some (1 : Int32)))
      else (
        some (0 : Int32))))
theorem dX8_isSet_0 : decode cX8_isSet 0 = .ok (.iload_n 0, 1) := by decide +kernel
theorem dX8_isSet_1 : decode cX8_isSet 1 = .ok (.ifCond .ne 17, 3) := by decide +kernel
theorem dX8_isSet_4 : decode cX8_isSet 4 = .ok (.iload_n 1, 1) := by decide +kernel
theorem dX8_isSet_5 : decode cX8_isSet 5 = .ok (.i2l, 1) := by decide +kernel
theorem dX8_isSet_6 : decode cX8_isSet 6 = .ok (.ldc2_w 157, 3) := by decide +kernel
theorem dX8_isSet_9 : decode cX8_isSet 9 = .ok (.ldc2_w 159, 3) := by decide +kernel
theorem dX8_isSet_12 : decode cX8_isSet 12 = .ok (.invokestatic 85, 3) := by decide +kernel
theorem dX8_isSet_15 : decode cX8_isSet 15 = .ok (.goto 44, 3) := by decide +kernel
theorem dX8_isSet_18 : decode cX8_isSet 18 = .ok (.iload_n 0, 1) := by decide +kernel
theorem dX8_isSet_19 : decode cX8_isSet 19 = .ok (.iconst 1, 1) := by decide +kernel
theorem dX8_isSet_20 : decode cX8_isSet 20 = .ok (.if_icmp .ne 15, 3) := by decide +kernel
theorem dX8_isSet_23 : decode cX8_isSet 23 = .ok (.iload_n 1, 1) := by decide +kernel
theorem dX8_isSet_24 : decode cX8_isSet 24 = .ok (.i2l, 1) := by decide +kernel
theorem dX8_isSet_25 : decode cX8_isSet 25 = .ok (.lconst 0, 1) := by decide +kernel
theorem dX8_isSet_26 : decode cX8_isSet 26 = .ok (.ldc2_w 161, 3) := by decide +kernel
theorem dX8_isSet_29 : decode cX8_isSet 29 = .ok (.invokestatic 85, 3) := by decide +kernel
theorem dX8_isSet_32 : decode cX8_isSet 32 = .ok (.goto 27, 3) := by decide +kernel
theorem dX8_isSet_35 : decode cX8_isSet 35 = .ok (.iload_n 0, 1) := by decide +kernel
theorem dX8_isSet_36 : decode cX8_isSet 36 = .ok (.iconst 2, 1) := by decide +kernel
theorem dX8_isSet_37 : decode cX8_isSet 37 = .ok (.if_icmp .ne 21, 3) := by decide +kernel
theorem dX8_isSet_40 : decode cX8_isSet 40 = .ok (.iload_n 1, 1) := by decide +kernel
theorem dX8_isSet_41 : decode cX8_isSet 41 = .ok (.i2l, 1) := by decide +kernel
theorem dX8_isSet_42 : decode cX8_isSet 42 = .ok (.ldc2_w 93, 3) := by decide +kernel
theorem dX8_isSet_45 : decode cX8_isSet 45 = .ok (.ldc2_w 163, 3) := by decide +kernel
theorem dX8_isSet_48 : decode cX8_isSet 48 = .ok (.invokestatic 85, 3) := by decide +kernel
theorem dX8_isSet_51 : decode cX8_isSet 51 = .ok (.ifCond .eq 7, 3) := by decide +kernel
theorem dX8_isSet_54 : decode cX8_isSet 54 = .ok (.iconst 1, 1) := by decide +kernel
theorem dX8_isSet_55 : decode cX8_isSet 55 = .ok (.goto 4, 3) := by decide +kernel
theorem dX8_isSet_58 : decode cX8_isSet 58 = .ok (.iconst 0, 1) := by decide +kernel
theorem dX8_isSet_59 : decode cX8_isSet 59 = .ok (.ireturn, 1) := by decide +kernel
set_option maxRecDepth 20000 in
theorem m_X8_isSet {h : Hp} {a1 : Int32} {a2 : Int32}  {u : Int32} (hu : f_X8_isSet a1 a2 = some u) : Ct yX8_isSet cX8_isSet 2 (some .boolean) 1 [.int a1, .int a2] h ((rI h) u) := by
  refine ct_of (rI h) hu (by decide) (Nat.le_of_ble_eq_true rfl) (fun κ hn C E => ?_)
  unfold f_X8_isSet
  show Xz κ _ 0 [(0, .int a1), (1, .int a2)] [] h
  refine x_iload_n 1 C dX8_isSet_0 0 rfl rfl rfl ?_
  refine x_if_ne 4 18 C dX8_isSet_1 (by decide) rfl (fun _ => ?_) (fun _ => ?_)
  · refine x_iload_n 19 C dX8_isSet_18 0 rfl rfl rfl ?_
    refine x_iconst 20 C dX8_isSet_19 ci_1 rfl ?_
    refine x_icmp_ne 23 35 C dX8_isSet_20 (by decide) rfl (fun _ => ?_) (fun _ => ?_)
    · refine x_iload_n 36 C dX8_isSet_35 0 rfl rfl rfl ?_
      refine x_iconst 37 C dX8_isSet_36 ci_2 rfl ?_
      refine x_icmp_ne 40 58 C dX8_isSet_37 (by decide) rfl (fun _ => ?_) (fun _ => ?_)
      · refine x_iconst 59 C dX8_isSet_58 ci_0 rfl ?_
        exact x_zret C E dX8_isSet_59 (Or.inl rfl) rfl
      · refine x_iload_n 41 C dX8_isSet_40 1 rfl rfl rfl ?_
        refine x_i2l 42 C dX8_isSet_41 rfl ?_
        refine x_ldc2 45 C dX8_isSet_42 kw_X8_93 rfl ?_
        refine x_ldc2 48 C dX8_isSet_45 kw_X8_163 rfl ?_
        refine x_csi 51 [.long (a2.toInt64), .long (3 : Int64), .long (20 : Int64)] [] C 0 dX8_isSet_48 s_X8_85 (fun u hu => m_X8_in hu) rfl rfl (Nat.le_of_ble_eq_true rfl) (Nat.le_of_ble_eq_true rfl) rfl (fun x1 => ?_)
        refine x_if_eq 54 58 C dX8_isSet_51 (by decide) rfl (fun _ => ?_) (fun _ => ?_)
        · refine x_iconst 59 C dX8_isSet_58 ci_0 rfl ?_
          exact x_zret C E dX8_isSet_59 (Or.inl rfl) rfl
        · refine x_iconst 55 C dX8_isSet_54 ci_1 rfl ?_
          refine x_goto 59 C dX8_isSet_55 (by decide) ?_
          exact x_zret C E dX8_isSet_59 (Or.inr rfl) rfl
    · refine x_iload_n 24 C dX8_isSet_23 1 rfl rfl rfl ?_
      refine x_i2l 25 C dX8_isSet_24 rfl ?_
      refine x_lconst 26 C dX8_isSet_25 cl_0 rfl ?_
      refine x_ldc2 29 C dX8_isSet_26 kw_X8_161 rfl ?_
      refine x_csi 32 [.long (a2.toInt64), .long (0 : Int64), .long (9 : Int64)] [] C 0 dX8_isSet_29 s_X8_85 (fun u hu => m_X8_in hu) rfl rfl (Nat.le_of_ble_eq_true rfl) (Nat.le_of_ble_eq_true rfl) rfl (fun x2 => ?_)
      refine x_goto 59 C dX8_isSet_32 (by decide) ?_
      exact x_zrc C E dX8_isSet_59 rfl
  · refine x_iload_n 5 C dX8_isSet_4 1 rfl rfl rfl ?_
    refine x_i2l 6 C dX8_isSet_5 rfl ?_
    refine x_ldc2 9 C dX8_isSet_6 kw_X8_157 rfl ?_
    refine x_ldc2 12 C dX8_isSet_9 kw_X8_159 rfl ?_
    refine x_csi 15 [.long (a2.toInt64), .long (5 : Int64), .long (40 : Int64)] [] C 0 dX8_isSet_12 s_X8_85 (fun u hu => m_X8_in hu) rfl rfl (Nat.le_of_ble_eq_true rfl) (Nat.le_of_ble_eq_true rfl) rfl (fun x3 => ?_)
    refine x_goto 59 C dX8_isSet_15 (by decide) ?_
    exact x_zrc C E dX8_isSet_59 rfl

def f_X8_wire (h : Hp) (a1 : Int32) (a2 : Int32) : Option (Hp × Int32) :=
  bdr (f_X8_isSet a1 a2) fun x1 =>
  if x1 = 0 then (
    some (h, (-2 : Int32)))
  else (
    ck a1 3 (
      nm (ia h 77 a1) fun x2 =>
      ck a1 3 (nm (ux h 77 a1 a2) fun h3 =>
      some (h3, x2))))
theorem dX8_wire_0 : decode cX8_wire 0 = .ok (.iload_n 1, 1) := by decide +kernel
theorem dX8_wire_1 : decode cX8_wire 1 = .ok (.iload_n 2, 1) := by decide +kernel
theorem dX8_wire_2 : decode cX8_wire 2 = .ok (.invokestatic 165, 3) := by decide +kernel
theorem dX8_wire_5 : decode cX8_wire 5 = .ok (.ifCond .ne 6, 3) := by decide +kernel
theorem dX8_wire_8 : decode cX8_wire 8 = .ok (.bipush (-2), 2) := by decide +kernel
theorem dX8_wire_10 : decode cX8_wire 10 = .ok (.ireturn, 1) := by decide +kernel
theorem dX8_wire_11 : decode cX8_wire 11 = .ok (.aload_n 0, 1) := by decide +kernel
theorem dX8_wire_12 : decode cX8_wire 12 = .ok (.getfield 34, 3) := by decide +kernel
theorem dX8_wire_15 : decode cX8_wire 15 = .ok (.iload_n 1, 1) := by decide +kernel
theorem dX8_wire_16 : decode cX8_wire 16 = .ok (.iaload, 1) := by decide +kernel
theorem dX8_wire_17 : decode cX8_wire 17 = .ok (.istore_n 3, 1) := by decide +kernel
theorem dX8_wire_18 : decode cX8_wire 18 = .ok (.aload_n 0, 1) := by decide +kernel
theorem dX8_wire_19 : decode cX8_wire 19 = .ok (.getfield 34, 3) := by decide +kernel
theorem dX8_wire_22 : decode cX8_wire 22 = .ok (.iload_n 1, 1) := by decide +kernel
theorem dX8_wire_23 : decode cX8_wire 23 = .ok (.iload_n 2, 1) := by decide +kernel
theorem dX8_wire_24 : decode cX8_wire 24 = .ok (.iastore, 1) := by decide +kernel
theorem dX8_wire_25 : decode cX8_wire 25 = .ok (.iload_n 3, 1) := by decide +kernel
theorem dX8_wire_26 : decode cX8_wire 26 = .ok (.ireturn, 1) := by decide +kernel
set_option maxRecDepth 20000 in
theorem m_X8_wire {h : Hp} {a1 : Int32} {a2 : Int32}  {u : (Hp × Int32)} (hu : f_X8_wire h a1 a2 = some u) : Ct yX8_wire cX8_wire 4 (some .int) 2 [.ref 68, .int a1, .int a2] h (eI u) := by
  refine ct_of eI hu (by decide) (Nat.le_of_ble_eq_true rfl) (fun κ hn C E => ?_)
  have n3 : 3 < kn κ := by rw [hn]; decide
  unfold f_X8_wire
  show Xz κ _ 0 [(0, .ref 68), (1, .int a1), (2, .int a2)] [] h
  refine x_iload_n 1 C dX8_wire_0 1 rfl rfl rfl ?_
  refine x_iload_n 2 C dX8_wire_1 2 rfl rfl rfl ?_
  refine x_csi 5 [.int a1, .int a2] [] C 1 dX8_wire_2 s_X8_165 (fun u hu => m_X8_isSet hu) rfl rfl (Nat.le_of_ble_eq_true rfl) (Nat.le_of_ble_eq_true rfl) rfl (fun x1 => ?_)
  refine x_if_ne 8 11 C dX8_wire_5 (by decide) rfl (fun _ => ?_) (fun _ => ?_)
  · refine x_aload_n 12 C dX8_wire_11 0 rfl rfl rfl ?_
    refine x_getR (c := 77) 15 C dX8_wire_12 fl_X8_34 sk_68 rfl sr_68_11 rfl ?_
    refine x_iload_n 16 C dX8_wire_15 1 rfl rfl rfl ?_
    refine x_iald 17 C dX8_wire_16 sk_77 sl_77 rfl ?_
    refine x_ni (fun x2 => ?_)
    refine x_istore_n 18 [(3, .int x2), (0, .ref 68), (1, .int a1), (2, .int a2)] C dX8_wire_17 n3 rfl rfl rfl ?_
    refine x_aload_n 19 C dX8_wire_18 1 rfl rfl rfl ?_
    refine x_getR (c := 77) 22 C dX8_wire_19 fl_X8_34 sk_68 rfl sr_68_11 rfl ?_
    refine x_iload_n 23 C dX8_wire_22 2 rfl rfl rfl ?_
    refine x_iload_n 24 C dX8_wire_23 3 rfl rfl rfl ?_
    refine x_iast 25 C dX8_wire_24 sk_77 sl_77 rfl (fun h3 => ?_)
    refine x_iload_n 26 C dX8_wire_25 0 rfl rfl rfl ?_
    exact x_iret C E dX8_wire_26 rfl
  · refine x_bipush 10 C dX8_wire_8 cb_m2 rfl ?_
    exact x_iret C E dX8_wire_10 rfl
