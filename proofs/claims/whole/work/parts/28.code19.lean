def f_X8_walkerBetter (h : Hp) (a1 : Int32) (a2 : Int32) (a3 : Int32) : Option (Hp × Int32) :=
  ck a1 18 (
    nm (ia h 75 a1) fun x1 =>
    lt3 (fun (h2 : Hp) (x3 : Int32) (x4 : Int32) =>
      ck a1 18 (nm (ux h2 75 a1 x1) fun h5 =>
      if a3 = 0 then (
        some (h5, x3))
      else (
        some (h5, x4)))) fun k1 =>
    fx4 FU (fun s2 (h6 : Hp) (x7 : Int32) (x8 : Int32) (x9 : Int32) =>
      if a2 ≤ x9 then (
        k1 h6 x7 x8)
      else (
        ck a1 18 (nm (ux h6 75 a1 x9) fun h10 =>
        bdv (f_X8_lives h10) fun h11 =>
        bdr (f_X8_many h11 (2 : Int32)) fun x12 =>
        lt1 (fun (x13 : Int32) =>
          bdr (f_X8_greater x12 x8) fun x14 =>
          nm (x9 + (1 : Int32)) fun x15 =>
          s2 h11 x13 x14 x15) fun k3 =>
        if x12 ≤ x8 then (
          k3 x7)
        else (
          k3 x9)))) h (-1 : Int32) (-1 : Int32) (0 : Int32))
theorem dX8_walkerBetter_0 : decode cX8_walkerBetter 0 = .ok (.aload_n 0, 1) := by decide +kernel
theorem dX8_walkerBetter_1 : decode cX8_walkerBetter 1 = .ok (.getfield 28, 3) := by decide +kernel
theorem dX8_walkerBetter_4 : decode cX8_walkerBetter 4 = .ok (.iload_n 1, 1) := by decide +kernel
theorem dX8_walkerBetter_5 : decode cX8_walkerBetter 5 = .ok (.iaload, 1) := by decide +kernel
theorem dX8_walkerBetter_6 : decode cX8_walkerBetter 6 = .ok (.istore 4, 2) := by decide +kernel
theorem dX8_walkerBetter_8 : decode cX8_walkerBetter 8 = .ok (.iconst (-1), 1) := by decide +kernel
theorem dX8_walkerBetter_9 : decode cX8_walkerBetter 9 = .ok (.istore 5, 2) := by decide +kernel
theorem dX8_walkerBetter_11 : decode cX8_walkerBetter 11 = .ok (.iconst (-1), 1) := by decide +kernel
theorem dX8_walkerBetter_12 : decode cX8_walkerBetter 12 = .ok (.istore 6, 2) := by decide +kernel
theorem dX8_walkerBetter_14 : decode cX8_walkerBetter 14 = .ok (.iconst 0, 1) := by decide +kernel
theorem dX8_walkerBetter_15 : decode cX8_walkerBetter 15 = .ok (.istore 7, 2) := by decide +kernel
theorem dX8_walkerBetter_17 : decode cX8_walkerBetter 17 = .ok (.iload 7, 2) := by decide +kernel
theorem dX8_walkerBetter_19 : decode cX8_walkerBetter 19 = .ok (.iload_n 2, 1) := by decide +kernel
theorem dX8_walkerBetter_20 : decode cX8_walkerBetter 20 = .ok (.if_icmp .ge 53, 3) := by decide +kernel
theorem dX8_walkerBetter_23 : decode cX8_walkerBetter 23 = .ok (.aload_n 0, 1) := by decide +kernel
theorem dX8_walkerBetter_24 : decode cX8_walkerBetter 24 = .ok (.getfield 28, 3) := by decide +kernel
theorem dX8_walkerBetter_27 : decode cX8_walkerBetter 27 = .ok (.iload_n 1, 1) := by decide +kernel
theorem dX8_walkerBetter_28 : decode cX8_walkerBetter 28 = .ok (.iload 7, 2) := by decide +kernel
theorem dX8_walkerBetter_30 : decode cX8_walkerBetter 30 = .ok (.iastore, 1) := by decide +kernel
theorem dX8_walkerBetter_31 : decode cX8_walkerBetter 31 = .ok (.aload_n 0, 1) := by decide +kernel
theorem dX8_walkerBetter_32 : decode cX8_walkerBetter 32 = .ok (.invokevirtual 217, 3) := by decide +kernel
theorem dX8_walkerBetter_35 : decode cX8_walkerBetter 35 = .ok (.aload_n 0, 1) := by decide +kernel
theorem dX8_walkerBetter_36 : decode cX8_walkerBetter 36 = .ok (.iconst 2, 1) := by decide +kernel
theorem dX8_walkerBetter_37 : decode cX8_walkerBetter 37 = .ok (.invokevirtual 229, 3) := by decide +kernel
theorem dX8_walkerBetter_40 : decode cX8_walkerBetter 40 = .ok (.istore 8, 2) := by decide +kernel
theorem dX8_walkerBetter_42 : decode cX8_walkerBetter 42 = .ok (.iload 8, 2) := by decide +kernel
theorem dX8_walkerBetter_44 : decode cX8_walkerBetter 44 = .ok (.iload 6, 2) := by decide +kernel
theorem dX8_walkerBetter_46 : decode cX8_walkerBetter 46 = .ok (.if_icmp .le 8, 3) := by decide +kernel
theorem dX8_walkerBetter_49 : decode cX8_walkerBetter 49 = .ok (.iload 7, 2) := by decide +kernel
theorem dX8_walkerBetter_51 : decode cX8_walkerBetter 51 = .ok (.goto 5, 3) := by decide +kernel
theorem dX8_walkerBetter_54 : decode cX8_walkerBetter 54 = .ok (.iload 5, 2) := by decide +kernel
theorem dX8_walkerBetter_56 : decode cX8_walkerBetter 56 = .ok (.istore 5, 2) := by decide +kernel
theorem dX8_walkerBetter_58 : decode cX8_walkerBetter 58 = .ok (.iload 8, 2) := by decide +kernel
theorem dX8_walkerBetter_60 : decode cX8_walkerBetter 60 = .ok (.iload 6, 2) := by decide +kernel
theorem dX8_walkerBetter_62 : decode cX8_walkerBetter 62 = .ok (.invokestatic 210, 3) := by decide +kernel
theorem dX8_walkerBetter_65 : decode cX8_walkerBetter 65 = .ok (.istore 6, 2) := by decide +kernel
theorem dX8_walkerBetter_67 : decode cX8_walkerBetter 67 = .ok (.iinc 7 1, 3) := by decide +kernel
theorem dX8_walkerBetter_70 : decode cX8_walkerBetter 70 = .ok (.goto (-53), 3) := by decide +kernel
theorem dX8_walkerBetter_73 : decode cX8_walkerBetter 73 = .ok (.aload_n 0, 1) := by decide +kernel
theorem dX8_walkerBetter_74 : decode cX8_walkerBetter 74 = .ok (.getfield 28, 3) := by decide +kernel
theorem dX8_walkerBetter_77 : decode cX8_walkerBetter 77 = .ok (.iload_n 1, 1) := by decide +kernel
theorem dX8_walkerBetter_78 : decode cX8_walkerBetter 78 = .ok (.iload 4, 2) := by decide +kernel
theorem dX8_walkerBetter_80 : decode cX8_walkerBetter 80 = .ok (.iastore, 1) := by decide +kernel
theorem dX8_walkerBetter_81 : decode cX8_walkerBetter 81 = .ok (.iload_n 3, 1) := by decide +kernel
theorem dX8_walkerBetter_82 : decode cX8_walkerBetter 82 = .ok (.ifCond .ne 8, 3) := by decide +kernel
theorem dX8_walkerBetter_85 : decode cX8_walkerBetter 85 = .ok (.iload 5, 2) := by decide +kernel
theorem dX8_walkerBetter_87 : decode cX8_walkerBetter 87 = .ok (.goto 5, 3) := by decide +kernel
theorem dX8_walkerBetter_90 : decode cX8_walkerBetter 90 = .ok (.iload 6, 2) := by decide +kernel
theorem dX8_walkerBetter_92 : decode cX8_walkerBetter 92 = .ok (.ireturn, 1) := by decide +kernel
set_option maxRecDepth 20000 in
theorem m_X8_walkerBetter {h : Hp} {a1 : Int32} {a2 : Int32} {a3 : Int32}  {u : (Hp × Int32)} (hu : f_X8_walkerBetter h a1 a2 a3 = some u) : Ct yX8_walkerBetter cX8_walkerBetter 9 (some .int) 6 [.ref 68, .int a1, .int a2, .int a3] h (eI u) := by
  refine ct_of eI hu (by decide) (Nat.le_of_ble_eq_true rfl) (fun κ hn C E => ?_)
  have n4 : 4 < kn κ := by rw [hn]; decide
  have n5 : 5 < kn κ := by rw [hn]; decide
  have n6 : 6 < kn κ := by rw [hn]; decide
  have n7 : 7 < kn κ := by rw [hn]; decide
  have n8 : 8 < kn κ := by rw [hn]; decide
  unfold f_X8_walkerBetter
  show Xz κ _ 0 [(0, .ref 68), (1, .int a1), (2, .int a2), (3, .int a3)] [] h
  refine x_aload_n 1 C dX8_walkerBetter_0 0 rfl rfl rfl ?_
  refine x_getR (c := 75) 4 C dX8_walkerBetter_1 fl_X8_28 sk_68 rfl sr_68_8 rfl ?_
  refine x_iload_n 5 C dX8_walkerBetter_4 1 rfl rfl rfl ?_
  refine x_iald 6 C dX8_walkerBetter_5 sk_75 sl_75 rfl ?_
  refine x_ni (fun x1 => ?_)
  refine x_istore 8 [(4, .int x1), (0, .ref 68), (1, .int a1), (2, .int a2), (3, .int a3)] C dX8_walkerBetter_6 n4 rfl rfl ?_
  refine x_iconst 9 C dX8_walkerBetter_8 ci_m1 rfl ?_
  refine x_istore 11 [(5, .int (-1 : Int32)), (4, .int x1), (0, .ref 68), (1, .int a1), (2, .int a2), (3, .int a3)] C dX8_walkerBetter_9 n5 rfl rfl ?_
  refine x_iconst 12 C dX8_walkerBetter_11 ci_m1 rfl ?_
  refine x_istore 14 [(6, .int (-1 : Int32)), (5, .int (-1 : Int32)), (4, .int x1), (0, .ref 68), (1, .int a1), (2, .int a2), (3, .int a3)] C dX8_walkerBetter_12 n6 rfl rfl ?_
  refine x_iconst 15 C dX8_walkerBetter_14 ci_0 rfl ?_
  refine x_istore 17 [(7, .int (0 : Int32)), (6, .int (-1 : Int32)), (5, .int (-1 : Int32)), (4, .int x1), (0, .ref 68), (1, .int a1), (2, .int a2), (3, .int a3)] C dX8_walkerBetter_15 n7 rfl rfl ?_
  refine x_lt3 (q := 73) (ls := fun h2 x3 x4 => [(0, .ref 68), (1, .int a1), (3, .int a3), (4, .int x1), (5, .int x3), (6, .int x4)]) (st := fun h2 x3 x4 => []) (hh := fun h2 x3 x4 => h2) (fun h2 x3 x4 => ?_) (fun k1 J1 => ?_)
  · refine x_aload_n 74 C dX8_walkerBetter_73 0 rfl rfl rfl ?_
    refine x_getR (c := 75) 77 C dX8_walkerBetter_74 fl_X8_28 sk_68 rfl sr_68_8 rfl ?_
    refine x_iload_n 78 C dX8_walkerBetter_77 1 rfl rfl rfl ?_
    refine x_iload 80 C dX8_walkerBetter_78 3 rfl rfl ?_
    refine x_iast 81 C dX8_walkerBetter_80 sk_75 sl_75 rfl (fun h5 => ?_)
    refine x_iload_n 82 C dX8_walkerBetter_81 2 rfl rfl rfl ?_
    refine x_if_ne 85 90 C dX8_walkerBetter_82 (by decide) rfl (fun _ => ?_) (fun _ => ?_)
    · refine x_iload 92 C dX8_walkerBetter_90 5 rfl rfl ?_
      exact x_iret C E dX8_walkerBetter_92 rfl
    · refine x_iload 87 C dX8_walkerBetter_85 4 rfl rfl ?_
      refine x_goto 92 C dX8_walkerBetter_87 (by decide) ?_
      exact x_iret C E dX8_walkerBetter_92 rfl
  refine x_ls [4, 5, 6, 7, 3, 2, 1, 0] rfl (x_fx4 (ls := fun h6 x7 x8 x9 => [(0, .ref 68), (1, .int a1), (2, .int a2), (3, .int a3), (4, .int x1), (5, .int x7), (6, .int x8), (7, .int x9)]) (st := fun h6 x7 x8 x9 => []) (hh := fun h6 x7 x8 x9 => h6) (fun s2 J2 h6 x7 x8 x9 => ?_))
  refine x_iload 19 C dX8_walkerBetter_17 7 rfl rfl ?_
  refine x_iload_n 20 C dX8_walkerBetter_19 2 rfl rfl rfl ?_
  refine x_icmp_ge 23 73 C dX8_walkerBetter_20 (by decide) rfl (fun _ => ?_) (fun _ => ?_)
  · exact x_ls [0, 1, 3, 4, 5, 6] rfl (J1 h6 x7 x8)
  · refine x_aload_n 24 C dX8_walkerBetter_23 0 rfl rfl rfl ?_
    refine x_getR (c := 75) 27 C dX8_walkerBetter_24 fl_X8_28 sk_68 rfl sr_68_8 rfl ?_
    refine x_iload_n 28 C dX8_walkerBetter_27 1 rfl rfl rfl ?_
    refine x_iload 30 C dX8_walkerBetter_28 7 rfl rfl ?_
    refine x_iast 31 C dX8_walkerBetter_30 sk_75 sl_75 rfl (fun h10 => ?_)
    refine x_aload_n 32 C dX8_walkerBetter_31 0 rfl rfl rfl ?_
    refine x_cvV 35 [] [] C 5 dX8_walkerBetter_32 v_X8_217 (fun u hu => m_X8_lives hu) rfl sk_68 rfl (Nat.le_of_ble_eq_true rfl) (Nat.le_of_ble_eq_true rfl) rfl (fun h11 => ?_)
    refine x_aload_n 36 C dX8_walkerBetter_35 0 rfl rfl rfl ?_
    refine x_iconst 37 C dX8_walkerBetter_36 ci_2 rfl ?_
    refine x_cvi 40 [.int (2 : Int32)] [] C 0 dX8_walkerBetter_37 v_X8_229 (fun u hu => m_X8_many hu) rfl sk_68 rfl (Nat.le_of_ble_eq_true rfl) (Nat.le_of_ble_eq_true rfl) rfl (fun x12 => ?_)
    refine x_istore 42 [(8, .int x12), (0, .ref 68), (1, .int a1), (2, .int a2), (3, .int a3), (4, .int x1), (5, .int x7), (6, .int x8), (7, .int x9)] C dX8_walkerBetter_40 n8 rfl rfl ?_
    refine x_iload 44 C dX8_walkerBetter_42 0 rfl rfl ?_
    refine x_iload 46 C dX8_walkerBetter_44 7 rfl rfl ?_
    refine x_lt1 (q := 56) (ls := fun x13 => [(0, .ref 68), (1, .int a1), (2, .int a2), (3, .int a3), (4, .int x1), (6, .int x8), (7, .int x9), (8, .int x12)]) (st := fun x13 => [.int x13]) (hh := fun x13 => h11) (fun x13 => ?_) (fun k3 J3 => ?_)
    · refine x_istore 58 [(5, .int x13), (0, .ref 68), (1, .int a1), (2, .int a2), (3, .int a3), (4, .int x1), (6, .int x8), (7, .int x9), (8, .int x12)] C dX8_walkerBetter_56 n5 rfl rfl ?_
      refine x_iload 60 C dX8_walkerBetter_58 8 rfl rfl ?_
      refine x_iload 62 C dX8_walkerBetter_60 6 rfl rfl ?_
      refine x_csi 65 [.int x12, .int x8] [] C 0 dX8_walkerBetter_62 s_X8_210 (fun u hu => m_X8_greater hu) rfl rfl (Nat.le_of_ble_eq_true rfl) (Nat.le_of_ble_eq_true rfl) rfl (fun x14 => ?_)
      refine x_istore 67 [(6, .int x14), (5, .int x13), (0, .ref 68), (1, .int a1), (2, .int a2), (3, .int a3), (4, .int x1), (7, .int x9), (8, .int x12)] C dX8_walkerBetter_65 n6 rfl rfl ?_
      refine x_iinc 70 (fun x15 => [(7, .int x15), (6, .int x14), (5, .int x13), (0, .ref 68), (1, .int a1), (2, .int a2), (3, .int a3), (4, .int x1), (8, .int x12)]) C dX8_walkerBetter_67 7 rfl ci_1 n7 (fun _ => rfl) rfl (fun x15 => ?_)
      refine x_goto 17 C dX8_walkerBetter_70 (by decide) ?_
      exact x_ls [3, 4, 5, 6, 7, 2, 1, 0] rfl (J2 h11 x13 x14 x15)
    refine x_icmp_le 49 54 C dX8_walkerBetter_46 (by decide) rfl (fun _ => ?_) (fun _ => ?_)
    · refine x_iload 56 C dX8_walkerBetter_54 6 rfl rfl ?_
      exact x_ls [1, 2, 3, 4, 5, 7, 8, 0] rfl (J3 x7)
    · refine x_iload 51 C dX8_walkerBetter_49 8 rfl rfl ?_
      refine x_goto 56 C dX8_walkerBetter_51 (by decide) ?_
      exact x_ls [1, 2, 3, 4, 5, 7, 8, 0] rfl (J3 x9)

def f_X8_start (h : Hp) (a1 : Int32) (a2 : Int32) : Option (Hp × Int32) :=
  bdv (f_X8_find h) fun h1 =>
  bdr (f_X8_isWalker h1 a1) fun x2 =>
  if x2 = 0 then (
    some (h1, (-2 : Int32)))
  else (
    bdr (f_X8_isTwo a2) fun x3 =>
    if x3 = 0 then (
      some (h1, (-2 : Int32)))
    else (
      bnd (f_X8_walkerBetter h1 ((3 : Int32) * a1) (24 : Int32) a2) fun h4 x5 =>
      some (h4, x5)))
theorem dX8_start_0 : decode cX8_start 0 = .ok (.aload_n 0, 1) := by decide +kernel
theorem dX8_start_1 : decode cX8_start 1 = .ok (.invokevirtual 220, 3) := by decide +kernel
theorem dX8_start_4 : decode cX8_start 4 = .ok (.aload_n 0, 1) := by decide +kernel
theorem dX8_start_5 : decode cX8_start 5 = .ok (.iload_n 1, 1) := by decide +kernel
theorem dX8_start_6 : decode cX8_start 6 = .ok (.invokevirtual 151, 3) := by decide +kernel
theorem dX8_start_9 : decode cX8_start 9 = .ok (.ifCond .eq 23, 3) := by decide +kernel
theorem dX8_start_12 : decode cX8_start 12 = .ok (.iload_n 2, 1) := by decide +kernel
theorem dX8_start_13 : decode cX8_start 13 = .ok (.invokestatic 114, 3) := by decide +kernel
theorem dX8_start_16 : decode cX8_start 16 = .ok (.ifCond .eq 16, 3) := by decide +kernel
theorem dX8_start_19 : decode cX8_start 19 = .ok (.aload_n 0, 1) := by decide +kernel
theorem dX8_start_20 : decode cX8_start 20 = .ok (.iconst 3, 1) := by decide +kernel
theorem dX8_start_21 : decode cX8_start 21 = .ok (.iload_n 1, 1) := by decide +kernel
theorem dX8_start_22 : decode cX8_start 22 = .ok (.imul, 1) := by decide +kernel
theorem dX8_start_23 : decode cX8_start 23 = .ok (.bipush 24, 2) := by decide +kernel
theorem dX8_start_25 : decode cX8_start 25 = .ok (.iload_n 2, 1) := by decide +kernel
theorem dX8_start_26 : decode cX8_start 26 = .ok (.invokevirtual 247, 3) := by decide +kernel
theorem dX8_start_29 : decode cX8_start 29 = .ok (.goto 5, 3) := by decide +kernel
theorem dX8_start_32 : decode cX8_start 32 = .ok (.bipush (-2), 2) := by decide +kernel
theorem dX8_start_34 : decode cX8_start 34 = .ok (.ireturn, 1) := by decide +kernel
set_option maxRecDepth 20000 in
theorem m_X8_start {h : Hp} {a1 : Int32} {a2 : Int32}  {u : (Hp × Int32)} (hu : f_X8_start h a1 a2 = some u) : Ct yX8_start cX8_start 3 (some .int) 7 [.ref 68, .int a1, .int a2] h (eI u) := by
  refine ct_of eI hu (by decide) (Nat.le_of_ble_eq_true rfl) (fun κ hn C E => ?_)
  unfold f_X8_start
  show Xz κ _ 0 [(0, .ref 68), (1, .int a1), (2, .int a2)] [] h
  refine x_aload_n 1 C dX8_start_0 0 rfl rfl rfl ?_
  refine x_cvV 4 [] [] C 6 dX8_start_1 v_X8_220 (fun u hu => m_X8_find hu) rfl sk_68 rfl (Nat.le_of_ble_eq_true rfl) (Nat.le_of_ble_eq_true rfl) rfl (fun h1 => ?_)
  refine x_aload_n 5 C dX8_start_4 0 rfl rfl rfl ?_
  refine x_iload_n 6 C dX8_start_5 1 rfl rfl rfl ?_
  refine x_cvi 9 [.int a1] [] C 1 dX8_start_6 v_X8_151 (fun u hu => m_X8_isWalker hu) rfl sk_68 rfl (Nat.le_of_ble_eq_true rfl) (Nat.le_of_ble_eq_true rfl) rfl (fun x2 => ?_)
  refine x_if_eq 12 32 C dX8_start_9 (by decide) rfl (fun _ => ?_) (fun _ => ?_)
  · refine x_bipush 34 C dX8_start_32 cb_m2 rfl ?_
    exact x_iret C E dX8_start_34 rfl
  · refine x_iload_n 13 C dX8_start_12 2 rfl rfl rfl ?_
    refine x_csi 16 [.int a2] [] C 1 dX8_start_13 s_X8_114 (fun u hu => m_X8_isTwo hu) rfl rfl (Nat.le_of_ble_eq_true rfl) (Nat.le_of_ble_eq_true rfl) rfl (fun x3 => ?_)
    refine x_if_eq 19 32 C dX8_start_16 (by decide) rfl (fun _ => ?_) (fun _ => ?_)
    · refine x_bipush 34 C dX8_start_32 cb_m2 rfl ?_
      exact x_iret C E dX8_start_34 rfl
    · refine x_aload_n 20 C dX8_start_19 0 rfl rfl rfl ?_
      refine x_iconst 21 C dX8_start_20 ci_3 rfl ?_
      refine x_iload_n 22 C dX8_start_21 1 rfl rfl rfl ?_
      refine x_imul 23 C dX8_start_22 rfl ?_
      refine x_bipush 25 C dX8_start_23 cb_24 rfl ?_
      refine x_iload_n 26 C dX8_start_25 2 rfl rfl rfl ?_
      refine x_cvI 29 [.int ((3 : Int32) * a1), .int (24 : Int32), .int a2] [] C 6 dX8_start_26 v_X8_247 (fun u hu => m_X8_walkerBetter hu) rfl sk_68 rfl (Nat.le_of_ble_eq_true rfl) (Nat.le_of_ble_eq_true rfl) rfl (fun h4 x5 => ?_)
      refine x_goto 34 C dX8_start_29 (by decide) ?_
      exact x_iret C E dX8_start_34 rfl

def f_X8_hold (h : Hp) (a1 : Int32) (a2 : Int32) : Option (Hp × Int32) :=
  bdv (f_X8_find h) fun h1 =>
  bdr (f_X8_isWalker h1 a1) fun x2 =>
  if x2 = 0 then (
    some (h1, (-2 : Int32)))
  else (
    bdr (f_X8_isTwo a2) fun x3 =>
    if x3 = 0 then (
      some (h1, (-2 : Int32)))
    else (
      bnd (f_X8_walkerBetter h1 (((3 : Int32) * a1) + (2 : Int32)) (10 : Int32) a2) fun h4 x5 =>
      some (h4, x5)))
theorem dX8_hold_0 : decode cX8_hold 0 = .ok (.aload_n 0, 1) := by decide +kernel
theorem dX8_hold_1 : decode cX8_hold 1 = .ok (.invokevirtual 220, 3) := by decide +kernel
theorem dX8_hold_4 : decode cX8_hold 4 = .ok (.aload_n 0, 1) := by decide +kernel
theorem dX8_hold_5 : decode cX8_hold 5 = .ok (.iload_n 1, 1) := by decide +kernel
theorem dX8_hold_6 : decode cX8_hold 6 = .ok (.invokevirtual 151, 3) := by decide +kernel
theorem dX8_hold_9 : decode cX8_hold 9 = .ok (.ifCond .eq 25, 3) := by decide +kernel
theorem dX8_hold_12 : decode cX8_hold 12 = .ok (.iload_n 2, 1) := by decide +kernel
theorem dX8_hold_13 : decode cX8_hold 13 = .ok (.invokestatic 114, 3) := by decide +kernel
theorem dX8_hold_16 : decode cX8_hold 16 = .ok (.ifCond .eq 18, 3) := by decide +kernel
theorem dX8_hold_19 : decode cX8_hold 19 = .ok (.aload_n 0, 1) := by decide +kernel
theorem dX8_hold_20 : decode cX8_hold 20 = .ok (.iconst 3, 1) := by decide +kernel
theorem dX8_hold_21 : decode cX8_hold 21 = .ok (.iload_n 1, 1) := by decide +kernel
theorem dX8_hold_22 : decode cX8_hold 22 = .ok (.imul, 1) := by decide +kernel
theorem dX8_hold_23 : decode cX8_hold 23 = .ok (.iconst 2, 1) := by decide +kernel
theorem dX8_hold_24 : decode cX8_hold 24 = .ok (.iadd, 1) := by decide +kernel
theorem dX8_hold_25 : decode cX8_hold 25 = .ok (.bipush 10, 2) := by decide +kernel
theorem dX8_hold_27 : decode cX8_hold 27 = .ok (.iload_n 2, 1) := by decide +kernel
theorem dX8_hold_28 : decode cX8_hold 28 = .ok (.invokevirtual 247, 3) := by decide +kernel
theorem dX8_hold_31 : decode cX8_hold 31 = .ok (.goto 5, 3) := by decide +kernel
theorem dX8_hold_34 : decode cX8_hold 34 = .ok (.bipush (-2), 2) := by decide +kernel
theorem dX8_hold_36 : decode cX8_hold 36 = .ok (.ireturn, 1) := by decide +kernel
set_option maxRecDepth 20000 in
theorem m_X8_hold {h : Hp} {a1 : Int32} {a2 : Int32}  {u : (Hp × Int32)} (hu : f_X8_hold h a1 a2 = some u) : Ct yX8_hold cX8_hold 3 (some .int) 7 [.ref 68, .int a1, .int a2] h (eI u) := by
  refine ct_of eI hu (by decide) (Nat.le_of_ble_eq_true rfl) (fun κ hn C E => ?_)
  unfold f_X8_hold
  show Xz κ _ 0 [(0, .ref 68), (1, .int a1), (2, .int a2)] [] h
  refine x_aload_n 1 C dX8_hold_0 0 rfl rfl rfl ?_
  refine x_cvV 4 [] [] C 6 dX8_hold_1 v_X8_220 (fun u hu => m_X8_find hu) rfl sk_68 rfl (Nat.le_of_ble_eq_true rfl) (Nat.le_of_ble_eq_true rfl) rfl (fun h1 => ?_)
  refine x_aload_n 5 C dX8_hold_4 0 rfl rfl rfl ?_
  refine x_iload_n 6 C dX8_hold_5 1 rfl rfl rfl ?_
  refine x_cvi 9 [.int a1] [] C 1 dX8_hold_6 v_X8_151 (fun u hu => m_X8_isWalker hu) rfl sk_68 rfl (Nat.le_of_ble_eq_true rfl) (Nat.le_of_ble_eq_true rfl) rfl (fun x2 => ?_)
  refine x_if_eq 12 34 C dX8_hold_9 (by decide) rfl (fun _ => ?_) (fun _ => ?_)
  · refine x_bipush 36 C dX8_hold_34 cb_m2 rfl ?_
    exact x_iret C E dX8_hold_36 rfl
  · refine x_iload_n 13 C dX8_hold_12 2 rfl rfl rfl ?_
    refine x_csi 16 [.int a2] [] C 1 dX8_hold_13 s_X8_114 (fun u hu => m_X8_isTwo hu) rfl rfl (Nat.le_of_ble_eq_true rfl) (Nat.le_of_ble_eq_true rfl) rfl (fun x3 => ?_)
    refine x_if_eq 19 34 C dX8_hold_16 (by decide) rfl (fun _ => ?_) (fun _ => ?_)
    · refine x_bipush 36 C dX8_hold_34 cb_m2 rfl ?_
      exact x_iret C E dX8_hold_36 rfl
    · refine x_aload_n 20 C dX8_hold_19 0 rfl rfl rfl ?_
      refine x_iconst 21 C dX8_hold_20 ci_3 rfl ?_
      refine x_iload_n 22 C dX8_hold_21 1 rfl rfl rfl ?_
      refine x_imul 23 C dX8_hold_22 rfl ?_
      refine x_iconst 24 C dX8_hold_23 ci_2 rfl ?_
      refine x_iadd 25 C dX8_hold_24 rfl ?_
      refine x_bipush 27 C dX8_hold_25 cb_10 rfl ?_
      refine x_iload_n 28 C dX8_hold_27 2 rfl rfl rfl ?_
      refine x_cvI 31 [.int (((3 : Int32) * a1) + (2 : Int32)), .int (10 : Int32), .int a2] [] C 6 dX8_hold_28 v_X8_247 (fun u hu => m_X8_walkerBetter hu) rfl sk_68 rfl (Nat.le_of_ble_eq_true rfl) (Nat.le_of_ble_eq_true rfl) rfl (fun h4 x5 => ?_)
      refine x_goto 36 C dX8_hold_31 (by decide) ?_
      exact x_iret C E dX8_hold_36 rfl

def f_X8_actOf (h : Hp) (a1 : Int32) (a2 : Int32) : Option (Hp × Int32) :=
  ck a1 24 (
    nm (ia h 76 a1) fun x1 =>
    lt3 (fun (h2 : Hp) (x3 : Int32) (x4 : Int32) =>
      ck a1 24 (nm (ux h2 76 a1 x1) fun h5 =>
      if a2 = 0 then (
        some (h5, x3))
      else (
        some (h5, x4)))) fun k1 =>
    fx4 FU (fun s2 (h6 : Hp) (x7 : Int32) (x8 : Int32) (x9 : Int32) =>
      if (4 : Int32) ≤ x9 then (
        k1 h6 x7 x8)
      else (
        ck a1 24 (nm (ux h6 76 a1 x9) fun h10 =>
        bdv (f_X8_lives h10) fun h11 =>
        bdr (f_X8_many h11 (2 : Int32)) fun x12 =>
        lt1 (fun (x13 : Int32) =>
          bdr (f_X8_greater x12 x8) fun x14 =>
          nm (x9 + (1 : Int32)) fun x15 =>
          s2 h11 x13 x14 x15) fun k3 =>
        if x12 ≤ x8 then (
          k3 x7)
        else (
          k3 x9)))) h (-1 : Int32) (-1 : Int32) (0 : Int32))
theorem dX8_actOf_0 : decode cX8_actOf 0 = .ok (.aload_n 0, 1) := by decide +kernel
theorem dX8_actOf_1 : decode cX8_actOf 1 = .ok (.getfield 31, 3) := by decide +kernel
theorem dX8_actOf_4 : decode cX8_actOf 4 = .ok (.iload_n 1, 1) := by decide +kernel
theorem dX8_actOf_5 : decode cX8_actOf 5 = .ok (.iaload, 1) := by decide +kernel
theorem dX8_actOf_6 : decode cX8_actOf 6 = .ok (.istore_n 3, 1) := by decide +kernel
theorem dX8_actOf_7 : decode cX8_actOf 7 = .ok (.iconst (-1), 1) := by decide +kernel
theorem dX8_actOf_8 : decode cX8_actOf 8 = .ok (.istore 4, 2) := by decide +kernel
theorem dX8_actOf_10 : decode cX8_actOf 10 = .ok (.iconst (-1), 1) := by decide +kernel
theorem dX8_actOf_11 : decode cX8_actOf 11 = .ok (.istore 5, 2) := by decide +kernel
theorem dX8_actOf_13 : decode cX8_actOf 13 = .ok (.iconst 0, 1) := by decide +kernel
theorem dX8_actOf_14 : decode cX8_actOf 14 = .ok (.istore 6, 2) := by decide +kernel
theorem dX8_actOf_16 : decode cX8_actOf 16 = .ok (.iload 6, 2) := by decide +kernel
theorem dX8_actOf_18 : decode cX8_actOf 18 = .ok (.iconst 4, 1) := by decide +kernel
theorem dX8_actOf_19 : decode cX8_actOf 19 = .ok (.if_icmp .ge 53, 3) := by decide +kernel
theorem dX8_actOf_22 : decode cX8_actOf 22 = .ok (.aload_n 0, 1) := by decide +kernel
theorem dX8_actOf_23 : decode cX8_actOf 23 = .ok (.getfield 31, 3) := by decide +kernel
theorem dX8_actOf_26 : decode cX8_actOf 26 = .ok (.iload_n 1, 1) := by decide +kernel
theorem dX8_actOf_27 : decode cX8_actOf 27 = .ok (.iload 6, 2) := by decide +kernel
theorem dX8_actOf_29 : decode cX8_actOf 29 = .ok (.iastore, 1) := by decide +kernel
theorem dX8_actOf_30 : decode cX8_actOf 30 = .ok (.aload_n 0, 1) := by decide +kernel
theorem dX8_actOf_31 : decode cX8_actOf 31 = .ok (.invokevirtual 217, 3) := by decide +kernel
theorem dX8_actOf_34 : decode cX8_actOf 34 = .ok (.aload_n 0, 1) := by decide +kernel
theorem dX8_actOf_35 : decode cX8_actOf 35 = .ok (.iconst 2, 1) := by decide +kernel
theorem dX8_actOf_36 : decode cX8_actOf 36 = .ok (.invokevirtual 229, 3) := by decide +kernel
theorem dX8_actOf_39 : decode cX8_actOf 39 = .ok (.istore 7, 2) := by decide +kernel
theorem dX8_actOf_41 : decode cX8_actOf 41 = .ok (.iload 7, 2) := by decide +kernel
theorem dX8_actOf_43 : decode cX8_actOf 43 = .ok (.iload 5, 2) := by decide +kernel
theorem dX8_actOf_45 : decode cX8_actOf 45 = .ok (.if_icmp .le 8, 3) := by decide +kernel
theorem dX8_actOf_48 : decode cX8_actOf 48 = .ok (.iload 6, 2) := by decide +kernel
theorem dX8_actOf_50 : decode cX8_actOf 50 = .ok (.goto 5, 3) := by decide +kernel
theorem dX8_actOf_53 : decode cX8_actOf 53 = .ok (.iload 4, 2) := by decide +kernel
theorem dX8_actOf_55 : decode cX8_actOf 55 = .ok (.istore 4, 2) := by decide +kernel
theorem dX8_actOf_57 : decode cX8_actOf 57 = .ok (.iload 7, 2) := by decide +kernel
theorem dX8_actOf_59 : decode cX8_actOf 59 = .ok (.iload 5, 2) := by decide +kernel
theorem dX8_actOf_61 : decode cX8_actOf 61 = .ok (.invokestatic 210, 3) := by decide +kernel
theorem dX8_actOf_64 : decode cX8_actOf 64 = .ok (.istore 5, 2) := by decide +kernel
theorem dX8_actOf_66 : decode cX8_actOf 66 = .ok (.iinc 6 1, 3) := by decide +kernel
theorem dX8_actOf_69 : decode cX8_actOf 69 = .ok (.goto (-53), 3) := by decide +kernel
theorem dX8_actOf_72 : decode cX8_actOf 72 = .ok (.aload_n 0, 1) := by decide +kernel
theorem dX8_actOf_73 : decode cX8_actOf 73 = .ok (.getfield 31, 3) := by decide +kernel
theorem dX8_actOf_76 : decode cX8_actOf 76 = .ok (.iload_n 1, 1) := by decide +kernel
theorem dX8_actOf_77 : decode cX8_actOf 77 = .ok (.iload_n 3, 1) := by decide +kernel
theorem dX8_actOf_78 : decode cX8_actOf 78 = .ok (.iastore, 1) := by decide +kernel
theorem dX8_actOf_79 : decode cX8_actOf 79 = .ok (.iload_n 2, 1) := by decide +kernel
theorem dX8_actOf_80 : decode cX8_actOf 80 = .ok (.ifCond .ne 8, 3) := by decide +kernel
theorem dX8_actOf_83 : decode cX8_actOf 83 = .ok (.iload 4, 2) := by decide +kernel
theorem dX8_actOf_85 : decode cX8_actOf 85 = .ok (.goto 5, 3) := by decide +kernel
theorem dX8_actOf_88 : decode cX8_actOf 88 = .ok (.iload 5, 2) := by decide +kernel
theorem dX8_actOf_90 : decode cX8_actOf 90 = .ok (.ireturn, 1) := by decide +kernel
set_option maxRecDepth 20000 in
theorem m_X8_actOf {h : Hp} {a1 : Int32} {a2 : Int32}  {u : (Hp × Int32)} (hu : f_X8_actOf h a1 a2 = some u) : Ct yX8_actOf cX8_actOf 8 (some .int) 6 [.ref 68, .int a1, .int a2] h (eI u) := by
  refine ct_of eI hu (by decide) (Nat.le_of_ble_eq_true rfl) (fun κ hn C E => ?_)
  have n3 : 3 < kn κ := by rw [hn]; decide
  have n4 : 4 < kn κ := by rw [hn]; decide
  have n5 : 5 < kn κ := by rw [hn]; decide
  have n6 : 6 < kn κ := by rw [hn]; decide
  have n7 : 7 < kn κ := by rw [hn]; decide
  unfold f_X8_actOf
  show Xz κ _ 0 [(0, .ref 68), (1, .int a1), (2, .int a2)] [] h
  refine x_aload_n 1 C dX8_actOf_0 0 rfl rfl rfl ?_
  refine x_getR (c := 76) 4 C dX8_actOf_1 fl_X8_31 sk_68 rfl sr_68_10 rfl ?_
  refine x_iload_n 5 C dX8_actOf_4 1 rfl rfl rfl ?_
  refine x_iald 6 C dX8_actOf_5 sk_76 sl_76 rfl ?_
  refine x_ni (fun x1 => ?_)
  refine x_istore_n 7 [(3, .int x1), (0, .ref 68), (1, .int a1), (2, .int a2)] C dX8_actOf_6 n3 rfl rfl rfl ?_
  refine x_iconst 8 C dX8_actOf_7 ci_m1 rfl ?_
  refine x_istore 10 [(4, .int (-1 : Int32)), (3, .int x1), (0, .ref 68), (1, .int a1), (2, .int a2)] C dX8_actOf_8 n4 rfl rfl ?_
  refine x_iconst 11 C dX8_actOf_10 ci_m1 rfl ?_
  refine x_istore 13 [(5, .int (-1 : Int32)), (4, .int (-1 : Int32)), (3, .int x1), (0, .ref 68), (1, .int a1), (2, .int a2)] C dX8_actOf_11 n5 rfl rfl ?_
  refine x_iconst 14 C dX8_actOf_13 ci_0 rfl ?_
  refine x_istore 16 [(6, .int (0 : Int32)), (5, .int (-1 : Int32)), (4, .int (-1 : Int32)), (3, .int x1), (0, .ref 68), (1, .int a1), (2, .int a2)] C dX8_actOf_14 n6 rfl rfl ?_
  refine x_lt3 (q := 72) (ls := fun h2 x3 x4 => [(0, .ref 68), (1, .int a1), (2, .int a2), (3, .int x1), (4, .int x3), (5, .int x4)]) (st := fun h2 x3 x4 => []) (hh := fun h2 x3 x4 => h2) (fun h2 x3 x4 => ?_) (fun k1 J1 => ?_)
  · refine x_aload_n 73 C dX8_actOf_72 0 rfl rfl rfl ?_
    refine x_getR (c := 76) 76 C dX8_actOf_73 fl_X8_31 sk_68 rfl sr_68_10 rfl ?_
    refine x_iload_n 77 C dX8_actOf_76 1 rfl rfl rfl ?_
    refine x_iload_n 78 C dX8_actOf_77 3 rfl rfl rfl ?_
    refine x_iast 79 C dX8_actOf_78 sk_76 sl_76 rfl (fun h5 => ?_)
    refine x_iload_n 80 C dX8_actOf_79 2 rfl rfl rfl ?_
    refine x_if_ne 83 88 C dX8_actOf_80 (by decide) rfl (fun _ => ?_) (fun _ => ?_)
    · refine x_iload 90 C dX8_actOf_88 5 rfl rfl ?_
      exact x_iret C E dX8_actOf_90 rfl
    · refine x_iload 85 C dX8_actOf_83 4 rfl rfl ?_
      refine x_goto 90 C dX8_actOf_85 (by decide) ?_
      exact x_iret C E dX8_actOf_90 rfl
  refine x_ls [4, 5, 6, 3, 2, 1, 0] rfl (x_fx4 (ls := fun h6 x7 x8 x9 => [(0, .ref 68), (1, .int a1), (2, .int a2), (3, .int x1), (4, .int x7), (5, .int x8), (6, .int x9)]) (st := fun h6 x7 x8 x9 => []) (hh := fun h6 x7 x8 x9 => h6) (fun s2 J2 h6 x7 x8 x9 => ?_))
  refine x_iload 18 C dX8_actOf_16 6 rfl rfl ?_
  refine x_iconst 19 C dX8_actOf_18 ci_4 rfl ?_
  refine x_icmp_ge 22 72 C dX8_actOf_19 (by decide) rfl (fun _ => ?_) (fun _ => ?_)
  · exact x_ls [0, 1, 2, 3, 4, 5] rfl (J1 h6 x7 x8)
  · refine x_aload_n 23 C dX8_actOf_22 0 rfl rfl rfl ?_
    refine x_getR (c := 76) 26 C dX8_actOf_23 fl_X8_31 sk_68 rfl sr_68_10 rfl ?_
    refine x_iload_n 27 C dX8_actOf_26 1 rfl rfl rfl ?_
    refine x_iload 29 C dX8_actOf_27 6 rfl rfl ?_
    refine x_iast 30 C dX8_actOf_29 sk_76 sl_76 rfl (fun h10 => ?_)
    refine x_aload_n 31 C dX8_actOf_30 0 rfl rfl rfl ?_
    refine x_cvV 34 [] [] C 5 dX8_actOf_31 v_X8_217 (fun u hu => m_X8_lives hu) rfl sk_68 rfl (Nat.le_of_ble_eq_true rfl) (Nat.le_of_ble_eq_true rfl) rfl (fun h11 => ?_)
    refine x_aload_n 35 C dX8_actOf_34 0 rfl rfl rfl ?_
    refine x_iconst 36 C dX8_actOf_35 ci_2 rfl ?_
    refine x_cvi 39 [.int (2 : Int32)] [] C 0 dX8_actOf_36 v_X8_229 (fun u hu => m_X8_many hu) rfl sk_68 rfl (Nat.le_of_ble_eq_true rfl) (Nat.le_of_ble_eq_true rfl) rfl (fun x12 => ?_)
    refine x_istore 41 [(7, .int x12), (0, .ref 68), (1, .int a1), (2, .int a2), (3, .int x1), (4, .int x7), (5, .int x8), (6, .int x9)] C dX8_actOf_39 n7 rfl rfl ?_
    refine x_iload 43 C dX8_actOf_41 0 rfl rfl ?_
    refine x_iload 45 C dX8_actOf_43 6 rfl rfl ?_
    refine x_lt1 (q := 55) (ls := fun x13 => [(0, .ref 68), (1, .int a1), (2, .int a2), (3, .int x1), (5, .int x8), (6, .int x9), (7, .int x12)]) (st := fun x13 => [.int x13]) (hh := fun x13 => h11) (fun x13 => ?_) (fun k3 J3 => ?_)
    · refine x_istore 57 [(4, .int x13), (0, .ref 68), (1, .int a1), (2, .int a2), (3, .int x1), (5, .int x8), (6, .int x9), (7, .int x12)] C dX8_actOf_55 n4 rfl rfl ?_
      refine x_iload 59 C dX8_actOf_57 7 rfl rfl ?_
      refine x_iload 61 C dX8_actOf_59 5 rfl rfl ?_
      refine x_csi 64 [.int x12, .int x8] [] C 0 dX8_actOf_61 s_X8_210 (fun u hu => m_X8_greater hu) rfl rfl (Nat.le_of_ble_eq_true rfl) (Nat.le_of_ble_eq_true rfl) rfl (fun x14 => ?_)
      refine x_istore 66 [(5, .int x14), (4, .int x13), (0, .ref 68), (1, .int a1), (2, .int a2), (3, .int x1), (6, .int x9), (7, .int x12)] C dX8_actOf_64 n5 rfl rfl ?_
      refine x_iinc 69 (fun x15 => [(6, .int x15), (5, .int x14), (4, .int x13), (0, .ref 68), (1, .int a1), (2, .int a2), (3, .int x1), (7, .int x12)]) C dX8_actOf_66 6 rfl ci_1 n6 (fun _ => rfl) rfl (fun x15 => ?_)
      refine x_goto 16 C dX8_actOf_69 (by decide) ?_
      exact x_ls [3, 4, 5, 6, 2, 1, 0] rfl (J2 h11 x13 x14 x15)
    refine x_icmp_le 48 53 C dX8_actOf_45 (by decide) rfl (fun _ => ?_) (fun _ => ?_)
    · refine x_iload 55 C dX8_actOf_53 5 rfl rfl ?_
      exact x_ls [1, 2, 3, 4, 6, 7, 0] rfl (J3 x7)
    · refine x_iload 50 C dX8_actOf_48 7 rfl rfl ?_
      refine x_goto 55 C dX8_actOf_50 (by decide) ?_
      exact x_ls [1, 2, 3, 4, 6, 7, 0] rfl (J3 x9)

def f_X8_act (h : Hp) (a1 : Int32) (a2 : Int32) : Option (Hp × Int32) :=
  bdv (f_X8_find h) fun h1 =>
  bdr (f_X8_isBeat a1) fun x2 =>
  if x2 = 0 then (
    some (h1, (-2 : Int32)))
  else (
    bdr (f_X8_isTwo a2) fun x3 =>
    if x3 = 0 then (
      some (h1, (-2 : Int32)))
    else (
      bnd (f_X8_actOf h1 a1 a2) fun h4 x5 =>
      some (h4, x5)))
theorem dX8_act_0 : decode cX8_act 0 = .ok (.aload_n 0, 1) := by decide +kernel
theorem dX8_act_1 : decode cX8_act 1 = .ok (.invokevirtual 220, 3) := by decide +kernel
theorem dX8_act_4 : decode cX8_act 4 = .ok (.iload_n 1, 1) := by decide +kernel
theorem dX8_act_5 : decode cX8_act 5 = .ok (.invokestatic 154, 3) := by decide +kernel
theorem dX8_act_8 : decode cX8_act 8 = .ok (.ifCond .eq 19, 3) := by decide +kernel
theorem dX8_act_11 : decode cX8_act 11 = .ok (.iload_n 2, 1) := by decide +kernel
theorem dX8_act_12 : decode cX8_act 12 = .ok (.invokestatic 114, 3) := by decide +kernel
theorem dX8_act_15 : decode cX8_act 15 = .ok (.ifCond .eq 12, 3) := by decide +kernel
theorem dX8_act_18 : decode cX8_act 18 = .ok (.aload_n 0, 1) := by decide +kernel
theorem dX8_act_19 : decode cX8_act 19 = .ok (.iload_n 1, 1) := by decide +kernel
theorem dX8_act_20 : decode cX8_act 20 = .ok (.iload_n 2, 1) := by decide +kernel
theorem dX8_act_21 : decode cX8_act 21 = .ok (.invokevirtual 250, 3) := by decide +kernel
theorem dX8_act_24 : decode cX8_act 24 = .ok (.goto 5, 3) := by decide +kernel
theorem dX8_act_27 : decode cX8_act 27 = .ok (.bipush (-2), 2) := by decide +kernel
theorem dX8_act_29 : decode cX8_act 29 = .ok (.ireturn, 1) := by decide +kernel
set_option maxRecDepth 20000 in
theorem m_X8_act {h : Hp} {a1 : Int32} {a2 : Int32}  {u : (Hp × Int32)} (hu : f_X8_act h a1 a2 = some u) : Ct yX8_act cX8_act 3 (some .int) 7 [.ref 68, .int a1, .int a2] h (eI u) := by
  refine ct_of eI hu (by decide) (Nat.le_of_ble_eq_true rfl) (fun κ hn C E => ?_)
  unfold f_X8_act
  show Xz κ _ 0 [(0, .ref 68), (1, .int a1), (2, .int a2)] [] h
  refine x_aload_n 1 C dX8_act_0 0 rfl rfl rfl ?_
  refine x_cvV 4 [] [] C 6 dX8_act_1 v_X8_220 (fun u hu => m_X8_find hu) rfl sk_68 rfl (Nat.le_of_ble_eq_true rfl) (Nat.le_of_ble_eq_true rfl) rfl (fun h1 => ?_)
  refine x_iload_n 5 C dX8_act_4 1 rfl rfl rfl ?_
  refine x_csi 8 [.int a1] [] C 1 dX8_act_5 s_X8_154 (fun u hu => m_X8_isBeat hu) rfl rfl (Nat.le_of_ble_eq_true rfl) (Nat.le_of_ble_eq_true rfl) rfl (fun x2 => ?_)
  refine x_if_eq 11 27 C dX8_act_8 (by decide) rfl (fun _ => ?_) (fun _ => ?_)
  · refine x_bipush 29 C dX8_act_27 cb_m2 rfl ?_
    exact x_iret C E dX8_act_29 rfl
  · refine x_iload_n 12 C dX8_act_11 2 rfl rfl rfl ?_
    refine x_csi 15 [.int a2] [] C 1 dX8_act_12 s_X8_114 (fun u hu => m_X8_isTwo hu) rfl rfl (Nat.le_of_ble_eq_true rfl) (Nat.le_of_ble_eq_true rfl) rfl (fun x3 => ?_)
    refine x_if_eq 18 27 C dX8_act_15 (by decide) rfl (fun _ => ?_) (fun _ => ?_)
    · refine x_bipush 29 C dX8_act_27 cb_m2 rfl ?_
      exact x_iret C E dX8_act_29 rfl
    · refine x_aload_n 19 C dX8_act_18 0 rfl rfl rfl ?_
      refine x_iload_n 20 C dX8_act_19 1 rfl rfl rfl ?_
      refine x_iload_n 21 C dX8_act_20 2 rfl rfl rfl ?_
      refine x_cvI 24 [.int a1, .int a2] [] C 6 dX8_act_21 v_X8_250 (fun u hu => m_X8_actOf hu) rfl sk_68 rfl (Nat.le_of_ble_eq_true rfl) (Nat.le_of_ble_eq_true rfl) rfl (fun h4 x5 => ?_)
      refine x_goto 29 C dX8_act_24 (by decide) ?_
      exact x_iret C E dX8_act_29 rfl

def f_X8_isSpared (h : Hp) (a1 : Int32) : Option (Hp × Int32) :=
  nm (uf h 68 14 a1) fun h1 =>
  bdv (f_X8_lives h1) fun h2 =>
  nm (uf h2 68 14 (0 : Int32)) fun h3 =>
  bdr (f_X8_many h3 (3 : Int32)) fun x4 =>
  if x4 = 0 then (
    some (h3, (1 : Int32)))
  else (
    some (h3, (0 : Int32)))
theorem dX8_isSpared_0 : decode cX8_isSpared 0 = .ok (.aload_n 0, 1) := by decide +kernel
theorem dX8_isSpared_1 : decode cX8_isSpared 1 = .ok (.iload_n 1, 1) := by decide +kernel
theorem dX8_isSpared_2 : decode cX8_isSpared 2 = .ok (.putfield 178, 3) := by decide +kernel
theorem dX8_isSpared_5 : decode cX8_isSpared 5 = .ok (.aload_n 0, 1) := by decide +kernel
theorem dX8_isSpared_6 : decode cX8_isSpared 6 = .ok (.invokevirtual 217, 3) := by decide +kernel
theorem dX8_isSpared_9 : decode cX8_isSpared 9 = .ok (.aload_n 0, 1) := by decide +kernel
theorem dX8_isSpared_10 : decode cX8_isSpared 10 = .ok (.iconst 0, 1) := by decide +kernel
theorem dX8_isSpared_11 : decode cX8_isSpared 11 = .ok (.putfield 178, 3) := by decide +kernel
theorem dX8_isSpared_14 : decode cX8_isSpared 14 = .ok (.aload_n 0, 1) := by decide +kernel
theorem dX8_isSpared_15 : decode cX8_isSpared 15 = .ok (.iconst 3, 1) := by decide +kernel
theorem dX8_isSpared_16 : decode cX8_isSpared 16 = .ok (.invokevirtual 229, 3) := by decide +kernel
theorem dX8_isSpared_19 : decode cX8_isSpared 19 = .ok (.ifCond .ne 7, 3) := by decide +kernel
theorem dX8_isSpared_22 : decode cX8_isSpared 22 = .ok (.iconst 1, 1) := by decide +kernel
theorem dX8_isSpared_23 : decode cX8_isSpared 23 = .ok (.goto 4, 3) := by decide +kernel
theorem dX8_isSpared_26 : decode cX8_isSpared 26 = .ok (.iconst 0, 1) := by decide +kernel
theorem dX8_isSpared_27 : decode cX8_isSpared 27 = .ok (.ireturn, 1) := by decide +kernel
set_option maxRecDepth 20000 in
theorem m_X8_isSpared {h : Hp} {a1 : Int32}  {u : (Hp × Int32)} (hu : f_X8_isSpared h a1 = some u) : Ct yX8_isSpared cX8_isSpared 2 (some .boolean) 6 [.ref 68, .int a1] h (eI u) := by
  refine ct_of eI hu (by decide) (Nat.le_of_ble_eq_true rfl) (fun κ hn C E => ?_)
  unfold f_X8_isSpared
  show Xz κ _ 0 [(0, .ref 68), (1, .int a1)] [] h
  refine x_aload_n 1 C dX8_isSpared_0 0 rfl rfl rfl ?_
  refine x_iload_n 2 C dX8_isSpared_1 1 rfl rfl rfl ?_
  refine x_put 5 C dX8_isSpared_2 fp_X8_178 sk_68 rfl rfl rfl rfl (fun h1 => ?_)
  refine x_aload_n 6 C dX8_isSpared_5 0 rfl rfl rfl ?_
  refine x_cvV 9 [] [] C 5 dX8_isSpared_6 v_X8_217 (fun u hu => m_X8_lives hu) rfl sk_68 rfl (Nat.le_of_ble_eq_true rfl) (Nat.le_of_ble_eq_true rfl) rfl (fun h2 => ?_)
  refine x_aload_n 10 C dX8_isSpared_9 0 rfl rfl rfl ?_
  refine x_iconst 11 C dX8_isSpared_10 ci_0 rfl ?_
  refine x_put 14 C dX8_isSpared_11 fp_X8_178 sk_68 rfl rfl rfl rfl (fun h3 => ?_)
  refine x_aload_n 15 C dX8_isSpared_14 0 rfl rfl rfl ?_
  refine x_iconst 16 C dX8_isSpared_15 ci_3 rfl ?_
  refine x_cvi 19 [.int (3 : Int32)] [] C 0 dX8_isSpared_16 v_X8_229 (fun u hu => m_X8_many hu) rfl sk_68 rfl (Nat.le_of_ble_eq_true rfl) (Nat.le_of_ble_eq_true rfl) rfl (fun x4 => ?_)
  refine x_if_ne 22 26 C dX8_isSpared_19 (by decide) rfl (fun _ => ?_) (fun _ => ?_)
  · refine x_iconst 27 C dX8_isSpared_26 ci_0 rfl ?_
    exact x_zret C E dX8_isSpared_27 (Or.inl rfl) rfl
  · refine x_iconst 23 C dX8_isSpared_22 ci_1 rfl ?_
    refine x_goto 27 C dX8_isSpared_23 (by decide) ?_
    exact x_zret C E dX8_isSpared_27 (Or.inr rfl) rfl

def f_X8_spareBy (h : Hp) (a1 : Int32) : Option (Hp × Int32) :=
  bnd (f_X8_isSpared h (0 : Int32)) fun h1 x2 =>
  if x2 = 0 then (
    lt1 (fun (h3 : Hp) =>
      fx2 FU (fun s2 (h4 : Hp) (x5 : Int32) =>
        if (h4.1 68 12) ≤ x5 then (
          some (h4, (-1 : Int32)))
        else (
          nm (x5 + (1 : Int32)) fun x6 =>
          lt1 (fun (h7 : Hp) =>
            nm (x5 + (1 : Int32)) fun x8 =>
            s2 h7 x8) fun k3 =>
          fx2 FU (fun s4 (h9 : Hp) (x10 : Int32) =>
            if (h9.1 68 12) ≤ x10 then (
              k3 h9)
            else (
              bnd (f_X8_isSpared h9 (((1 : Int32) <<< (x5 &&& 31)) ||| ((1 : Int32) <<< (x10 &&& 31)))) fun h11 x12 =>
              if x12 = 0 then (
                nm (x10 + (1 : Int32)) fun x13 =>
                s4 h11 x13)
              else (
                if a1 = (-1 : Int32) then (
                  some (h11, (2 : Int32)))
                else (
                  if a1 = 0 then (
                    some (h11, x5))
                  else (
                    some (h11, x10)))))) h4 x6)) h3 (0 : Int32)) fun k1 =>
    fx2 FU (fun s5 (h14 : Hp) (x15 : Int32) =>
      if (h14.1 68 12) ≤ x15 then (
        k1 h14)
      else (
        bnd (f_X8_isSpared h14 ((1 : Int32) <<< (x15 &&& 31))) fun h16 x17 =>
        if x17 = 0 then (
          nm (x15 + (1 : Int32)) fun x18 =>
          s5 h16 x18)
        else (
          if a1 = (-1 : Int32) then (
            some (h16, (1 : Int32)))
          else (
            if a1 = 0 then (
              some (h16, x15))
            else (
              some (h16, (-1 : Int32))))))) h1 (0 : Int32))
  else (
    if a1 = (-1 : Int32) then (
      some (h1, (0 : Int32)))
    else (
      some (h1, (-1 : Int32))))
theorem dX8_spareBy_0 : decode cX8_spareBy 0 = .ok (.aload_n 0, 1) := by decide +kernel
theorem dX8_spareBy_1 : decode cX8_spareBy 1 = .ok (.iconst 0, 1) := by decide +kernel
theorem dX8_spareBy_2 : decode cX8_spareBy 2 = .ok (.invokevirtual 253, 3) := by decide +kernel
theorem dX8_spareBy_5 : decode cX8_spareBy 5 = .ok (.ifCond .eq 14, 3) := by decide +kernel
theorem dX8_spareBy_8 : decode cX8_spareBy 8 = .ok (.iload_n 1, 1) := by decide +kernel
theorem dX8_spareBy_9 : decode cX8_spareBy 9 = .ok (.iconst (-1), 1) := by decide +kernel
theorem dX8_spareBy_10 : decode cX8_spareBy 10 = .ok (.if_icmp .ne 7, 3) := by decide +kernel
theorem dX8_spareBy_13 : decode cX8_spareBy 13 = .ok (.iconst 0, 1) := by decide +kernel
theorem dX8_spareBy_14 : decode cX8_spareBy 14 = .ok (.goto 4, 3) := by decide +kernel
theorem dX8_spareBy_17 : decode cX8_spareBy 17 = .ok (.iconst (-1), 1) := by decide +kernel
theorem dX8_spareBy_18 : decode cX8_spareBy 18 = .ok (.ireturn, 1) := by decide +kernel
theorem dX8_spareBy_19 : decode cX8_spareBy 19 = .ok (.iconst 0, 1) := by decide +kernel
theorem dX8_spareBy_20 : decode cX8_spareBy 20 = .ok (.istore_n 2, 1) := by decide +kernel
theorem dX8_spareBy_21 : decode cX8_spareBy 21 = .ok (.iload_n 2, 1) := by decide +kernel
theorem dX8_spareBy_22 : decode cX8_spareBy 22 = .ok (.aload_n 0, 1) := by decide +kernel
theorem dX8_spareBy_23 : decode cX8_spareBy 23 = .ok (.getfield 169, 3) := by decide +kernel
theorem dX8_spareBy_26 : decode cX8_spareBy 26 = .ok (.if_icmp .ge 38, 3) := by decide +kernel
theorem dX8_spareBy_29 : decode cX8_spareBy 29 = .ok (.aload_n 0, 1) := by decide +kernel
theorem dX8_spareBy_30 : decode cX8_spareBy 30 = .ok (.iconst 1, 1) := by decide +kernel
theorem dX8_spareBy_31 : decode cX8_spareBy 31 = .ok (.iload_n 2, 1) := by decide +kernel
theorem dX8_spareBy_32 : decode cX8_spareBy 32 = .ok (.ishl, 1) := by decide +kernel
theorem dX8_spareBy_33 : decode cX8_spareBy 33 = .ok (.invokevirtual 253, 3) := by decide +kernel
theorem dX8_spareBy_36 : decode cX8_spareBy 36 = .ok (.ifCond .eq 22, 3) := by decide +kernel
theorem dX8_spareBy_39 : decode cX8_spareBy 39 = .ok (.iload_n 1, 1) := by decide +kernel
theorem dX8_spareBy_40 : decode cX8_spareBy 40 = .ok (.iconst (-1), 1) := by decide +kernel
theorem dX8_spareBy_41 : decode cX8_spareBy 41 = .ok (.if_icmp .ne 7, 3) := by decide +kernel
theorem dX8_spareBy_44 : decode cX8_spareBy 44 = .ok (.iconst 1, 1) := by decide +kernel
theorem dX8_spareBy_45 : decode cX8_spareBy 45 = .ok (.goto 12, 3) := by decide +kernel
theorem dX8_spareBy_48 : decode cX8_spareBy 48 = .ok (.iload_n 1, 1) := by decide +kernel
theorem dX8_spareBy_49 : decode cX8_spareBy 49 = .ok (.ifCond .ne 7, 3) := by decide +kernel
theorem dX8_spareBy_52 : decode cX8_spareBy 52 = .ok (.iload_n 2, 1) := by decide +kernel
theorem dX8_spareBy_53 : decode cX8_spareBy 53 = .ok (.goto 4, 3) := by decide +kernel
theorem dX8_spareBy_56 : decode cX8_spareBy 56 = .ok (.iconst (-1), 1) := by decide +kernel
theorem dX8_spareBy_57 : decode cX8_spareBy 57 = .ok (.ireturn, 1) := by decide +kernel
theorem dX8_spareBy_58 : decode cX8_spareBy 58 = .ok (.iinc 2 1, 3) := by decide +kernel
theorem dX8_spareBy_61 : decode cX8_spareBy 61 = .ok (.goto (-40), 3) := by decide +kernel
theorem dX8_spareBy_64 : decode cX8_spareBy 64 = .ok (.iconst 0, 1) := by decide +kernel
theorem dX8_spareBy_65 : decode cX8_spareBy 65 = .ok (.istore_n 2, 1) := by decide +kernel
theorem dX8_spareBy_66 : decode cX8_spareBy 66 = .ok (.iload_n 2, 1) := by decide +kernel
theorem dX8_spareBy_67 : decode cX8_spareBy 67 = .ok (.aload_n 0, 1) := by decide +kernel
theorem dX8_spareBy_68 : decode cX8_spareBy 68 = .ok (.getfield 169, 3) := by decide +kernel
theorem dX8_spareBy_71 : decode cX8_spareBy 71 = .ok (.if_icmp .ge 60, 3) := by decide +kernel
theorem dX8_spareBy_74 : decode cX8_spareBy 74 = .ok (.iload_n 2, 1) := by decide +kernel
theorem dX8_spareBy_75 : decode cX8_spareBy 75 = .ok (.iconst 1, 1) := by decide +kernel
theorem dX8_spareBy_76 : decode cX8_spareBy 76 = .ok (.iadd, 1) := by decide +kernel
theorem dX8_spareBy_77 : decode cX8_spareBy 77 = .ok (.istore_n 3, 1) := by decide +kernel
theorem dX8_spareBy_78 : decode cX8_spareBy 78 = .ok (.iload_n 3, 1) := by decide +kernel
theorem dX8_spareBy_79 : decode cX8_spareBy 79 = .ok (.aload_n 0, 1) := by decide +kernel
theorem dX8_spareBy_80 : decode cX8_spareBy 80 = .ok (.getfield 169, 3) := by decide +kernel
theorem dX8_spareBy_83 : decode cX8_spareBy 83 = .ok (.if_icmp .ge 42, 3) := by decide +kernel
theorem dX8_spareBy_86 : decode cX8_spareBy 86 = .ok (.aload_n 0, 1) := by decide +kernel
theorem dX8_spareBy_87 : decode cX8_spareBy 87 = .ok (.iconst 1, 1) := by decide +kernel
theorem dX8_spareBy_88 : decode cX8_spareBy 88 = .ok (.iload_n 2, 1) := by decide +kernel
theorem dX8_spareBy_89 : decode cX8_spareBy 89 = .ok (.ishl, 1) := by decide +kernel
theorem dX8_spareBy_90 : decode cX8_spareBy 90 = .ok (.iconst 1, 1) := by decide +kernel
theorem dX8_spareBy_91 : decode cX8_spareBy 91 = .ok (.iload_n 3, 1) := by decide +kernel
theorem dX8_spareBy_92 : decode cX8_spareBy 92 = .ok (.ishl, 1) := by decide +kernel
theorem dX8_spareBy_93 : decode cX8_spareBy 93 = .ok (.ior, 1) := by decide +kernel
theorem dX8_spareBy_94 : decode cX8_spareBy 94 = .ok (.invokevirtual 253, 3) := by decide +kernel
theorem dX8_spareBy_97 : decode cX8_spareBy 97 = .ok (.ifCond .eq 22, 3) := by decide +kernel
theorem dX8_spareBy_100 : decode cX8_spareBy 100 = .ok (.iload_n 1, 1) := by decide +kernel
theorem dX8_spareBy_101 : decode cX8_spareBy 101 = .ok (.iconst (-1), 1) := by decide +kernel
theorem dX8_spareBy_102 : decode cX8_spareBy 102 = .ok (.if_icmp .ne 7, 3) := by decide +kernel
theorem dX8_spareBy_105 : decode cX8_spareBy 105 = .ok (.iconst 2, 1) := by decide +kernel
theorem dX8_spareBy_106 : decode cX8_spareBy 106 = .ok (.goto 12, 3) := by decide +kernel
theorem dX8_spareBy_109 : decode cX8_spareBy 109 = .ok (.iload_n 1, 1) := by decide +kernel
theorem dX8_spareBy_110 : decode cX8_spareBy 110 = .ok (.ifCond .ne 7, 3) := by decide +kernel
theorem dX8_spareBy_113 : decode cX8_spareBy 113 = .ok (.iload_n 2, 1) := by decide +kernel
theorem dX8_spareBy_114 : decode cX8_spareBy 114 = .ok (.goto 4, 3) := by decide +kernel
theorem dX8_spareBy_117 : decode cX8_spareBy 117 = .ok (.iload_n 3, 1) := by decide +kernel
theorem dX8_spareBy_118 : decode cX8_spareBy 118 = .ok (.ireturn, 1) := by decide +kernel
theorem dX8_spareBy_119 : decode cX8_spareBy 119 = .ok (.iinc 3 1, 3) := by decide +kernel
theorem dX8_spareBy_122 : decode cX8_spareBy 122 = .ok (.goto (-44), 3) := by decide +kernel
theorem dX8_spareBy_125 : decode cX8_spareBy 125 = .ok (.iinc 2 1, 3) := by decide +kernel
theorem dX8_spareBy_128 : decode cX8_spareBy 128 = .ok (.goto (-62), 3) := by decide +kernel
theorem dX8_spareBy_131 : decode cX8_spareBy 131 = .ok (.iconst (-1), 1) := by decide +kernel
theorem dX8_spareBy_132 : decode cX8_spareBy 132 = .ok (.ireturn, 1) := by decide +kernel
set_option maxRecDepth 20000 in
theorem m_X8_spareBy {h : Hp} {a1 : Int32}  {u : (Hp × Int32)} (hu : f_X8_spareBy h a1 = some u) : Ct yX8_spareBy cX8_spareBy 4 (some .int) 7 [.ref 68, .int a1] h (eI u) := by
  refine ct_of eI hu (by decide) (Nat.le_of_ble_eq_true rfl) (fun κ hn C E => ?_)
  have n2 : 2 < kn κ := by rw [hn]; decide
  have n3 : 3 < kn κ := by rw [hn]; decide
  unfold f_X8_spareBy
  show Xz κ _ 0 [(0, .ref 68), (1, .int a1)] [] h
  refine x_aload_n 1 C dX8_spareBy_0 0 rfl rfl rfl ?_
  refine x_iconst 2 C dX8_spareBy_1 ci_0 rfl ?_
  refine x_cvI 5 [.int (0 : Int32)] [] C 6 dX8_spareBy_2 v_X8_253 (fun u hu => m_X8_isSpared hu) rfl sk_68 rfl (Nat.le_of_ble_eq_true rfl) (Nat.le_of_ble_eq_true rfl) rfl (fun h1 x2 => ?_)
  refine x_if_eq 8 19 C dX8_spareBy_5 (by decide) rfl (fun _ => ?_) (fun _ => ?_)
  · refine x_iconst 20 C dX8_spareBy_19 ci_0 rfl ?_
    refine x_istore_n 21 [(2, .int (0 : Int32)), (0, .ref 68), (1, .int a1)] C dX8_spareBy_20 n2 rfl rfl rfl ?_
    refine x_lt1 (q := 64) (ls := fun h3 => [(0, .ref 68), (1, .int a1)]) (st := fun h3 => []) (hh := fun h3 => h3) (fun h3 => ?_) (fun k1 J1 => ?_)
    · refine x_iconst 65 C dX8_spareBy_64 ci_0 rfl ?_
      refine x_istore_n 66 [(2, .int (0 : Int32)), (0, .ref 68), (1, .int a1)] C dX8_spareBy_65 n2 rfl rfl rfl ?_
      refine x_ls [1, 2, 0] rfl (x_fx2 (ls := fun h4 x5 => [(0, .ref 68), (1, .int a1), (2, .int x5)]) (st := fun h4 x5 => []) (hh := fun h4 x5 => h4) (fun s2 J2 h4 x5 => ?_))
      refine x_iload_n 67 C dX8_spareBy_66 2 rfl rfl rfl ?_
      refine x_aload_n 68 C dX8_spareBy_67 0 rfl rfl rfl ?_
      refine x_getI 71 C dX8_spareBy_68 fl_X8_169 sk_68 rfl rfl ?_
      refine x_icmp_ge 74 131 C dX8_spareBy_71 (by decide) rfl (fun _ => ?_) (fun _ => ?_)
      · refine x_iconst 132 C dX8_spareBy_131 ci_m1 rfl ?_
        exact x_iret C E dX8_spareBy_132 rfl
      · refine x_iload_n 75 C dX8_spareBy_74 2 rfl rfl rfl ?_
        refine x_iconst 76 C dX8_spareBy_75 ci_1 rfl ?_
        refine x_iadd 77 C dX8_spareBy_76 rfl ?_
        refine x_ni (fun x6 => ?_)
        refine x_istore_n 78 [(3, .int x6), (0, .ref 68), (1, .int a1), (2, .int x5)] C dX8_spareBy_77 n3 rfl rfl rfl ?_
        refine x_lt1 (q := 125) (ls := fun h7 => [(0, .ref 68), (1, .int a1), (2, .int x5)]) (st := fun h7 => []) (hh := fun h7 => h7) (fun h7 => ?_) (fun k3 J3 => ?_)
        · refine x_iinc 128 (fun x8 => [(2, .int x8), (0, .ref 68), (1, .int a1)]) C dX8_spareBy_125 2 rfl ci_1 n2 (fun _ => rfl) rfl (fun x8 => ?_)
          refine x_goto 66 C dX8_spareBy_128 (by decide) ?_
          exact x_ls [1, 2, 0] rfl (J2 h7 x8)
        refine x_ls [1, 2, 3, 0] rfl (x_fx2 (ls := fun h9 x10 => [(0, .ref 68), (1, .int a1), (2, .int x5), (3, .int x10)]) (st := fun h9 x10 => []) (hh := fun h9 x10 => h9) (fun s4 J4 h9 x10 => ?_))
        refine x_iload_n 79 C dX8_spareBy_78 3 rfl rfl rfl ?_
        refine x_aload_n 80 C dX8_spareBy_79 0 rfl rfl rfl ?_
        refine x_getI 83 C dX8_spareBy_80 fl_X8_169 sk_68 rfl rfl ?_
        refine x_icmp_ge 86 125 C dX8_spareBy_83 (by decide) rfl (fun _ => ?_) (fun _ => ?_)
        · exact x_ls [0, 1, 2] rfl (J3 h9)
        · refine x_aload_n 87 C dX8_spareBy_86 0 rfl rfl rfl ?_
          refine x_iconst 88 C dX8_spareBy_87 ci_1 rfl ?_
          refine x_iload_n 89 C dX8_spareBy_88 2 rfl rfl rfl ?_
          refine x_ishl 90 C dX8_spareBy_89 rfl ?_
          refine x_iconst 91 C dX8_spareBy_90 ci_1 rfl ?_
          refine x_iload_n 92 C dX8_spareBy_91 3 rfl rfl rfl ?_
          refine x_ishl 93 C dX8_spareBy_92 rfl ?_
          refine x_ior 94 C dX8_spareBy_93 rfl ?_
          refine x_cvI 97 [.int (((1 : Int32) <<< (x5 &&& 31)) ||| ((1 : Int32) <<< (x10 &&& 31)))] [] C 6 dX8_spareBy_94 v_X8_253 (fun u hu => m_X8_isSpared hu) rfl sk_68 rfl (Nat.le_of_ble_eq_true rfl) (Nat.le_of_ble_eq_true rfl) rfl (fun h11 x12 => ?_)
          refine x_if_eq 100 119 C dX8_spareBy_97 (by decide) rfl (fun _ => ?_) (fun _ => ?_)
          · refine x_iinc 122 (fun x13 => [(3, .int x13), (0, .ref 68), (1, .int a1), (2, .int x5)]) C dX8_spareBy_119 3 rfl ci_1 n3 (fun _ => rfl) rfl (fun x13 => ?_)
            refine x_goto 78 C dX8_spareBy_122 (by decide) ?_
            exact x_ls [1, 2, 3, 0] rfl (J4 h11 x13)
          · refine x_iload_n 101 C dX8_spareBy_100 1 rfl rfl rfl ?_
            refine x_iconst 102 C dX8_spareBy_101 ci_m1 rfl ?_
            refine x_icmp_ne 105 109 C dX8_spareBy_102 (by decide) rfl (fun _ => ?_) (fun _ => ?_)
            · refine x_iload_n 110 C dX8_spareBy_109 1 rfl rfl rfl ?_
              refine x_if_ne 113 117 C dX8_spareBy_110 (by decide) rfl (fun _ => ?_) (fun _ => ?_)
              · refine x_iload_n 118 C dX8_spareBy_117 3 rfl rfl rfl ?_
                exact x_iret C E dX8_spareBy_118 rfl
              · refine x_iload_n 114 C dX8_spareBy_113 2 rfl rfl rfl ?_
                refine x_goto 118 C dX8_spareBy_114 (by decide) ?_
                exact x_iret C E dX8_spareBy_118 rfl
            · refine x_iconst 106 C dX8_spareBy_105 ci_2 rfl ?_
              refine x_goto 118 C dX8_spareBy_106 (by decide) ?_
              exact x_iret C E dX8_spareBy_118 rfl
    refine x_ls [1, 2, 0] rfl (x_fx2 (ls := fun h14 x15 => [(0, .ref 68), (1, .int a1), (2, .int x15)]) (st := fun h14 x15 => []) (hh := fun h14 x15 => h14) (fun s5 J5 h14 x15 => ?_))
    refine x_iload_n 22 C dX8_spareBy_21 2 rfl rfl rfl ?_
    refine x_aload_n 23 C dX8_spareBy_22 0 rfl rfl rfl ?_
    refine x_getI 26 C dX8_spareBy_23 fl_X8_169 sk_68 rfl rfl ?_
    refine x_icmp_ge 29 64 C dX8_spareBy_26 (by decide) rfl (fun _ => ?_) (fun _ => ?_)
    · exact x_ls [0, 1] rfl (J1 h14)
    · refine x_aload_n 30 C dX8_spareBy_29 0 rfl rfl rfl ?_
      refine x_iconst 31 C dX8_spareBy_30 ci_1 rfl ?_
      refine x_iload_n 32 C dX8_spareBy_31 2 rfl rfl rfl ?_
      refine x_ishl 33 C dX8_spareBy_32 rfl ?_
      refine x_cvI 36 [.int ((1 : Int32) <<< (x15 &&& 31))] [] C 6 dX8_spareBy_33 v_X8_253 (fun u hu => m_X8_isSpared hu) rfl sk_68 rfl (Nat.le_of_ble_eq_true rfl) (Nat.le_of_ble_eq_true rfl) rfl (fun h16 x17 => ?_)
      refine x_if_eq 39 58 C dX8_spareBy_36 (by decide) rfl (fun _ => ?_) (fun _ => ?_)
      · refine x_iinc 61 (fun x18 => [(2, .int x18), (0, .ref 68), (1, .int a1)]) C dX8_spareBy_58 2 rfl ci_1 n2 (fun _ => rfl) rfl (fun x18 => ?_)
        refine x_goto 21 C dX8_spareBy_61 (by decide) ?_
        exact x_ls [1, 2, 0] rfl (J5 h16 x18)
      · refine x_iload_n 40 C dX8_spareBy_39 1 rfl rfl rfl ?_
        refine x_iconst 41 C dX8_spareBy_40 ci_m1 rfl ?_
        refine x_icmp_ne 44 48 C dX8_spareBy_41 (by decide) rfl (fun _ => ?_) (fun _ => ?_)
        · refine x_iload_n 49 C dX8_spareBy_48 1 rfl rfl rfl ?_
          refine x_if_ne 52 56 C dX8_spareBy_49 (by decide) rfl (fun _ => ?_) (fun _ => ?_)
          · refine x_iconst 57 C dX8_spareBy_56 ci_m1 rfl ?_
            exact x_iret C E dX8_spareBy_57 rfl
          · refine x_iload_n 53 C dX8_spareBy_52 2 rfl rfl rfl ?_
            refine x_goto 57 C dX8_spareBy_53 (by decide) ?_
            exact x_iret C E dX8_spareBy_57 rfl
        · refine x_iconst 45 C dX8_spareBy_44 ci_1 rfl ?_
          refine x_goto 57 C dX8_spareBy_45 (by decide) ?_
          exact x_iret C E dX8_spareBy_57 rfl
  · refine x_iload_n 9 C dX8_spareBy_8 1 rfl rfl rfl ?_
    refine x_iconst 10 C dX8_spareBy_9 ci_m1 rfl ?_
    refine x_icmp_ne 13 17 C dX8_spareBy_10 (by decide) rfl (fun _ => ?_) (fun _ => ?_)
    · refine x_iconst 18 C dX8_spareBy_17 ci_m1 rfl ?_
      exact x_iret C E dX8_spareBy_18 rfl
    · refine x_iconst 14 C dX8_spareBy_13 ci_0 rfl ?_
      refine x_goto 18 C dX8_spareBy_14 (by decide) ?_
      exact x_iret C E dX8_spareBy_18 rfl

def f_X8_spare (h : Hp) (a1 : Int32) : Option (Hp × Int32) :=
  bdv (f_X8_find h) fun h1 =>
  bdr (f_X8_in (a1.toInt64) (-1 : Int64) (1 : Int64)) fun x2 =>
  if x2 = 0 then (
    some (h1, (-2 : Int32)))
  else (
    bnd (f_X8_spareBy h1 a1) fun h3 x4 =>
    some (h3, x4))
theorem dX8_spare_0 : decode cX8_spare 0 = .ok (.aload_n 0, 1) := by decide +kernel
theorem dX8_spare_1 : decode cX8_spare 1 = .ok (.invokevirtual 220, 3) := by decide +kernel
theorem dX8_spare_4 : decode cX8_spare 4 = .ok (.iload_n 1, 1) := by decide +kernel
theorem dX8_spare_5 : decode cX8_spare 5 = .ok (.i2l, 1) := by decide +kernel
theorem dX8_spare_6 : decode cX8_spare 6 = .ok (.ldc2_w 256, 3) := by decide +kernel
theorem dX8_spare_9 : decode cX8_spare 9 = .ok (.lconst 1, 1) := by decide +kernel
theorem dX8_spare_10 : decode cX8_spare 10 = .ok (.invokestatic 85, 3) := by decide +kernel
theorem dX8_spare_13 : decode cX8_spare 13 = .ok (.ifCond .eq 11, 3) := by decide +kernel
theorem dX8_spare_16 : decode cX8_spare 16 = .ok (.aload_n 0, 1) := by decide +kernel
theorem dX8_spare_17 : decode cX8_spare 17 = .ok (.iload_n 1, 1) := by decide +kernel
theorem dX8_spare_18 : decode cX8_spare 18 = .ok (.invokevirtual 258, 3) := by decide +kernel
theorem dX8_spare_21 : decode cX8_spare 21 = .ok (.goto 5, 3) := by decide +kernel
theorem dX8_spare_24 : decode cX8_spare 24 = .ok (.bipush (-2), 2) := by decide +kernel
theorem dX8_spare_26 : decode cX8_spare 26 = .ok (.ireturn, 1) := by decide +kernel
set_option maxRecDepth 20000 in
theorem m_X8_spare {h : Hp} {a1 : Int32}  {u : (Hp × Int32)} (hu : f_X8_spare h a1 = some u) : Ct yX8_spare cX8_spare 2 (some .int) 8 [.ref 68, .int a1] h (eI u) := by
  refine ct_of eI hu (by decide) (Nat.le_of_ble_eq_true rfl) (fun κ hn C E => ?_)
  unfold f_X8_spare
  show Xz κ _ 0 [(0, .ref 68), (1, .int a1)] [] h
  refine x_aload_n 1 C dX8_spare_0 0 rfl rfl rfl ?_
  refine x_cvV 4 [] [] C 6 dX8_spare_1 v_X8_220 (fun u hu => m_X8_find hu) rfl sk_68 rfl (Nat.le_of_ble_eq_true rfl) (Nat.le_of_ble_eq_true rfl) rfl (fun h1 => ?_)
  refine x_iload_n 5 C dX8_spare_4 1 rfl rfl rfl ?_
  refine x_i2l 6 C dX8_spare_5 rfl ?_
  refine x_ldc2 9 C dX8_spare_6 kw_X8_256 rfl ?_
  refine x_lconst 10 C dX8_spare_9 cl_1 rfl ?_
  refine x_csi 13 [.long (a1.toInt64), .long (-1 : Int64), .long (1 : Int64)] [] C 0 dX8_spare_10 s_X8_85 (fun u hu => m_X8_in hu) rfl rfl (Nat.le_of_ble_eq_true rfl) (Nat.le_of_ble_eq_true rfl) rfl (fun x2 => ?_)
  refine x_if_eq 16 24 C dX8_spare_13 (by decide) rfl (fun _ => ?_) (fun _ => ?_)
  · refine x_bipush 26 C dX8_spare_24 cb_m2 rfl ?_
    exact x_iret C E dX8_spare_26 rfl
  · refine x_aload_n 17 C dX8_spare_16 0 rfl rfl rfl ?_
    refine x_iload_n 18 C dX8_spare_17 1 rfl rfl rfl ?_
    refine x_cvI 21 [.int a1] [] C 7 dX8_spare_18 v_X8_258 (fun u hu => m_X8_spareBy hu) rfl sk_68 rfl (Nat.le_of_ble_eq_true rfl) (Nat.le_of_ble_eq_true rfl) rfl (fun h3 x4 => ?_)
    refine x_goto 26 C dX8_spare_21 (by decide) ?_
    exact x_iret C E dX8_spare_26 rfl

def f_X8_seen (h : Hp) (a1 : Int32) (a2 : Int32) (a3 : Int32) : Option (Hp × Int32) :=
  bdr (f_X8_isBeat a1) fun x1 =>
  if x1 = 0 then (
    some (h, (-2 : Int32)))
  else (
    bdr (f_X8_in (a2.toInt64) (0 : Int64) (5 : Int64)) fun x2 =>
    if x2 = 0 then (
      some (h, (-2 : Int32)))
    else (
      bdr (f_X8_in (a3.toInt64) (0 : Int64) (3 : Int64)) fun x3 =>
      if x3 = 0 then (
        some (h, (-2 : Int32)))
      else (
        if (h.1 68 29) = (8 : Int32) then (
          some (h, (-4 : Int32)))
        else (
          ck ((3 : Int32) * (h.1 68 29)) 24 (nm (ux h 91 ((3 : Int32) * (h.1 68 29)) a1) fun h4 =>
          ck (((3 : Int32) * (h4.1 68 29)) + (1 : Int32)) 24 (nm (ux h4 91 (((3 : Int32) * (h4.1 68 29)) + (1 : Int32)) a2) fun h5 =>
          ck (((3 : Int32) * (h5.1 68 29)) + (2 : Int32)) 24 (nm (ux h5 91 (((3 : Int32) * (h5.1 68 29)) + (2 : Int32)) a3) fun h6 =>
          nm (uf h6 68 29 ((h6.1 68 29) + (1 : Int32))) fun h7 =>
          some (h7, (h7.1 68 29)))))))))
theorem dX8_seen_0 : decode cX8_seen 0 = .ok (.iload_n 1, 1) := by decide +kernel
theorem dX8_seen_1 : decode cX8_seen 1 = .ok (.invokestatic 154, 3) := by decide +kernel
theorem dX8_seen_4 : decode cX8_seen 4 = .ok (.ifCond .eq 27, 3) := by decide +kernel
theorem dX8_seen_7 : decode cX8_seen 7 = .ok (.iload_n 2, 1) := by decide +kernel
theorem dX8_seen_8 : decode cX8_seen 8 = .ok (.i2l, 1) := by decide +kernel
theorem dX8_seen_9 : decode cX8_seen 9 = .ok (.lconst 0, 1) := by decide +kernel
theorem dX8_seen_10 : decode cX8_seen 10 = .ok (.ldc2_w 157, 3) := by decide +kernel
theorem dX8_seen_13 : decode cX8_seen 13 = .ok (.invokestatic 85, 3) := by decide +kernel
theorem dX8_seen_16 : decode cX8_seen 16 = .ok (.ifCond .eq 15, 3) := by decide +kernel
theorem dX8_seen_19 : decode cX8_seen 19 = .ok (.iload_n 3, 1) := by decide +kernel
theorem dX8_seen_20 : decode cX8_seen 20 = .ok (.i2l, 1) := by decide +kernel
theorem dX8_seen_21 : decode cX8_seen 21 = .ok (.lconst 0, 1) := by decide +kernel
theorem dX8_seen_22 : decode cX8_seen 22 = .ok (.ldc2_w 93, 3) := by decide +kernel
theorem dX8_seen_25 : decode cX8_seen 25 = .ok (.invokestatic 85, 3) := by decide +kernel
theorem dX8_seen_28 : decode cX8_seen 28 = .ok (.ifCond .ne 6, 3) := by decide +kernel
theorem dX8_seen_31 : decode cX8_seen 31 = .ok (.bipush (-2), 2) := by decide +kernel
theorem dX8_seen_33 : decode cX8_seen 33 = .ok (.ireturn, 1) := by decide +kernel
theorem dX8_seen_34 : decode cX8_seen 34 = .ok (.aload_n 0, 1) := by decide +kernel
theorem dX8_seen_35 : decode cX8_seen 35 = .ok (.getfield 261, 3) := by decide +kernel
theorem dX8_seen_38 : decode cX8_seen 38 = .ok (.bipush 8, 2) := by decide +kernel
theorem dX8_seen_40 : decode cX8_seen 40 = .ok (.if_icmp .ne 6, 3) := by decide +kernel
theorem dX8_seen_43 : decode cX8_seen 43 = .ok (.bipush (-4), 2) := by decide +kernel
theorem dX8_seen_45 : decode cX8_seen 45 = .ok (.ireturn, 1) := by decide +kernel
theorem dX8_seen_46 : decode cX8_seen 46 = .ok (.aload_n 0, 1) := by decide +kernel
theorem dX8_seen_47 : decode cX8_seen 47 = .ok (.getfield 76, 3) := by decide +kernel
theorem dX8_seen_50 : decode cX8_seen 50 = .ok (.iconst 3, 1) := by decide +kernel
theorem dX8_seen_51 : decode cX8_seen 51 = .ok (.aload_n 0, 1) := by decide +kernel
theorem dX8_seen_52 : decode cX8_seen 52 = .ok (.getfield 261, 3) := by decide +kernel
theorem dX8_seen_55 : decode cX8_seen 55 = .ok (.imul, 1) := by decide +kernel
theorem dX8_seen_56 : decode cX8_seen 56 = .ok (.iload_n 1, 1) := by decide +kernel
theorem dX8_seen_57 : decode cX8_seen 57 = .ok (.iastore, 1) := by decide +kernel
theorem dX8_seen_58 : decode cX8_seen 58 = .ok (.aload_n 0, 1) := by decide +kernel
theorem dX8_seen_59 : decode cX8_seen 59 = .ok (.getfield 76, 3) := by decide +kernel
theorem dX8_seen_62 : decode cX8_seen 62 = .ok (.iconst 3, 1) := by decide +kernel
theorem dX8_seen_63 : decode cX8_seen 63 = .ok (.aload_n 0, 1) := by decide +kernel
theorem dX8_seen_64 : decode cX8_seen 64 = .ok (.getfield 261, 3) := by decide +kernel
theorem dX8_seen_67 : decode cX8_seen 67 = .ok (.imul, 1) := by decide +kernel
theorem dX8_seen_68 : decode cX8_seen 68 = .ok (.iconst 1, 1) := by decide +kernel
theorem dX8_seen_69 : decode cX8_seen 69 = .ok (.iadd, 1) := by decide +kernel
theorem dX8_seen_70 : decode cX8_seen 70 = .ok (.iload_n 2, 1) := by decide +kernel
theorem dX8_seen_71 : decode cX8_seen 71 = .ok (.iastore, 1) := by decide +kernel
theorem dX8_seen_72 : decode cX8_seen 72 = .ok (.aload_n 0, 1) := by decide +kernel
theorem dX8_seen_73 : decode cX8_seen 73 = .ok (.getfield 76, 3) := by decide +kernel
theorem dX8_seen_76 : decode cX8_seen 76 = .ok (.iconst 3, 1) := by decide +kernel
theorem dX8_seen_77 : decode cX8_seen 77 = .ok (.aload_n 0, 1) := by decide +kernel
theorem dX8_seen_78 : decode cX8_seen 78 = .ok (.getfield 261, 3) := by decide +kernel
theorem dX8_seen_81 : decode cX8_seen 81 = .ok (.imul, 1) := by decide +kernel
theorem dX8_seen_82 : decode cX8_seen 82 = .ok (.iconst 2, 1) := by decide +kernel
theorem dX8_seen_83 : decode cX8_seen 83 = .ok (.iadd, 1) := by decide +kernel
theorem dX8_seen_84 : decode cX8_seen 84 = .ok (.iload_n 3, 1) := by decide +kernel
theorem dX8_seen_85 : decode cX8_seen 85 = .ok (.iastore, 1) := by decide +kernel
theorem dX8_seen_86 : decode cX8_seen 86 = .ok (.aload_n 0, 1) := by decide +kernel
theorem dX8_seen_87 : decode cX8_seen 87 = .ok (.dup, 1) := by decide +kernel
theorem dX8_seen_88 : decode cX8_seen 88 = .ok (.getfield 261, 3) := by decide +kernel
theorem dX8_seen_91 : decode cX8_seen 91 = .ok (.iconst 1, 1) := by decide +kernel
theorem dX8_seen_92 : decode cX8_seen 92 = .ok (.iadd, 1) := by decide +kernel
theorem dX8_seen_93 : decode cX8_seen 93 = .ok (.putfield 261, 3) := by decide +kernel
theorem dX8_seen_96 : decode cX8_seen 96 = .ok (.aload_n 0, 1) := by decide +kernel
theorem dX8_seen_97 : decode cX8_seen 97 = .ok (.getfield 261, 3) := by decide +kernel
theorem dX8_seen_100 : decode cX8_seen 100 = .ok (.ireturn, 1) := by decide +kernel
set_option maxRecDepth 20000 in
theorem m_X8_seen {h : Hp} {a1 : Int32} {a2 : Int32} {a3 : Int32}  {u : (Hp × Int32)} (hu : f_X8_seen h a1 a2 a3 = some u) : Ct yX8_seen cX8_seen 4 (some .int) 2 [.ref 68, .int a1, .int a2, .int a3] h (eI u) := by
  refine ct_of eI hu (by decide) (Nat.le_of_ble_eq_true rfl) (fun κ hn C E => ?_)
  unfold f_X8_seen
  show Xz κ _ 0 [(0, .ref 68), (1, .int a1), (2, .int a2), (3, .int a3)] [] h
  refine x_iload_n 1 C dX8_seen_0 1 rfl rfl rfl ?_
  refine x_csi 4 [.int a1] [] C 1 dX8_seen_1 s_X8_154 (fun u hu => m_X8_isBeat hu) rfl rfl (Nat.le_of_ble_eq_true rfl) (Nat.le_of_ble_eq_true rfl) rfl (fun x1 => ?_)
  refine x_if_eq 7 31 C dX8_seen_4 (by decide) rfl (fun _ => ?_) (fun _ => ?_)
  · refine x_bipush 33 C dX8_seen_31 cb_m2 rfl ?_
    exact x_iret C E dX8_seen_33 rfl
  · refine x_iload_n 8 C dX8_seen_7 2 rfl rfl rfl ?_
    refine x_i2l 9 C dX8_seen_8 rfl ?_
    refine x_lconst 10 C dX8_seen_9 cl_0 rfl ?_
    refine x_ldc2 13 C dX8_seen_10 kw_X8_157 rfl ?_
    refine x_csi 16 [.long (a2.toInt64), .long (0 : Int64), .long (5 : Int64)] [] C 0 dX8_seen_13 s_X8_85 (fun u hu => m_X8_in hu) rfl rfl (Nat.le_of_ble_eq_true rfl) (Nat.le_of_ble_eq_true rfl) rfl (fun x2 => ?_)
    refine x_if_eq 19 31 C dX8_seen_16 (by decide) rfl (fun _ => ?_) (fun _ => ?_)
    · refine x_bipush 33 C dX8_seen_31 cb_m2 rfl ?_
      exact x_iret C E dX8_seen_33 rfl
    · refine x_iload_n 20 C dX8_seen_19 3 rfl rfl rfl ?_
      refine x_i2l 21 C dX8_seen_20 rfl ?_
      refine x_lconst 22 C dX8_seen_21 cl_0 rfl ?_
      refine x_ldc2 25 C dX8_seen_22 kw_X8_93 rfl ?_
      refine x_csi 28 [.long (a3.toInt64), .long (0 : Int64), .long (3 : Int64)] [] C 0 dX8_seen_25 s_X8_85 (fun u hu => m_X8_in hu) rfl rfl (Nat.le_of_ble_eq_true rfl) (Nat.le_of_ble_eq_true rfl) rfl (fun x3 => ?_)
      refine x_if_ne 31 34 C dX8_seen_28 (by decide) rfl (fun _ => ?_) (fun _ => ?_)
      · refine x_aload_n 35 C dX8_seen_34 0 rfl rfl rfl ?_
        refine x_getI 38 C dX8_seen_35 fl_X8_261 sk_68 rfl rfl ?_
        refine x_bipush 40 C dX8_seen_38 cb_8 rfl ?_
        refine x_icmp_ne 43 46 C dX8_seen_40 (by decide) rfl (fun _ => ?_) (fun _ => ?_)
        · refine x_aload_n 47 C dX8_seen_46 0 rfl rfl rfl ?_
          refine x_getR (c := 91) 50 C dX8_seen_47 fl_X8_76 sk_68 rfl sr_68_30 rfl ?_
          refine x_iconst 51 C dX8_seen_50 ci_3 rfl ?_
          refine x_aload_n 52 C dX8_seen_51 0 rfl rfl rfl ?_
          refine x_getI 55 C dX8_seen_52 fl_X8_261 sk_68 rfl rfl ?_
          refine x_imul 56 C dX8_seen_55 rfl ?_
          refine x_iload_n 57 C dX8_seen_56 1 rfl rfl rfl ?_
          refine x_iast 58 C dX8_seen_57 sk_91 sl_91 rfl (fun h4 => ?_)
          refine x_aload_n 59 C dX8_seen_58 0 rfl rfl rfl ?_
          refine x_getR (c := 91) 62 C dX8_seen_59 fl_X8_76 sk_68 rfl sr_68_30 rfl ?_
          refine x_iconst 63 C dX8_seen_62 ci_3 rfl ?_
          refine x_aload_n 64 C dX8_seen_63 0 rfl rfl rfl ?_
          refine x_getI 67 C dX8_seen_64 fl_X8_261 sk_68 rfl rfl ?_
          refine x_imul 68 C dX8_seen_67 rfl ?_
          refine x_iconst 69 C dX8_seen_68 ci_1 rfl ?_
          refine x_iadd 70 C dX8_seen_69 rfl ?_
          refine x_iload_n 71 C dX8_seen_70 2 rfl rfl rfl ?_
          refine x_iast 72 C dX8_seen_71 sk_91 sl_91 rfl (fun h5 => ?_)
          refine x_aload_n 73 C dX8_seen_72 0 rfl rfl rfl ?_
          refine x_getR (c := 91) 76 C dX8_seen_73 fl_X8_76 sk_68 rfl sr_68_30 rfl ?_
          refine x_iconst 77 C dX8_seen_76 ci_3 rfl ?_
          refine x_aload_n 78 C dX8_seen_77 0 rfl rfl rfl ?_
          refine x_getI 81 C dX8_seen_78 fl_X8_261 sk_68 rfl rfl ?_
          refine x_imul 82 C dX8_seen_81 rfl ?_
          refine x_iconst 83 C dX8_seen_82 ci_2 rfl ?_
          refine x_iadd 84 C dX8_seen_83 rfl ?_
          refine x_iload_n 85 C dX8_seen_84 3 rfl rfl rfl ?_
          refine x_iast 86 C dX8_seen_85 sk_91 sl_91 rfl (fun h6 => ?_)
          refine x_aload_n 87 C dX8_seen_86 0 rfl rfl rfl ?_
          refine x_dup 88 C dX8_seen_87 rfl rfl ?_
          refine x_getI 91 C dX8_seen_88 fl_X8_261 sk_68 rfl rfl ?_
          refine x_iconst 92 C dX8_seen_91 ci_1 rfl ?_
          refine x_iadd 93 C dX8_seen_92 rfl ?_
          refine x_put 96 C dX8_seen_93 fp_X8_261 sk_68 rfl rfl rfl rfl (fun h7 => ?_)
          refine x_aload_n 97 C dX8_seen_96 0 rfl rfl rfl ?_
          refine x_getI 100 C dX8_seen_97 fl_X8_261 sk_68 rfl rfl ?_
          exact x_iret C E dX8_seen_100 rfl
        · refine x_bipush 45 C dX8_seen_43 cb_m4 rfl ?_
          exact x_iret C E dX8_seen_45 rfl
      · refine x_bipush 33 C dX8_seen_31 cb_m2 rfl ?_
        exact x_iret C E dX8_seen_33 rfl

def f_X8_forget (h : Hp) : Option (Hp × Int32) :=
  nm (h.1 68 29) fun x1 =>
  nm (uf h 68 29 (0 : Int32)) fun h2 =>
  some (h2, x1)
theorem dX8_forget_0 : decode cX8_forget 0 = .ok (.aload_n 0, 1) := by decide +kernel
theorem dX8_forget_1 : decode cX8_forget 1 = .ok (.getfield 261, 3) := by decide +kernel
theorem dX8_forget_4 : decode cX8_forget 4 = .ok (.istore_n 1, 1) := by decide +kernel
theorem dX8_forget_5 : decode cX8_forget 5 = .ok (.aload_n 0, 1) := by decide +kernel
theorem dX8_forget_6 : decode cX8_forget 6 = .ok (.iconst 0, 1) := by decide +kernel
theorem dX8_forget_7 : decode cX8_forget 7 = .ok (.putfield 261, 3) := by decide +kernel
theorem dX8_forget_10 : decode cX8_forget 10 = .ok (.iload_n 1, 1) := by decide +kernel
theorem dX8_forget_11 : decode cX8_forget 11 = .ok (.ireturn, 1) := by decide +kernel
set_option maxRecDepth 20000 in
theorem m_X8_forget {h : Hp}  {u : (Hp × Int32)} (hu : f_X8_forget h = some u) : Ct yX8_forget cX8_forget 2 (some .int) 0 [.ref 68] h (eI u) := by
  refine ct_of eI hu (by decide) (Nat.le_of_ble_eq_true rfl) (fun κ hn C E => ?_)
  have n1 : 1 < kn κ := by rw [hn]; decide
  unfold f_X8_forget
  show Xz κ _ 0 [(0, .ref 68)] [] h
  refine x_aload_n 1 C dX8_forget_0 0 rfl rfl rfl ?_
  refine x_getI 4 C dX8_forget_1 fl_X8_261 sk_68 rfl rfl ?_
  refine x_ni (fun x1 => ?_)
  refine x_istore_n 5 [(1, .int x1), (0, .ref 68)] C dX8_forget_4 n1 rfl rfl rfl ?_
  refine x_aload_n 6 C dX8_forget_5 1 rfl rfl rfl ?_
  refine x_iconst 7 C dX8_forget_6 ci_0 rfl ?_
  refine x_put 10 C dX8_forget_7 fp_X8_261 sk_68 rfl rfl rfl rfl (fun h2 => ?_)
  refine x_iload_n 11 C dX8_forget_10 0 rfl rfl rfl ?_
  exact x_iret C E dX8_forget_11 rfl
